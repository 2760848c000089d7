theorem dX7_push_15 : decode cX7_push 15 = .ok (.aload_n 0, 1) := by decide +kernel
theorem dX7_push_16 : decode cX7_push 16 = .ok (.bipush 7, 2) := by decide +kernel
theorem dX7_push_18 : decode cX7_push 18 = .ok (.invokevirtual 70, 3) := by decide +kernel
theorem dX7_push_21 : decode cX7_push 21 = .ok (.iload_n 1, 1) := by decide +kernel
theorem dX7_push_22 : decode cX7_push 22 = .ok (.iload_n 2, 1) := by decide +kernel
theorem dX7_push_23 : decode cX7_push 23 = .ok (.invokevirtual 113, 3) := by decide +kernel
theorem dX7_push_26 : decode cX7_push 26 = .ok (.return_, 1) := by decide +kernel
theorem dX7_pop_0 : decode cX7_pop 0 = .ok (.aload_n 0, 1) := by decide +kernel
theorem dX7_pop_1 : decode cX7_pop 1 = .ok (.aload_n 0, 1) := by decide +kernel
theorem dX7_pop_2 : decode cX7_pop 2 = .ok (.bipush 7, 2) := by decide +kernel
theorem dX7_pop_4 : decode cX7_pop 4 = .ok (.invokevirtual 70, 3) := by decide +kernel
theorem dX7_pop_7 : decode cX7_pop 7 = .ok (.iload_n 1, 1) := by decide +kernel
theorem dX7_pop_8 : decode cX7_pop 8 = .ok (.invokevirtual 116, 3) := by decide +kernel
theorem dX7_pop_11 : decode cX7_pop 11 = .ok (.istore_n 2, 1) := by decide +kernel
theorem dX7_pop_12 : decode cX7_pop 12 = .ok (.aload_n 0, 1) := by decide +kernel
theorem dX7_pop_13 : decode cX7_pop 13 = .ok (.bipush 7, 2) := by decide +kernel
theorem dX7_pop_15 : decode cX7_pop 15 = .ok (.aload_n 0, 1) := by decide +kernel
theorem dX7_pop_16 : decode cX7_pop 16 = .ok (.bipush 7, 2) := by decide +kernel
theorem dX7_pop_18 : decode cX7_pop 18 = .ok (.invokevirtual 70, 3) := by decide +kernel
theorem dX7_pop_21 : decode cX7_pop 21 = .ok (.iload_n 1, 1) := by decide +kernel
theorem dX7_pop_22 : decode cX7_pop 22 = .ok (.iadd, 1) := by decide +kernel
theorem dX7_pop_23 : decode cX7_pop 23 = .ok (.invokevirtual 74, 3) := by decide +kernel
theorem dX7_pop_26 : decode cX7_pop 26 = .ok (.iload_n 2, 1) := by decide +kernel
theorem dX7_pop_27 : decode cX7_pop 27 = .ok (.ireturn, 1) := by decide +kernel
theorem dX7_extension_0 : decode cX7_extension 0 = .ok (.aload_n 0, 1) := by decide +kernel
theorem dX7_extension_1 : decode cX7_extension 1 = .ok (.aload_n 0, 1) := by decide +kernel
theorem dX7_extension_2 : decode cX7_extension 2 = .ok (.getfield 47, 3) := by decide +kernel
theorem dX7_extension_5 : decode cX7_extension 5 = .ok (.iconst 2, 1) := by decide +kernel
theorem dX7_extension_6 : decode cX7_extension 6 = .ok (.invokevirtual 116, 3) := by decide +kernel
theorem dX7_extension_9 : decode cX7_extension 9 = .ok (.istore_n 1, 1) := by decide +kernel
theorem dX7_extension_10 : decode cX7_extension 10 = .ok (.aload_n 0, 1) := by decide +kernel
theorem dX7_extension_11 : decode cX7_extension 11 = .ok (.aload_n 0, 1) := by decide +kernel
theorem dX7_extension_12 : decode cX7_extension 12 = .ok (.getfield 47, 3) := by decide +kernel
theorem dX7_extension_15 : decode cX7_extension 15 = .ok (.iconst 2, 1) := by decide +kernel
theorem dX7_extension_16 : decode cX7_extension 16 = .ok (.iadd, 1) := by decide +kernel
theorem dX7_extension_17 : decode cX7_extension 17 = .ok (.putfield 47, 3) := by decide +kernel
theorem dX7_extension_20 : decode cX7_extension 20 = .ok (.iload_n 1, 1) := by decide +kernel
theorem dX7_extension_21 : decode cX7_extension 21 = .ok (.ireturn, 1) := by decide +kernel
theorem dX7_extended_0 : decode cX7_extended 0 = .ok (.iload_n 1, 1) := by decide +kernel
theorem dX7_extended_1 : decode cX7_extended 1 = .ok (.iconst 1, 1) := by decide +kernel
theorem dX7_extended_2 : decode cX7_extended 2 = .ok (.if_icmp .ne 8, 3) := by decide +kernel
theorem dX7_extended_5 : decode cX7_extended 5 = .ok (.iload_n 0, 1) := by decide +kernel
theorem dX7_extended_6 : decode cX7_extended 6 = .ok (.i2b, 1) := by decide +kernel
theorem dX7_extended_7 : decode cX7_extended 7 = .ok (.goto 14, 3) := by decide +kernel
theorem dX7_extended_10 : decode cX7_extended 10 = .ok (.iload_n 1, 1) := by decide +kernel
theorem dX7_extended_11 : decode cX7_extended 11 = .ok (.iconst 2, 1) := by decide +kernel
theorem dX7_extended_12 : decode cX7_extended 12 = .ok (.if_icmp .ne 8, 3) := by decide +kernel
theorem dX7_extended_15 : decode cX7_extended 15 = .ok (.iload_n 0, 1) := by decide +kernel
theorem dX7_extended_16 : decode cX7_extended 16 = .ok (.i2s, 1) := by decide +kernel
theorem dX7_extended_17 : decode cX7_extended 17 = .ok (.goto 4, 3) := by decide +kernel
theorem dX7_extended_20 : decode cX7_extended 20 = .ok (.iload_n 0, 1) := by decide +kernel
theorem dX7_extended_21 : decode cX7_extended 21 = .ok (.ireturn, 1) := by decide +kernel
theorem dX7_plain_0 : decode cX7_plain 0 = .ok (.iload_n 1, 1) := by decide +kernel
theorem dX7_plain_1 : decode cX7_plain 1 = .ok (.iconst 1, 1) := by decide +kernel
theorem dX7_plain_2 : decode cX7_plain 2 = .ok (.if_icmp .ne 12, 3) := by decide +kernel
theorem dX7_plain_5 : decode cX7_plain 5 = .ok (.iload_n 0, 1) := by decide +kernel
theorem dX7_plain_6 : decode cX7_plain 6 = .ok (.i2l, 1) := by decide +kernel
theorem dX7_plain_7 : decode cX7_plain 7 = .ok (.ldc2_w 119, 3) := by decide +kernel
theorem dX7_plain_10 : decode cX7_plain 10 = .ok (.land, 1) := by decide +kernel
theorem dX7_plain_11 : decode cX7_plain 11 = .ok (.goto 23, 3) := by decide +kernel
theorem dX7_plain_14 : decode cX7_plain 14 = .ok (.iload_n 1, 1) := by decide +kernel
theorem dX7_plain_15 : decode cX7_plain 15 = .ok (.iconst 2, 1) := by decide +kernel
theorem dX7_plain_16 : decode cX7_plain 16 = .ok (.if_icmp .ne 12, 3) := by decide +kernel
theorem dX7_plain_19 : decode cX7_plain 19 = .ok (.iload_n 0, 1) := by decide +kernel
theorem dX7_plain_20 : decode cX7_plain 20 = .ok (.i2l, 1) := by decide +kernel
theorem dX7_plain_21 : decode cX7_plain 21 = .ok (.ldc2_w 121, 3) := by decide +kernel
theorem dX7_plain_24 : decode cX7_plain 24 = .ok (.land, 1) := by decide +kernel
theorem dX7_plain_25 : decode cX7_plain 25 = .ok (.goto 9, 3) := by decide +kernel
theorem dX7_plain_28 : decode cX7_plain 28 = .ok (.iload_n 0, 1) := by decide +kernel
theorem dX7_plain_29 : decode cX7_plain 29 = .ok (.i2l, 1) := by decide +kernel
theorem dX7_plain_30 : decode cX7_plain 30 = .ok (.ldc2_w 123, 3) := by decide +kernel
theorem dX7_plain_33 : decode cX7_plain 33 = .ok (.land, 1) := by decide +kernel
theorem dX7_plain_34 : decode cX7_plain 34 = .ok (.lreturn, 1) := by decide +kernel
theorem dX7_fits_0 : decode cX7_fits 0 = .ok (.iload_n 0, 1) := by decide +kernel
theorem dX7_fits_1 : decode cX7_fits 1 = .ok (.iconst 3, 1) := by decide +kernel
theorem dX7_fits_2 : decode cX7_fits 2 = .ok (.ishr, 1) := by decide +kernel
theorem dX7_fits_3 : decode cX7_fits 3 = .ok (.bipush 7, 2) := by decide +kernel
theorem dX7_fits_5 : decode cX7_fits 5 = .ok (.iand, 1) := by decide +kernel
theorem dX7_fits_6 : decode cX7_fits 6 = .ok (.istore_n 3, 1) := by decide +kernel
theorem dX7_fits_7 : decode cX7_fits 7 = .ok (.iload_n 0, 1) := by decide +kernel
theorem dX7_fits_8 : decode cX7_fits 8 = .ok (.bipush 7, 2) := by decide +kernel
theorem dX7_fits_10 : decode cX7_fits 10 = .ok (.iand, 1) := by decide +kernel
theorem dX7_fits_11 : decode cX7_fits 11 = .ok (.istore 4, 2) := by decide +kernel
theorem dX7_fits_13 : decode cX7_fits 13 = .ok (.iload_n 3, 1) := by decide +kernel
theorem dX7_fits_14 : decode cX7_fits 14 = .ok (.bipush 7, 2) := by decide +kernel
theorem dX7_fits_16 : decode cX7_fits 16 = .ok (.if_icmp .ne 9, 3) := by decide +kernel
theorem dX7_fits_19 : decode cX7_fits 19 = .ok (.iload 4, 2) := by decide +kernel
theorem dX7_fits_21 : decode cX7_fits 21 = .ok (.iconst 4, 1) := by decide +kernel
theorem dX7_fits_22 : decode cX7_fits 22 = .ok (.if_icmp .gt 13, 3) := by decide +kernel
theorem dX7_fits_25 : decode cX7_fits 25 = .ok (.iload_n 3, 1) := by decide +kernel
theorem dX7_fits_26 : decode cX7_fits 26 = .ok (.iconst 1, 1) := by decide +kernel
theorem dX7_fits_27 : decode cX7_fits 27 = .ok (.if_icmp .ne 10, 3) := by decide +kernel
theorem dX7_fits_30 : decode cX7_fits 30 = .ok (.iload_n 2, 1) := by decide +kernel
theorem dX7_fits_31 : decode cX7_fits 31 = .ok (.iconst 1, 1) := by decide +kernel
theorem dX7_fits_32 : decode cX7_fits 32 = .ok (.if_icmp .ne 5, 3) := by decide +kernel
theorem dX7_fits_35 : decode cX7_fits 35 = .ok (.iconst 0, 1) := by decide +kernel
theorem dX7_fits_36 : decode cX7_fits 36 = .ok (.ireturn, 1) := by decide +kernel
theorem dX7_fits_37 : decode cX7_fits 37 = .ok (.iload_n 3, 1) := by decide +kernel
theorem dX7_fits_38 : decode cX7_fits 38 = .ok (.bipush 7, 2) := by decide +kernel
theorem dX7_fits_40 : decode cX7_fits 40 = .ok (.if_icmp .lt 9, 3) := by decide +kernel
theorem dX7_fits_43 : decode cX7_fits 43 = .ok (.iload 4, 2) := by decide +kernel
theorem dX7_fits_45 : decode cX7_fits 45 = .ok (.iconst 2, 1) := by decide +kernel
theorem dX7_fits_46 : decode cX7_fits 46 = .ok (.if_icmp .ge 7, 3) := by decide +kernel
theorem dX7_fits_49 : decode cX7_fits 49 = .ok (.iconst 1, 1) := by decide +kernel
theorem dX7_fits_50 : decode cX7_fits 50 = .ok (.goto 4, 3) := by decide +kernel
theorem dX7_fits_53 : decode cX7_fits 53 = .ok (.iconst 0, 1) := by decide +kernel
theorem dX7_fits_54 : decode cX7_fits 54 = .ok (.istore 5, 2) := by decide +kernel
theorem dX7_fits_56 : decode cX7_fits 56 = .ok (.iload_n 3, 1) := by decide +kernel
theorem dX7_fits_57 : decode cX7_fits 57 = .ok (.iconst 2, 1) := by decide +kernel
theorem dX7_fits_58 : decode cX7_fits 58 = .ok (.if_icmp .eq 26, 3) := by decide +kernel
theorem dX7_fits_61 : decode cX7_fits 61 = .ok (.iload_n 3, 1) := by decide +kernel
theorem dX7_fits_62 : decode cX7_fits 62 = .ok (.iconst 5, 1) := by decide +kernel
theorem dX7_fits_63 : decode cX7_fits 63 = .ok (.if_icmp .eq 21, 3) := by decide +kernel
theorem dX7_fits_66 : decode cX7_fits 66 = .ok (.iload_n 3, 1) := by decide +kernel
theorem dX7_fits_67 : decode cX7_fits 67 = .ok (.bipush 6, 2) := by decide +kernel
theorem dX7_fits_69 : decode cX7_fits 69 = .ok (.if_icmp .eq 15, 3) := by decide +kernel
theorem dX7_fits_72 : decode cX7_fits 72 = .ok (.iload_n 3, 1) := by decide +kernel
theorem dX7_fits_73 : decode cX7_fits 73 = .ok (.bipush 7, 2) := by decide +kernel
theorem dX7_fits_75 : decode cX7_fits 75 = .ok (.if_icmp .ne 13, 3) := by decide +kernel
theorem dX7_fits_78 : decode cX7_fits 78 = .ok (.iload 4, 2) := by decide +kernel
theorem dX7_fits_80 : decode cX7_fits 80 = .ok (.iconst 4, 1) := by decide +kernel
theorem dX7_fits_81 : decode cX7_fits 81 = .ok (.if_icmp .ge 7, 3) := by decide +kernel
theorem dX7_fits_84 : decode cX7_fits 84 = .ok (.iconst 1, 1) := by decide +kernel
theorem dX7_fits_85 : decode cX7_fits 85 = .ok (.goto 4, 3) := by decide +kernel
theorem dX7_fits_88 : decode cX7_fits 88 = .ok (.iconst 0, 1) := by decide +kernel
theorem dX7_fits_89 : decode cX7_fits 89 = .ok (.istore 6, 2) := by decide +kernel
theorem dX7_fits_91 : decode cX7_fits 91 = .ok (.iload_n 1, 1) := by decide +kernel
theorem dX7_fits_92 : decode cX7_fits 92 = .ok (.tableswitch 91 0 5 #[40, 42, 53, 69, 72, 88], 40) := by decide +kernel
theorem dX7_fits_132 : decode cX7_fits 132 = .ok (.iconst 1, 1) := by decide +kernel
theorem dX7_fits_133 : decode cX7_fits 133 = .ok (.ireturn, 1) := by decide +kernel
theorem dX7_fits_134 : decode cX7_fits 134 = .ok (.iload_n 3, 1) := by decide +kernel
theorem dX7_fits_135 : decode cX7_fits 135 = .ok (.iconst 1, 1) := by decide +kernel
theorem dX7_fits_136 : decode cX7_fits 136 = .ok (.if_icmp .eq 7, 3) := by decide +kernel
theorem dX7_fits_139 : decode cX7_fits 139 = .ok (.iconst 1, 1) := by decide +kernel
theorem dX7_fits_140 : decode cX7_fits 140 = .ok (.goto 4, 3) := by decide +kernel
theorem dX7_fits_143 : decode cX7_fits 143 = .ok (.iconst 0, 1) := by decide +kernel
theorem dX7_fits_144 : decode cX7_fits 144 = .ok (.ireturn, 1) := by decide +kernel
theorem dX7_fits_145 : decode cX7_fits 145 = .ok (.iload_n 3, 1) := by decide +kernel
theorem dX7_fits_146 : decode cX7_fits 146 = .ok (.iconst 1, 1) := by decide +kernel
theorem dX7_fits_147 : decode cX7_fits 147 = .ok (.if_icmp .le 12, 3) := by decide +kernel
theorem dX7_fits_150 : decode cX7_fits 150 = .ok (.iload 5, 2) := by decide +kernel
theorem dX7_fits_152 : decode cX7_fits 152 = .ok (.ifCond .eq 7, 3) := by decide +kernel
theorem dX7_fits_155 : decode cX7_fits 155 = .ok (.iconst 1, 1) := by decide +kernel
theorem dX7_fits_156 : decode cX7_fits 156 = .ok (.goto 4, 3) := by decide +kernel
theorem dX7_fits_159 : decode cX7_fits 159 = .ok (.iconst 0, 1) := by decide +kernel
theorem dX7_fits_160 : decode cX7_fits 160 = .ok (.ireturn, 1) := by decide +kernel
theorem dX7_fits_161 : decode cX7_fits 161 = .ok (.iload 6, 2) := by decide +kernel
theorem dX7_fits_163 : decode cX7_fits 163 = .ok (.ireturn, 1) := by decide +kernel
theorem dX7_fits_164 : decode cX7_fits 164 = .ok (.iload_n 3, 1) := by decide +kernel
theorem dX7_fits_165 : decode cX7_fits 165 = .ok (.iconst 1, 1) := by decide +kernel
theorem dX7_fits_166 : decode cX7_fits 166 = .ok (.if_icmp .eq 12, 3) := by decide +kernel
theorem dX7_fits_169 : decode cX7_fits 169 = .ok (.iload 5, 2) := by decide +kernel
theorem dX7_fits_171 : decode cX7_fits 171 = .ok (.ifCond .eq 7, 3) := by decide +kernel
theorem dX7_fits_174 : decode cX7_fits 174 = .ok (.iconst 1, 1) := by decide +kernel
theorem dX7_fits_175 : decode cX7_fits 175 = .ok (.goto 4, 3) := by decide +kernel
theorem dX7_fits_178 : decode cX7_fits 178 = .ok (.iconst 0, 1) := by decide +kernel
theorem dX7_fits_179 : decode cX7_fits 179 = .ok (.ireturn, 1) := by decide +kernel
theorem dX7_fits_180 : decode cX7_fits 180 = .ok (.iload 5, 2) := by decide +kernel
theorem dX7_fits_182 : decode cX7_fits 182 = .ok (.ireturn, 1) := by decide +kernel
theorem dX7_fits_183 : decode cX7_fits 183 = .ok (.iload 6, 2) := by decide +kernel
theorem dX7_fits_185 : decode cX7_fits 185 = .ok (.ifCond .eq 12, 3) := by decide +kernel
theorem dX7_fits_188 : decode cX7_fits 188 = .ok (.iload 5, 2) := by decide +kernel
theorem dX7_fits_190 : decode cX7_fits 190 = .ok (.ifCond .eq 7, 3) := by decide +kernel
theorem dX7_fits_193 : decode cX7_fits 193 = .ok (.iconst 1, 1) := by decide +kernel
theorem dX7_fits_194 : decode cX7_fits 194 = .ok (.goto 4, 3) := by decide +kernel
theorem dX7_fits_197 : decode cX7_fits 197 = .ok (.iconst 0, 1) := by decide +kernel
theorem dX7_fits_198 : decode cX7_fits 198 = .ok (.ireturn, 1) := by decide +kernel
theorem dX7_indexed_0 : decode cX7_indexed 0 = .ok (.aload_n 0, 1) := by decide +kernel
theorem dX7_indexed_1 : decode cX7_indexed 1 = .ok (.invokevirtual 125, 3) := by decide +kernel
theorem dX7_indexed_4 : decode cX7_indexed 4 = .ok (.istore_n 2, 1) := by decide +kernel
theorem dX7_indexed_5 : decode cX7_indexed 5 = .ok (.iload_n 2, 1) := by decide +kernel
theorem dX7_indexed_6 : decode cX7_indexed 6 = .ok (.bipush 12, 2) := by decide +kernel
theorem dX7_indexed_8 : decode cX7_indexed 8 = .ok (.ishr, 1) := by decide +kernel
theorem dX7_indexed_9 : decode cX7_indexed 9 = .ok (.bipush 7, 2) := by decide +kernel
theorem dX7_indexed_11 : decode cX7_indexed 11 = .ok (.iand, 1) := by decide +kernel
theorem dX7_indexed_12 : decode cX7_indexed 12 = .ok (.istore_n 3, 1) := by decide +kernel
theorem dX7_indexed_13 : decode cX7_indexed 13 = .ok (.iload_n 2, 1) := by decide +kernel
theorem dX7_indexed_14 : decode cX7_indexed 14 = .ok (.ldc 128, 2) := by decide +kernel
theorem dX7_indexed_16 : decode cX7_indexed 16 = .ok (.iand, 1) := by decide +kernel
theorem dX7_indexed_17 : decode cX7_indexed 17 = .ok (.ifCond .eq 11, 3) := by decide +kernel
theorem dX7_indexed_20 : decode cX7_indexed 20 = .ok (.aload_n 0, 1) := by decide +kernel
theorem dX7_indexed_21 : decode cX7_indexed 21 = .ok (.iload_n 3, 1) := by decide +kernel
theorem dX7_indexed_22 : decode cX7_indexed 22 = .ok (.invokevirtual 70, 3) := by decide +kernel
theorem dX7_indexed_25 : decode cX7_indexed 25 = .ok (.goto 9, 3) := by decide +kernel
theorem dX7_indexed_28 : decode cX7_indexed 28 = .ok (.aload_n 0, 1) := by decide +kernel
theorem dX7_indexed_29 : decode cX7_indexed 29 = .ok (.getfield 13, 3) := by decide +kernel
theorem dX7_indexed_32 : decode cX7_indexed 32 = .ok (.iload_n 3, 1) := by decide +kernel
theorem dX7_indexed_33 : decode cX7_indexed 33 = .ok (.iaload, 1) := by decide +kernel
theorem dX7_indexed_34 : decode cX7_indexed 34 = .ok (.istore 4, 2) := by decide +kernel
theorem dX7_indexed_36 : decode cX7_indexed 36 = .ok (.iload_n 2, 1) := by decide +kernel
theorem dX7_indexed_37 : decode cX7_indexed 37 = .ok (.sipush 2048, 3) := by decide +kernel
theorem dX7_indexed_40 : decode cX7_indexed 40 = .ok (.iand, 1) := by decide +kernel
theorem dX7_indexed_41 : decode cX7_indexed 41 = .ok (.ifCond .eq 8, 3) := by decide +kernel
theorem dX7_indexed_44 : decode cX7_indexed 44 = .ok (.iload 4, 2) := by decide +kernel
theorem dX7_indexed_46 : decode cX7_indexed 46 = .ok (.goto 6, 3) := by decide +kernel
theorem dX7_indexed_49 : decode cX7_indexed 49 = .ok (.iload 4, 2) := by decide +kernel
theorem dX7_indexed_51 : decode cX7_indexed 51 = .ok (.i2s, 1) := by decide +kernel
theorem dX7_indexed_52 : decode cX7_indexed 52 = .ok (.istore 4, 2) := by decide +kernel
theorem dX7_indexed_54 : decode cX7_indexed 54 = .ok (.iload_n 1, 1) := by decide +kernel
theorem dX7_indexed_55 : decode cX7_indexed 55 = .ok (.iload_n 2, 1) := by decide +kernel
theorem dX7_indexed_56 : decode cX7_indexed 56 = .ok (.i2b, 1) := by decide +kernel
theorem dX7_indexed_57 : decode cX7_indexed 57 = .ok (.iadd, 1) := by decide +kernel
theorem dX7_indexed_58 : decode cX7_indexed 58 = .ok (.iload 4, 2) := by decide +kernel
theorem dX7_indexed_60 : decode cX7_indexed 60 = .ok (.iadd, 1) := by decide +kernel
theorem dX7_indexed_61 : decode cX7_indexed 61 = .ok (.ireturn, 1) := by decide +kernel
theorem dX7_operand_0 : decode cX7_operand 0 = .ok (.iload_n 1, 1) := by decide +kernel
theorem dX7_operand_1 : decode cX7_operand 1 = .ok (.iconst 3, 1) := by decide +kernel
theorem dX7_operand_2 : decode cX7_operand 2 = .ok (.ishr, 1) := by decide +kernel
theorem dX7_operand_3 : decode cX7_operand 3 = .ok (.bipush 7, 2) := by decide +kernel
theorem dX7_operand_5 : decode cX7_operand 5 = .ok (.iand, 1) := by decide +kernel
theorem dX7_operand_6 : decode cX7_operand 6 = .ok (.istore_n 3, 1) := by decide +kernel
theorem dX7_operand_7 : decode cX7_operand 7 = .ok (.iload_n 1, 1) := by decide +kernel
theorem dX7_operand_8 : decode cX7_operand 8 = .ok (.bipush 7, 2) := by decide +kernel
theorem dX7_operand_10 : decode cX7_operand 10 = .ok (.iand, 1) := by decide +kernel
theorem dX7_operand_11 : decode cX7_operand 11 = .ok (.istore 4, 2) := by decide +kernel
theorem dX7_operand_13 : decode cX7_operand 13 = .ok (.aload_n 0, 1) := by decide +kernel
theorem dX7_operand_14 : decode cX7_operand 14 = .ok (.iload 4, 2) := by decide +kernel
theorem dX7_operand_16 : decode cX7_operand 16 = .ok (.putfield 129, 3) := by decide +kernel
theorem dX7_operand_19 : decode cX7_operand 19 = .ok (.aload_n 0, 1) := by decide +kernel
theorem dX7_operand_20 : decode cX7_operand 20 = .ok (.iload_n 3, 1) := by decide +kernel
theorem dX7_operand_21 : decode cX7_operand 21 = .ok (.ifCond .ne 7, 3) := by decide +kernel
theorem dX7_operand_24 : decode cX7_operand 24 = .ok (.iconst 0, 1) := by decide +kernel
theorem dX7_operand_25 : decode cX7_operand 25 = .ok (.goto 29, 3) := by decide +kernel
theorem dX7_operand_28 : decode cX7_operand 28 = .ok (.iload_n 3, 1) := by decide +kernel
theorem dX7_operand_29 : decode cX7_operand 29 = .ok (.iconst 1, 1) := by decide +kernel
theorem dX7_operand_30 : decode cX7_operand 30 = .ok (.if_icmp .ne 7, 3) := by decide +kernel
theorem dX7_operand_33 : decode cX7_operand 33 = .ok (.iconst 1, 1) := by decide +kernel
theorem dX7_operand_34 : decode cX7_operand 34 = .ok (.goto 20, 3) := by decide +kernel
theorem dX7_operand_37 : decode cX7_operand 37 = .ok (.iload_n 3, 1) := by decide +kernel
theorem dX7_operand_38 : decode cX7_operand 38 = .ok (.bipush 7, 2) := by decide +kernel
theorem dX7_operand_40 : decode cX7_operand 40 = .ok (.if_icmp .ne 13, 3) := by decide +kernel
theorem dX7_operand_43 : decode cX7_operand 43 = .ok (.iload 4, 2) := by decide +kernel
theorem dX7_operand_45 : decode cX7_operand 45 = .ok (.iconst 4, 1) := by decide +kernel
theorem dX7_operand_46 : decode cX7_operand 46 = .ok (.if_icmp .ne 7, 3) := by decide +kernel
theorem dX7_operand_49 : decode cX7_operand 49 = .ok (.iconst 3, 1) := by decide +kernel
theorem dX7_operand_50 : decode cX7_operand 50 = .ok (.goto 4, 3) := by decide +kernel
theorem dX7_operand_53 : decode cX7_operand 53 = .ok (.iconst 2, 1) := by decide +kernel
theorem dX7_operand_54 : decode cX7_operand 54 = .ok (.putfield 132, 3) := by decide +kernel
theorem dX7_operand_57 : decode cX7_operand 57 = .ok (.iload_n 2, 1) := by decide +kernel
theorem dX7_operand_58 : decode cX7_operand 58 = .ok (.iconst 1, 1) := by decide +kernel
theorem dX7_operand_59 : decode cX7_operand 59 = .ok (.if_icmp .ne 14, 3) := by decide +kernel
theorem dX7_operand_62 : decode cX7_operand 62 = .ok (.iload 4, 2) := by decide +kernel
theorem dX7_operand_64 : decode cX7_operand 64 = .ok (.bipush 7, 2) := by decide +kernel
theorem dX7_operand_66 : decode cX7_operand 66 = .ok (.if_icmp .ne 7, 3) := by decide +kernel
theorem dX7_operand_69 : decode cX7_operand 69 = .ok (.iconst 2, 1) := by decide +kernel
theorem dX7_operand_70 : decode cX7_operand 70 = .ok (.goto 4, 3) := by decide +kernel
theorem dX7_operand_73 : decode cX7_operand 73 = .ok (.iload_n 2, 1) := by decide +kernel
theorem dX7_operand_74 : decode cX7_operand 74 = .ok (.istore 5, 2) := by decide +kernel
theorem dX7_operand_76 : decode cX7_operand 76 = .ok (.iload_n 3, 1) := by decide +kernel
theorem dX7_operand_77 : decode cX7_operand 77 = .ok (.iconst 2, 1) := by decide +kernel
theorem dX7_operand_78 : decode cX7_operand 78 = .ok (.if_icmp .ne 16, 3) := by decide +kernel
theorem dX7_operand_81 : decode cX7_operand 81 = .ok (.aload_n 0, 1) := by decide +kernel
theorem dX7_operand_82 : decode cX7_operand 82 = .ok (.aload_n 0, 1) := by decide +kernel
theorem dX7_operand_83 : decode cX7_operand 83 = .ok (.iload 4, 2) := by decide +kernel
theorem dX7_operand_85 : decode cX7_operand 85 = .ok (.invokevirtual 70, 3) := by decide +kernel
theorem dX7_operand_88 : decode cX7_operand 88 = .ok (.putfield 135, 3) := by decide +kernel
theorem dX7_operand_91 : decode cX7_operand 91 = .ok (.goto 247, 3) := by decide +kernel
theorem dX7_operand_94 : decode cX7_operand 94 = .ok (.iload_n 3, 1) := by decide +kernel
theorem dX7_operand_95 : decode cX7_operand 95 = .ok (.iconst 3, 1) := by decide +kernel
theorem dX7_operand_96 : decode cX7_operand 96 = .ok (.if_icmp .ne 29, 3) := by decide +kernel
theorem dX7_operand_99 : decode cX7_operand 99 = .ok (.aload_n 0, 1) := by decide +kernel
theorem dX7_operand_100 : decode cX7_operand 100 = .ok (.aload_n 0, 1) := by decide +kernel
theorem dX7_operand_101 : decode cX7_operand 101 = .ok (.iload 4, 2) := by decide +kernel
theorem dX7_operand_103 : decode cX7_operand 103 = .ok (.invokevirtual 70, 3) := by decide +kernel
theorem dX7_operand_106 : decode cX7_operand 106 = .ok (.putfield 135, 3) := by decide +kernel
theorem dX7_operand_109 : decode cX7_operand 109 = .ok (.aload_n 0, 1) := by decide +kernel
theorem dX7_operand_110 : decode cX7_operand 110 = .ok (.iload 4, 2) := by decide +kernel
theorem dX7_operand_112 : decode cX7_operand 112 = .ok (.aload_n 0, 1) := by decide +kernel
theorem dX7_operand_113 : decode cX7_operand 113 = .ok (.getfield 135, 3) := by decide +kernel
theorem dX7_operand_116 : decode cX7_operand 116 = .ok (.iload 5, 2) := by decide +kernel
theorem dX7_operand_118 : decode cX7_operand 118 = .ok (.iadd, 1) := by decide +kernel
theorem dX7_operand_119 : decode cX7_operand 119 = .ok (.invokevirtual 74, 3) := by decide +kernel
theorem dX7_operand_122 : decode cX7_operand 122 = .ok (.goto 216, 3) := by decide +kernel
theorem dX7_operand_125 : decode cX7_operand 125 = .ok (.iload_n 3, 1) := by decide +kernel
theorem dX7_operand_126 : decode cX7_operand 126 = .ok (.iconst 4, 1) := by decide +kernel
theorem dX7_operand_127 : decode cX7_operand 127 = .ok (.if_icmp .ne 31, 3) := by decide +kernel
theorem dX7_operand_130 : decode cX7_operand 130 = .ok (.aload_n 0, 1) := by decide +kernel
theorem dX7_operand_131 : decode cX7_operand 131 = .ok (.iload 4, 2) := by decide +kernel
theorem dX7_operand_133 : decode cX7_operand 133 = .ok (.aload_n 0, 1) := by decide +kernel
theorem dX7_operand_134 : decode cX7_operand 134 = .ok (.iload 4, 2) := by decide +kernel
theorem dX7_operand_136 : decode cX7_operand 136 = .ok (.invokevirtual 70, 3) := by decide +kernel
theorem dX7_operand_139 : decode cX7_operand 139 = .ok (.iload 5, 2) := by decide +kernel
theorem dX7_operand_141 : decode cX7_operand 141 = .ok (.isub, 1) := by decide +kernel
theorem dX7_operand_142 : decode cX7_operand 142 = .ok (.invokevirtual 74, 3) := by decide +kernel
theorem dX7_operand_145 : decode cX7_operand 145 = .ok (.aload_n 0, 1) := by decide +kernel
theorem dX7_operand_146 : decode cX7_operand 146 = .ok (.aload_n 0, 1) := by decide +kernel
theorem dX7_operand_147 : decode cX7_operand 147 = .ok (.iload 4, 2) := by decide +kernel
theorem dX7_operand_149 : decode cX7_operand 149 = .ok (.invokevirtual 70, 3) := by decide +kernel
theorem dX7_operand_152 : decode cX7_operand 152 = .ok (.putfield 135, 3) := by decide +kernel
theorem dX7_operand_155 : decode cX7_operand 155 = .ok (.goto 183, 3) := by decide +kernel
theorem dX7_operand_158 : decode cX7_operand 158 = .ok (.iload_n 3, 1) := by decide +kernel
theorem dX7_operand_159 : decode cX7_operand 159 = .ok (.iconst 5, 1) := by decide +kernel
theorem dX7_operand_160 : decode cX7_operand 160 = .ok (.if_icmp .ne 22, 3) := by decide +kernel
theorem dX7_operand_163 : decode cX7_operand 163 = .ok (.aload_n 0, 1) := by decide +kernel
theorem dX7_operand_164 : decode cX7_operand 164 = .ok (.aload_n 0, 1) := by decide +kernel
theorem dX7_operand_165 : decode cX7_operand 165 = .ok (.iload 4, 2) := by decide +kernel
theorem dX7_operand_167 : decode cX7_operand 167 = .ok (.invokevirtual 70, 3) := by decide +kernel
theorem dX7_operand_170 : decode cX7_operand 170 = .ok (.aload_n 0, 1) := by decide +kernel
theorem dX7_operand_171 : decode cX7_operand 171 = .ok (.invokevirtual 125, 3) := by decide +kernel
theorem dX7_operand_174 : decode cX7_operand 174 = .ok (.i2s, 1) := by decide +kernel
theorem dX7_operand_175 : decode cX7_operand 175 = .ok (.iadd, 1) := by decide +kernel
theorem dX7_operand_176 : decode cX7_operand 176 = .ok (.putfield 135, 3) := by decide +kernel
theorem dX7_operand_179 : decode cX7_operand 179 = .ok (.goto 159, 3) := by decide +kernel
theorem dX7_operand_182 : decode cX7_operand 182 = .ok (.iload_n 3, 1) := by decide +kernel
theorem dX7_operand_183 : decode cX7_operand 183 = .ok (.bipush 6, 2) := by decide +kernel
theorem dX7_operand_185 : decode cX7_operand 185 = .ok (.if_icmp .ne 20, 3) := by decide +kernel
theorem dX7_operand_188 : decode cX7_operand 188 = .ok (.aload_n 0, 1) := by decide +kernel
theorem dX7_operand_189 : decode cX7_operand 189 = .ok (.aload_n 0, 1) := by decide +kernel
theorem dX7_operand_190 : decode cX7_operand 190 = .ok (.aload_n 0, 1) := by decide +kernel
theorem dX7_operand_191 : decode cX7_operand 191 = .ok (.iload 4, 2) := by decide +kernel
theorem dX7_operand_193 : decode cX7_operand 193 = .ok (.invokevirtual 70, 3) := by decide +kernel
theorem dX7_operand_196 : decode cX7_operand 196 = .ok (.invokevirtual 138, 3) := by decide +kernel
theorem dX7_operand_199 : decode cX7_operand 199 = .ok (.putfield 135, 3) := by decide +kernel
theorem dX7_operand_202 : decode cX7_operand 202 = .ok (.goto 136, 3) := by decide +kernel
theorem dX7_operand_205 : decode cX7_operand 205 = .ok (.iload_n 3, 1) := by decide +kernel
theorem dX7_operand_206 : decode cX7_operand 206 = .ok (.bipush 7, 2) := by decide +kernel
theorem dX7_operand_208 : decode cX7_operand 208 = .ok (.if_icmp .ne 20, 3) := by decide +kernel
theorem dX7_operand_211 : decode cX7_operand 211 = .ok (.iload 4, 2) := by decide +kernel
theorem dX7_operand_213 : decode cX7_operand 213 = .ok (.ifCond .ne 15, 3) := by decide +kernel
theorem dX7_operand_216 : decode cX7_operand 216 = .ok (.aload_n 0, 1) := by decide +kernel
theorem dX7_operand_217 : decode cX7_operand 217 = .ok (.aload_n 0, 1) := by decide +kernel
theorem dX7_operand_218 : decode cX7_operand 218 = .ok (.invokevirtual 125, 3) := by decide +kernel
theorem dX7_operand_221 : decode cX7_operand 221 = .ok (.i2s, 1) := by decide +kernel
theorem dX7_operand_222 : decode cX7_operand 222 = .ok (.putfield 135, 3) := by decide +kernel
theorem dX7_operand_225 : decode cX7_operand 225 = .ok (.goto 113, 3) := by decide +kernel
theorem dX7_operand_228 : decode cX7_operand 228 = .ok (.iload_n 3, 1) := by decide +kernel
theorem dX7_operand_229 : decode cX7_operand 229 = .ok (.bipush 7, 2) := by decide +kernel
theorem dX7_operand_231 : decode cX7_operand 231 = .ok (.if_icmp .ne 32, 3) := by decide +kernel
theorem dX7_operand_234 : decode cX7_operand 234 = .ok (.iload 4, 2) := by decide +kernel
theorem dX7_operand_236 : decode cX7_operand 236 = .ok (.iconst 1, 1) := by decide +kernel
theorem dX7_operand_237 : decode cX7_operand 237 = .ok (.if_icmp .ne 26, 3) := by decide +kernel
theorem dX7_operand_240 : decode cX7_operand 240 = .ok (.aload_n 0, 1) := by decide +kernel
theorem dX7_operand_241 : decode cX7_operand 241 = .ok (.invokevirtual 125, 3) := by decide +kernel
theorem dX7_operand_244 : decode cX7_operand 244 = .ok (.istore 6, 2) := by decide +kernel
theorem dX7_operand_246 : decode cX7_operand 246 = .ok (.aload_n 0, 1) := by decide +kernel
theorem dX7_operand_247 : decode cX7_operand 247 = .ok (.iload 6, 2) := by decide +kernel
theorem dX7_operand_249 : decode cX7_operand 249 = .ok (.bipush 16, 2) := by decide +kernel
theorem dX7_operand_251 : decode cX7_operand 251 = .ok (.ishl, 1) := by decide +kernel
theorem dX7_operand_252 : decode cX7_operand 252 = .ok (.aload_n 0, 1) := by decide +kernel
theorem dX7_operand_253 : decode cX7_operand 253 = .ok (.invokevirtual 125, 3) := by decide +kernel
theorem dX7_operand_256 : decode cX7_operand 256 = .ok (.ior, 1) := by decide +kernel
theorem dX7_operand_257 : decode cX7_operand 257 = .ok (.putfield 135, 3) := by decide +kernel
theorem dX7_operand_260 : decode cX7_operand 260 = .ok (.goto 78, 3) := by decide +kernel
theorem dX7_operand_263 : decode cX7_operand 263 = .ok (.iload_n 3, 1) := by decide +kernel
theorem dX7_operand_264 : decode cX7_operand 264 = .ok (.bipush 7, 2) := by decide +kernel
theorem dX7_operand_266 : decode cX7_operand 266 = .ok (.if_icmp .ne 30, 3) := by decide +kernel
theorem dX7_operand_269 : decode cX7_operand 269 = .ok (.iload 4, 2) := by decide +kernel
theorem dX7_operand_271 : decode cX7_operand 271 = .ok (.iconst 2, 1) := by decide +kernel
theorem dX7_operand_272 : decode cX7_operand 272 = .ok (.if_icmp .ne 24, 3) := by decide +kernel
theorem dX7_operand_275 : decode cX7_operand 275 = .ok (.aload_n 0, 1) := by decide +kernel
theorem dX7_operand_276 : decode cX7_operand 276 = .ok (.getfield 47, 3) := by decide +kernel
theorem dX7_operand_279 : decode cX7_operand 279 = .ok (.istore 6, 2) := by decide +kernel
theorem dX7_operand_281 : decode cX7_operand 281 = .ok (.aload_n 0, 1) := by decide +kernel
theorem dX7_operand_282 : decode cX7_operand 282 = .ok (.iload 6, 2) := by decide +kernel
theorem dX7_operand_284 : decode cX7_operand 284 = .ok (.aload_n 0, 1) := by decide +kernel
theorem dX7_operand_285 : decode cX7_operand 285 = .ok (.invokevirtual 125, 3) := by decide +kernel
theorem dX7_operand_288 : decode cX7_operand 288 = .ok (.i2s, 1) := by decide +kernel
theorem dX7_operand_289 : decode cX7_operand 289 = .ok (.iadd, 1) := by decide +kernel
theorem dX7_operand_290 : decode cX7_operand 290 = .ok (.putfield 135, 3) := by decide +kernel
theorem dX7_operand_293 : decode cX7_operand 293 = .ok (.goto 45, 3) := by decide +kernel
theorem dX7_operand_296 : decode cX7_operand 296 = .ok (.iload_n 3, 1) := by decide +kernel
theorem dX7_operand_297 : decode cX7_operand 297 = .ok (.bipush 7, 2) := by decide +kernel
theorem dX7_operand_299 : decode cX7_operand 299 = .ok (.if_icmp .ne 24, 3) := by decide +kernel
theorem dX7_operand_302 : decode cX7_operand 302 = .ok (.iload 4, 2) := by decide +kernel
theorem dX7_operand_304 : decode cX7_operand 304 = .ok (.iconst 3, 1) := by decide +kernel
theorem dX7_operand_305 : decode cX7_operand 305 = .ok (.if_icmp .ne 18, 3) := by decide +kernel
theorem dX7_operand_308 : decode cX7_operand 308 = .ok (.aload_n 0, 1) := by decide +kernel
theorem dX7_operand_309 : decode cX7_operand 309 = .ok (.aload_n 0, 1) := by decide +kernel
theorem dX7_operand_310 : decode cX7_operand 310 = .ok (.aload_n 0, 1) := by decide +kernel
theorem dX7_operand_311 : decode cX7_operand 311 = .ok (.getfield 47, 3) := by decide +kernel
theorem dX7_operand_314 : decode cX7_operand 314 = .ok (.invokevirtual 138, 3) := by decide +kernel
theorem dX7_operand_317 : decode cX7_operand 317 = .ok (.putfield 135, 3) := by decide +kernel
theorem dX7_operand_320 : decode cX7_operand 320 = .ok (.goto 18, 3) := by decide +kernel
theorem dX7_operand_323 : decode cX7_operand 323 = .ok (.iload_n 3, 1) := by decide +kernel
theorem dX7_operand_324 : decode cX7_operand 324 = .ok (.bipush 7, 2) := by decide +kernel
theorem dX7_operand_326 : decode cX7_operand 326 = .ok (.if_icmp .ne 12, 3) := by decide +kernel
theorem dX7_operand_329 : decode cX7_operand 329 = .ok (.aload_n 0, 1) := by decide +kernel
theorem dX7_operand_330 : decode cX7_operand 330 = .ok (.aload_n 0, 1) := by decide +kernel
theorem dX7_operand_331 : decode cX7_operand 331 = .ok (.iload_n 2, 1) := by decide +kernel
theorem dX7_operand_332 : decode cX7_operand 332 = .ok (.invokevirtual 141, 3) := by decide +kernel
theorem dX7_operand_335 : decode cX7_operand 335 = .ok (.putfield 129, 3) := by decide +kernel
theorem dX7_operand_338 : decode cX7_operand 338 = .ok (.return_, 1) := by decide +kernel
theorem dX7_immediate_0 : decode cX7_immediate 0 = .ok (.aload_n 0, 1) := by decide +kernel
theorem dX7_immediate_1 : decode cX7_immediate 1 = .ok (.invokevirtual 125, 3) := by decide +kernel
theorem dX7_immediate_4 : decode cX7_immediate 4 = .ok (.istore_n 2, 1) := by decide +kernel
theorem dX7_immediate_5 : decode cX7_immediate 5 = .ok (.iload_n 1, 1) := by decide +kernel
theorem dX7_immediate_6 : decode cX7_immediate 6 = .ok (.iconst 4, 1) := by decide +kernel
theorem dX7_immediate_7 : decode cX7_immediate 7 = .ok (.if_icmp .ne 13, 3) := by decide +kernel
theorem dX7_immediate_10 : decode cX7_immediate 10 = .ok (.iload_n 2, 1) := by decide +kernel
theorem dX7_immediate_11 : decode cX7_immediate 11 = .ok (.bipush 16, 2) := by decide +kernel
theorem dX7_immediate_13 : decode cX7_immediate 13 = .ok (.ishl, 1) := by decide +kernel
theorem dX7_immediate_14 : decode cX7_immediate 14 = .ok (.aload_n 0, 1) := by decide +kernel
theorem dX7_immediate_15 : decode cX7_immediate 15 = .ok (.invokevirtual 125, 3) := by decide +kernel
theorem dX7_immediate_18 : decode cX7_immediate 18 = .ok (.ior, 1) := by decide +kernel
theorem dX7_immediate_19 : decode cX7_immediate 19 = .ok (.istore_n 2, 1) := by decide +kernel
theorem dX7_immediate_20 : decode cX7_immediate 20 = .ok (.iload_n 1, 1) := by decide +kernel
theorem dX7_immediate_21 : decode cX7_immediate 21 = .ok (.iconst 1, 1) := by decide +kernel
theorem dX7_immediate_22 : decode cX7_immediate 22 = .ok (.if_icmp .ne 11, 3) := by decide +kernel
theorem dX7_immediate_25 : decode cX7_immediate 25 = .ok (.iload_n 2, 1) := by decide +kernel
theorem dX7_immediate_26 : decode cX7_immediate 26 = .ok (.sipush 255, 3) := by decide +kernel
theorem dX7_immediate_29 : decode cX7_immediate 29 = .ok (.iand, 1) := by decide +kernel
theorem dX7_immediate_30 : decode cX7_immediate 30 = .ok (.goto 4, 3) := by decide +kernel
theorem dX7_immediate_33 : decode cX7_immediate 33 = .ok (.iload_n 2, 1) := by decide +kernel
theorem dX7_immediate_34 : decode cX7_immediate 34 = .ok (.ireturn, 1) := by decide +kernel
theorem dX7_take_0 : decode cX7_take 0 = .ok (.aload_n 0, 1) := by decide +kernel
theorem dX7_take_1 : decode cX7_take 1 = .ok (.getfield 132, 3) := by decide +kernel
theorem dX7_take_4 : decode cX7_take 4 = .ok (.ifCond .ne 15, 3) := by decide +kernel
theorem dX7_take_7 : decode cX7_take 7 = .ok (.aload_n 0, 1) := by decide +kernel
theorem dX7_take_8 : decode cX7_take 8 = .ok (.getfield 13, 3) := by decide +kernel
theorem dX7_take_11 : decode cX7_take 11 = .ok (.aload_n 0, 1) := by decide +kernel
theorem dX7_take_12 : decode cX7_take 12 = .ok (.getfield 129, 3) := by decide +kernel
theorem dX7_take_15 : decode cX7_take 15 = .ok (.iaload, 1) := by decide +kernel
theorem dX7_take_16 : decode cX7_take 16 = .ok (.goto 46, 3) := by decide +kernel
theorem dX7_take_19 : decode cX7_take 19 = .ok (.aload_n 0, 1) := by decide +kernel
theorem dX7_take_20 : decode cX7_take 20 = .ok (.getfield 132, 3) := by decide +kernel
theorem dX7_take_23 : decode cX7_take 23 = .ok (.iconst 1, 1) := by decide +kernel
theorem dX7_take_24 : decode cX7_take 24 = .ok (.if_icmp .ne 14, 3) := by decide +kernel
theorem dX7_take_27 : decode cX7_take 27 = .ok (.aload_n 0, 1) := by decide +kernel
theorem dX7_take_28 : decode cX7_take 28 = .ok (.aload_n 0, 1) := by decide +kernel
theorem dX7_take_29 : decode cX7_take 29 = .ok (.getfield 129, 3) := by decide +kernel
theorem dX7_take_32 : decode cX7_take 32 = .ok (.invokevirtual 70, 3) := by decide +kernel
theorem dX7_take_35 : decode cX7_take 35 = .ok (.goto 27, 3) := by decide +kernel
theorem dX7_take_38 : decode cX7_take 38 = .ok (.aload_n 0, 1) := by decide +kernel
theorem dX7_take_39 : decode cX7_take 39 = .ok (.getfield 132, 3) := by decide +kernel
theorem dX7_take_42 : decode cX7_take 42 = .ok (.iconst 3, 1) := by decide +kernel
theorem dX7_take_43 : decode cX7_take 43 = .ok (.if_icmp .ne 10, 3) := by decide +kernel
theorem dX7_take_46 : decode cX7_take 46 = .ok (.aload_n 0, 1) := by decide +kernel
theorem dX7_take_47 : decode cX7_take 47 = .ok (.getfield 129, 3) := by decide +kernel
theorem dX7_take_50 : decode cX7_take 50 = .ok (.goto 12, 3) := by decide +kernel
theorem dX7_take_53 : decode cX7_take 53 = .ok (.aload_n 0, 1) := by decide +kernel
theorem dX7_take_54 : decode cX7_take 54 = .ok (.aload_n 0, 1) := by decide +kernel
theorem dX7_take_55 : decode cX7_take 55 = .ok (.getfield 135, 3) := by decide +kernel
theorem dX7_take_58 : decode cX7_take 58 = .ok (.iload_n 1, 1) := by decide +kernel
theorem dX7_take_59 : decode cX7_take 59 = .ok (.invokevirtual 116, 3) := by decide +kernel
theorem dX7_take_62 : decode cX7_take 62 = .ok (.istore_n 2, 1) := by decide +kernel
theorem dX7_take_63 : decode cX7_take 63 = .ok (.iload_n 2, 1) := by decide +kernel
theorem dX7_take_64 : decode cX7_take 64 = .ok (.iload_n 1, 1) := by decide +kernel
theorem dX7_take_65 : decode cX7_take 65 = .ok (.invokestatic 144, 3) := by decide +kernel
theorem dX7_take_68 : decode cX7_take 68 = .ok (.l2i, 1) := by decide +kernel
theorem dX7_take_69 : decode cX7_take 69 = .ok (.ireturn, 1) := by decide +kernel
theorem dX7_joined_0 : decode cX7_joined 0 = .ok (.iload_n 2, 1) := by decide +kernel
theorem dX7_joined_1 : decode cX7_joined 1 = .ok (.iconst 1, 1) := by decide +kernel
theorem dX7_joined_2 : decode cX7_joined 2 = .ok (.if_icmp .ne 17, 3) := by decide +kernel
theorem dX7_joined_5 : decode cX7_joined 5 = .ok (.iload_n 0, 1) := by decide +kernel
theorem dX7_joined_6 : decode cX7_joined 6 = .ok (.sipush (-256), 3) := by decide +kernel
theorem dX7_joined_9 : decode cX7_joined 9 = .ok (.iand, 1) := by decide +kernel
theorem dX7_joined_10 : decode cX7_joined 10 = .ok (.iload_n 1, 1) := by decide +kernel
theorem dX7_joined_11 : decode cX7_joined 11 = .ok (.sipush 255, 3) := by decide +kernel
theorem dX7_joined_14 : decode cX7_joined 14 = .ok (.iand, 1) := by decide +kernel
theorem dX7_joined_15 : decode cX7_joined 15 = .ok (.ior, 1) := by decide +kernel
theorem dX7_joined_16 : decode cX7_joined 16 = .ok (.goto 21, 3) := by decide +kernel
theorem dX7_joined_19 : decode cX7_joined 19 = .ok (.iload_n 2, 1) := by decide +kernel
theorem dX7_joined_20 : decode cX7_joined 20 = .ok (.iconst 2, 1) := by decide +kernel
theorem dX7_joined_21 : decode cX7_joined 21 = .ok (.if_icmp .ne 15, 3) := by decide +kernel
theorem dX7_joined_24 : decode cX7_joined 24 = .ok (.iload_n 0, 1) := by decide +kernel
theorem dX7_joined_25 : decode cX7_joined 25 = .ok (.ldc 148, 2) := by decide +kernel
theorem dX7_joined_27 : decode cX7_joined 27 = .ok (.iand, 1) := by decide +kernel
theorem dX7_joined_28 : decode cX7_joined 28 = .ok (.iload_n 1, 1) := by decide +kernel
theorem dX7_joined_29 : decode cX7_joined 29 = .ok (.ldc 149, 2) := by decide +kernel
theorem dX7_joined_31 : decode cX7_joined 31 = .ok (.iand, 1) := by decide +kernel
theorem dX7_joined_32 : decode cX7_joined 32 = .ok (.ior, 1) := by decide +kernel
theorem dX7_joined_33 : decode cX7_joined 33 = .ok (.goto 4, 3) := by decide +kernel
theorem dX7_joined_36 : decode cX7_joined 36 = .ok (.iload_n 1, 1) := by decide +kernel
theorem dX7_joined_37 : decode cX7_joined 37 = .ok (.ireturn, 1) := by decide +kernel
theorem dX7_give_0 : decode cX7_give 0 = .ok (.aload_n 0, 1) := by decide +kernel
theorem dX7_give_1 : decode cX7_give 1 = .ok (.getfield 100, 3) := by decide +kernel
theorem dX7_give_4 : decode cX7_give 4 = .ok (.ifCond .le 4, 3) := by decide +kernel
theorem dX7_give_7 : decode cX7_give 7 = .ok (.return_, 1) := by decide +kernel
theorem dX7_give_8 : decode cX7_give 8 = .ok (.aload_n 0, 1) := by decide +kernel
theorem dX7_give_9 : decode cX7_give 9 = .ok (.getfield 132, 3) := by decide +kernel
theorem dX7_give_12 : decode cX7_give 12 = .ok (.ifCond .ne 29, 3) := by decide +kernel
theorem dX7_give_15 : decode cX7_give 15 = .ok (.aload_n 0, 1) := by decide +kernel
theorem dX7_give_16 : decode cX7_give 16 = .ok (.getfield 13, 3) := by decide +kernel
theorem dX7_give_19 : decode cX7_give 19 = .ok (.aload_n 0, 1) := by decide +kernel
theorem dX7_give_20 : decode cX7_give 20 = .ok (.getfield 129, 3) := by decide +kernel
theorem dX7_give_23 : decode cX7_give 23 = .ok (.aload_n 0, 1) := by decide +kernel
theorem dX7_give_24 : decode cX7_give 24 = .ok (.getfield 13, 3) := by decide +kernel
theorem dX7_give_27 : decode cX7_give 27 = .ok (.aload_n 0, 1) := by decide +kernel
theorem dX7_give_28 : decode cX7_give 28 = .ok (.getfield 129, 3) := by decide +kernel
theorem dX7_give_31 : decode cX7_give 31 = .ok (.iaload, 1) := by decide +kernel
theorem dX7_give_32 : decode cX7_give 32 = .ok (.iload_n 1, 1) := by decide +kernel
theorem dX7_give_33 : decode cX7_give 33 = .ok (.iload_n 2, 1) := by decide +kernel
theorem dX7_give_34 : decode cX7_give 34 = .ok (.invokestatic 150, 3) := by decide +kernel
theorem dX7_give_37 : decode cX7_give 37 = .ok (.iastore, 1) := by decide +kernel
theorem dX7_give_38 : decode cX7_give 38 = .ok (.goto 41, 3) := by decide +kernel
theorem dX7_give_41 : decode cX7_give 41 = .ok (.aload_n 0, 1) := by decide +kernel
theorem dX7_give_42 : decode cX7_give 42 = .ok (.getfield 132, 3) := by decide +kernel
theorem dX7_give_45 : decode cX7_give 45 = .ok (.iconst 1, 1) := by decide +kernel
theorem dX7_give_46 : decode cX7_give 46 = .ok (.if_icmp .ne 15, 3) := by decide +kernel
theorem dX7_give_49 : decode cX7_give 49 = .ok (.aload_n 0, 1) := by decide +kernel
theorem dX7_give_50 : decode cX7_give 50 = .ok (.aload_n 0, 1) := by decide +kernel
theorem dX7_give_51 : decode cX7_give 51 = .ok (.getfield 129, 3) := by decide +kernel
theorem dX7_give_54 : decode cX7_give 54 = .ok (.iload_n 1, 1) := by decide +kernel
theorem dX7_give_55 : decode cX7_give 55 = .ok (.invokevirtual 74, 3) := by decide +kernel
theorem dX7_give_58 : decode cX7_give 58 = .ok (.goto 21, 3) := by decide +kernel
theorem dX7_give_61 : decode cX7_give 61 = .ok (.aload_n 0, 1) := by decide +kernel
theorem dX7_give_62 : decode cX7_give 62 = .ok (.getfield 132, 3) := by decide +kernel
theorem dX7_give_65 : decode cX7_give 65 = .ok (.iconst 2, 1) := by decide +kernel
theorem dX7_give_66 : decode cX7_give 66 = .ok (.if_icmp .ne 13, 3) := by decide +kernel
theorem dX7_give_69 : decode cX7_give 69 = .ok (.aload_n 0, 1) := by decide +kernel
theorem dX7_give_70 : decode cX7_give 70 = .ok (.aload_n 0, 1) := by decide +kernel
theorem dX7_give_71 : decode cX7_give 71 = .ok (.getfield 135, 3) := by decide +kernel
theorem dX7_give_74 : decode cX7_give 74 = .ok (.iload_n 1, 1) := by decide +kernel
theorem dX7_give_75 : decode cX7_give 75 = .ok (.iload_n 2, 1) := by decide +kernel
theorem dX7_give_76 : decode cX7_give 76 = .ok (.invokevirtual 113, 3) := by decide +kernel
theorem dX7_give_79 : decode cX7_give 79 = .ok (.return_, 1) := by decide +kernel
theorem dX7_has_0 : decode cX7_has 0 = .ok (.aload_n 0, 1) := by decide +kernel
theorem dX7_has_1 : decode cX7_has 1 = .ok (.getfield 50, 3) := by decide +kernel
theorem dX7_has_4 : decode cX7_has 4 = .ok (.iload_n 1, 1) := by decide +kernel
theorem dX7_has_5 : decode cX7_has 5 = .ok (.iand, 1) := by decide +kernel
theorem dX7_has_6 : decode cX7_has 6 = .ok (.ifCond .eq 7, 3) := by decide +kernel
theorem dX7_has_9 : decode cX7_has 9 = .ok (.iconst 1, 1) := by decide +kernel
theorem dX7_has_10 : decode cX7_has 10 = .ok (.goto 4, 3) := by decide +kernel
theorem dX7_has_13 : decode cX7_has 13 = .ok (.iconst 0, 1) := by decide +kernel
theorem dX7_has_14 : decode cX7_has 14 = .ok (.ireturn, 1) := by decide +kernel
theorem dX7_flag_0 : decode cX7_flag 0 = .ok (.aload_n 0, 1) := by decide +kernel
theorem dX7_flag_1 : decode cX7_flag 1 = .ok (.iload_n 2, 1) := by decide +kernel
theorem dX7_flag_2 : decode cX7_flag 2 = .ok (.ifCond .eq 12, 3) := by decide +kernel
theorem dX7_flag_5 : decode cX7_flag 5 = .ok (.aload_n 0, 1) := by decide +kernel
theorem dX7_flag_6 : decode cX7_flag 6 = .ok (.getfield 50, 3) := by decide +kernel
theorem dX7_flag_9 : decode cX7_flag 9 = .ok (.iload_n 1, 1) := by decide +kernel
theorem dX7_flag_10 : decode cX7_flag 10 = .ok (.ior, 1) := by decide +kernel
theorem dX7_flag_11 : decode cX7_flag 11 = .ok (.goto 11, 3) := by decide +kernel
theorem dX7_flag_14 : decode cX7_flag 14 = .ok (.aload_n 0, 1) := by decide +kernel
theorem dX7_flag_15 : decode cX7_flag 15 = .ok (.getfield 50, 3) := by decide +kernel
theorem dX7_flag_18 : decode cX7_flag 18 = .ok (.iload_n 1, 1) := by decide +kernel
theorem dX7_flag_19 : decode cX7_flag 19 = .ok (.iconst (-1), 1) := by decide +kernel
theorem dX7_flag_20 : decode cX7_flag 20 = .ok (.ixor, 1) := by decide +kernel
theorem dX7_flag_21 : decode cX7_flag 21 = .ok (.iand, 1) := by decide +kernel
theorem dX7_flag_22 : decode cX7_flag 22 = .ok (.putfield 50, 3) := by decide +kernel
theorem dX7_flag_25 : decode cX7_flag 25 = .ok (.return_, 1) := by decide +kernel
theorem dX7_x_0 : decode cX7_x 0 = .ok (.aload_n 0, 1) := by decide +kernel
theorem dX7_x_1 : decode cX7_x 1 = .ok (.bipush 16, 2) := by decide +kernel
theorem dX7_x_3 : decode cX7_x 3 = .ok (.invokevirtual 154, 3) := by decide +kernel
theorem dX7_x_6 : decode cX7_x 6 = .ok (.ifCond .eq 7, 3) := by decide +kernel
theorem dX7_x_9 : decode cX7_x 9 = .ok (.iconst 1, 1) := by decide +kernel
theorem dX7_x_10 : decode cX7_x 10 = .ok (.goto 4, 3) := by decide +kernel
theorem dX7_x_13 : decode cX7_x 13 = .ok (.iconst 0, 1) := by decide +kernel
theorem dX7_x_14 : decode cX7_x 14 = .ok (.ireturn, 1) := by decide +kernel
theorem dX7_signs_0 : decode cX7_signs 0 = .ok (.aload_n 0, 1) := by decide +kernel
theorem dX7_signs_1 : decode cX7_signs 1 = .ok (.bipush 8, 2) := by decide +kernel
theorem dX7_signs_3 : decode cX7_signs 3 = .ok (.iload_n 1, 1) := by decide +kernel
theorem dX7_signs_4 : decode cX7_signs 4 = .ok (.iload_n 2, 1) := by decide +kernel
theorem dX7_signs_5 : decode cX7_signs 5 = .ok (.invokestatic 157, 3) := by decide +kernel
theorem dX7_signs_8 : decode cX7_signs 8 = .ok (.ifCond .ge 7, 3) := by decide +kernel
theorem dX7_signs_11 : decode cX7_signs 11 = .ok (.iconst 1, 1) := by decide +kernel
theorem dX7_signs_12 : decode cX7_signs 12 = .ok (.goto 4, 3) := by decide +kernel
theorem dX7_signs_15 : decode cX7_signs 15 = .ok (.iconst 0, 1) := by decide +kernel
theorem dX7_signs_16 : decode cX7_signs 16 = .ok (.invokevirtual 160, 3) := by decide +kernel
theorem dX7_signs_19 : decode cX7_signs 19 = .ok (.aload_n 0, 1) := by decide +kernel
theorem dX7_signs_20 : decode cX7_signs 20 = .ok (.iconst 4, 1) := by decide +kernel
theorem dX7_signs_21 : decode cX7_signs 21 = .ok (.iload_n 1, 1) := by decide +kernel
theorem dX7_signs_22 : decode cX7_signs 22 = .ok (.iload_n 2, 1) := by decide +kernel
theorem dX7_signs_23 : decode cX7_signs 23 = .ok (.invokestatic 144, 3) := by decide +kernel
theorem dX7_signs_26 : decode cX7_signs 26 = .ok (.lconst 0, 1) := by decide +kernel
theorem dX7_signs_27 : decode cX7_signs 27 = .ok (.lcmp, 1) := by decide +kernel
theorem dX7_signs_28 : decode cX7_signs 28 = .ok (.ifCond .ne 7, 3) := by decide +kernel
theorem dX7_signs_31 : decode cX7_signs 31 = .ok (.iconst 1, 1) := by decide +kernel
theorem dX7_signs_32 : decode cX7_signs 32 = .ok (.goto 4, 3) := by decide +kernel
theorem dX7_signs_35 : decode cX7_signs 35 = .ok (.iconst 0, 1) := by decide +kernel
theorem dX7_signs_36 : decode cX7_signs 36 = .ok (.invokevirtual 160, 3) := by decide +kernel
theorem dX7_signs_39 : decode cX7_signs 39 = .ok (.return_, 1) := by decide +kernel
theorem dX7_logic_0 : decode cX7_logic 0 = .ok (.aload_n 0, 1) := by decide +kernel
theorem dX7_logic_1 : decode cX7_logic 1 = .ok (.iload_n 1, 1) := by decide +kernel
theorem dX7_logic_2 : decode cX7_logic 2 = .ok (.iload_n 2, 1) := by decide +kernel
theorem dX7_logic_3 : decode cX7_logic 3 = .ok (.invokevirtual 164, 3) := by decide +kernel
theorem dX7_logic_6 : decode cX7_logic 6 = .ok (.aload_n 0, 1) := by decide +kernel
theorem dX7_logic_7 : decode cX7_logic 7 = .ok (.iconst 2, 1) := by decide +kernel
theorem dX7_logic_8 : decode cX7_logic 8 = .ok (.iconst 0, 1) := by decide +kernel
theorem dX7_logic_9 : decode cX7_logic 9 = .ok (.invokevirtual 160, 3) := by decide +kernel
theorem dX7_logic_12 : decode cX7_logic 12 = .ok (.aload_n 0, 1) := by decide +kernel
theorem dX7_logic_13 : decode cX7_logic 13 = .ok (.iconst 1, 1) := by decide +kernel
theorem dX7_logic_14 : decode cX7_logic 14 = .ok (.iconst 0, 1) := by decide +kernel
theorem dX7_logic_15 : decode cX7_logic 15 = .ok (.invokevirtual 160, 3) := by decide +kernel
theorem dX7_logic_18 : decode cX7_logic 18 = .ok (.return_, 1) := by decide +kernel
theorem dX7_reckon_0 : decode cX7_reckon 0 = .ok (.iload 4, 2) := by decide +kernel
theorem dX7_reckon_2 : decode cX7_reckon 2 = .ok (.ifCond .eq 24, 3) := by decide +kernel
theorem dX7_reckon_5 : decode cX7_reckon 5 = .ok (.iload_n 1, 1) := by decide +kernel
theorem dX7_reckon_6 : decode cX7_reckon 6 = .ok (.iload 5, 2) := by decide +kernel
theorem dX7_reckon_8 : decode cX7_reckon 8 = .ok (.invokestatic 157, 3) := by decide +kernel
theorem dX7_reckon_11 : decode cX7_reckon 11 = .ok (.i2l, 1) := by decide +kernel
theorem dX7_reckon_12 : decode cX7_reckon 12 = .ok (.iload_n 2, 1) := by decide +kernel
theorem dX7_reckon_13 : decode cX7_reckon 13 = .ok (.iload 5, 2) := by decide +kernel
theorem dX7_reckon_15 : decode cX7_reckon 15 = .ok (.invokestatic 157, 3) := by decide +kernel
theorem dX7_reckon_18 : decode cX7_reckon 18 = .ok (.i2l, 1) := by decide +kernel
theorem dX7_reckon_19 : decode cX7_reckon 19 = .ok (.lsub, 1) := by decide +kernel
theorem dX7_reckon_20 : decode cX7_reckon 20 = .ok (.iload_n 3, 1) := by decide +kernel
theorem dX7_reckon_21 : decode cX7_reckon 21 = .ok (.i2l, 1) := by decide +kernel
theorem dX7_reckon_22 : decode cX7_reckon 22 = .ok (.lsub, 1) := by decide +kernel
theorem dX7_reckon_23 : decode cX7_reckon 23 = .ok (.goto 21, 3) := by decide +kernel
theorem dX7_reckon_26 : decode cX7_reckon 26 = .ok (.iload_n 1, 1) := by decide +kernel
theorem dX7_reckon_27 : decode cX7_reckon 27 = .ok (.iload 5, 2) := by decide +kernel
theorem dX7_reckon_29 : decode cX7_reckon 29 = .ok (.invokestatic 157, 3) := by decide +kernel
theorem dX7_reckon_32 : decode cX7_reckon 32 = .ok (.i2l, 1) := by decide +kernel
theorem dX7_reckon_33 : decode cX7_reckon 33 = .ok (.iload_n 2, 1) := by decide +kernel
theorem dX7_reckon_34 : decode cX7_reckon 34 = .ok (.iload 5, 2) := by decide +kernel
theorem dX7_reckon_36 : decode cX7_reckon 36 = .ok (.invokestatic 157, 3) := by decide +kernel
theorem dX7_reckon_39 : decode cX7_reckon 39 = .ok (.i2l, 1) := by decide +kernel
theorem dX7_reckon_40 : decode cX7_reckon 40 = .ok (.ladd, 1) := by decide +kernel
theorem dX7_reckon_41 : decode cX7_reckon 41 = .ok (.iload_n 3, 1) := by decide +kernel
theorem dX7_reckon_42 : decode cX7_reckon 42 = .ok (.i2l, 1) := by decide +kernel
theorem dX7_reckon_43 : decode cX7_reckon 43 = .ok (.ladd, 1) := by decide +kernel
theorem dX7_reckon_44 : decode cX7_reckon 44 = .ok (.lstore 8, 2) := by decide +kernel
theorem dX7_reckon_46 : decode cX7_reckon 46 = .ok (.iload 4, 2) := by decide +kernel
theorem dX7_reckon_48 : decode cX7_reckon 48 = .ok (.ifCond .eq 22, 3) := by decide +kernel
theorem dX7_reckon_51 : decode cX7_reckon 51 = .ok (.iload_n 1, 1) := by decide +kernel
theorem dX7_reckon_52 : decode cX7_reckon 52 = .ok (.iload 5, 2) := by decide +kernel
theorem dX7_reckon_54 : decode cX7_reckon 54 = .ok (.invokestatic 144, 3) := by decide +kernel
theorem dX7_reckon_57 : decode cX7_reckon 57 = .ok (.iload_n 2, 1) := by decide +kernel
theorem dX7_reckon_58 : decode cX7_reckon 58 = .ok (.iload 5, 2) := by decide +kernel
theorem dX7_reckon_60 : decode cX7_reckon 60 = .ok (.invokestatic 144, 3) := by decide +kernel
theorem dX7_reckon_63 : decode cX7_reckon 63 = .ok (.lsub, 1) := by decide +kernel
theorem dX7_reckon_64 : decode cX7_reckon 64 = .ok (.iload_n 3, 1) := by decide +kernel
theorem dX7_reckon_65 : decode cX7_reckon 65 = .ok (.i2l, 1) := by decide +kernel
theorem dX7_reckon_66 : decode cX7_reckon 66 = .ok (.lsub, 1) := by decide +kernel
theorem dX7_reckon_67 : decode cX7_reckon 67 = .ok (.goto 19, 3) := by decide +kernel
theorem dX7_reckon_70 : decode cX7_reckon 70 = .ok (.iload_n 1, 1) := by decide +kernel
theorem dX7_reckon_71 : decode cX7_reckon 71 = .ok (.iload 5, 2) := by decide +kernel
theorem dX7_reckon_73 : decode cX7_reckon 73 = .ok (.invokestatic 144, 3) := by decide +kernel
theorem dX7_reckon_76 : decode cX7_reckon 76 = .ok (.iload_n 2, 1) := by decide +kernel
theorem dX7_reckon_77 : decode cX7_reckon 77 = .ok (.iload 5, 2) := by decide +kernel
theorem dX7_reckon_79 : decode cX7_reckon 79 = .ok (.invokestatic 144, 3) := by decide +kernel
theorem dX7_reckon_82 : decode cX7_reckon 82 = .ok (.ladd, 1) := by decide +kernel
theorem dX7_reckon_83 : decode cX7_reckon 83 = .ok (.iload_n 3, 1) := by decide +kernel
theorem dX7_reckon_84 : decode cX7_reckon 84 = .ok (.i2l, 1) := by decide +kernel
theorem dX7_reckon_85 : decode cX7_reckon 85 = .ok (.ladd, 1) := by decide +kernel
theorem dX7_reckon_86 : decode cX7_reckon 86 = .ok (.lstore 10, 2) := by decide +kernel
theorem dX7_reckon_88 : decode cX7_reckon 88 = .ok (.lload 8, 2) := by decide +kernel
theorem dX7_reckon_90 : decode cX7_reckon 90 = .ok (.l2i, 1) := by decide +kernel
theorem dX7_reckon_91 : decode cX7_reckon 91 = .ok (.iload 5, 2) := by decide +kernel
theorem dX7_reckon_93 : decode cX7_reckon 93 = .ok (.invokestatic 144, 3) := by decide +kernel
theorem dX7_reckon_96 : decode cX7_reckon 96 = .ok (.l2i, 1) := by decide +kernel
theorem dX7_reckon_97 : decode cX7_reckon 97 = .ok (.istore 12, 2) := by decide +kernel
theorem dX7_reckon_99 : decode cX7_reckon 99 = .ok (.aload_n 0, 1) := by decide +kernel
theorem dX7_reckon_100 : decode cX7_reckon 100 = .ok (.iconst 4, 1) := by decide +kernel
theorem dX7_reckon_101 : decode cX7_reckon 101 = .ok (.invokevirtual 154, 3) := by decide +kernel
theorem dX7_reckon_104 : decode cX7_reckon 104 = .ok (.istore 13, 2) := by decide +kernel
theorem dX7_reckon_106 : decode cX7_reckon 106 = .ok (.aload_n 0, 1) := by decide +kernel
theorem dX7_reckon_107 : decode cX7_reckon 107 = .ok (.iload 12, 2) := by decide +kernel
theorem dX7_reckon_109 : decode cX7_reckon 109 = .ok (.iload 5, 2) := by decide +kernel
theorem dX7_reckon_111 : decode cX7_reckon 111 = .ok (.invokevirtual 164, 3) := by decide +kernel
theorem dX7_reckon_114 : decode cX7_reckon 114 = .ok (.iload 7, 2) := by decide +kernel
theorem dX7_reckon_116 : decode cX7_reckon 116 = .ok (.ifCond .eq 30, 3) := by decide +kernel
theorem dX7_reckon_119 : decode cX7_reckon 119 = .ok (.aload_n 0, 1) := by decide +kernel
theorem dX7_reckon_120 : decode cX7_reckon 120 = .ok (.iconst 4, 1) := by decide +kernel
theorem dX7_reckon_121 : decode cX7_reckon 121 = .ok (.iload 13, 2) := by decide +kernel
theorem dX7_reckon_123 : decode cX7_reckon 123 = .ok (.ifCond .eq 19, 3) := by decide +kernel
theorem dX7_reckon_126 : decode cX7_reckon 126 = .ok (.iload 12, 2) := by decide +kernel
theorem dX7_reckon_128 : decode cX7_reckon 128 = .ok (.iload 5, 2) := by decide +kernel
theorem dX7_reckon_130 : decode cX7_reckon 130 = .ok (.invokestatic 144, 3) := by decide +kernel
theorem dX7_reckon_133 : decode cX7_reckon 133 = .ok (.lconst 0, 1) := by decide +kernel
theorem dX7_reckon_134 : decode cX7_reckon 134 = .ok (.lcmp, 1) := by decide +kernel
theorem dX7_reckon_135 : decode cX7_reckon 135 = .ok (.ifCond .ne 7, 3) := by decide +kernel
theorem dX7_reckon_138 : decode cX7_reckon 138 = .ok (.iconst 1, 1) := by decide +kernel
theorem dX7_reckon_139 : decode cX7_reckon 139 = .ok (.goto 4, 3) := by decide +kernel
theorem dX7_reckon_142 : decode cX7_reckon 142 = .ok (.iconst 0, 1) := by decide +kernel
theorem dX7_reckon_143 : decode cX7_reckon 143 = .ok (.invokevirtual 160, 3) := by decide +kernel
theorem dX7_reckon_146 : decode cX7_reckon 146 = .ok (.aload_n 0, 1) := by decide +kernel
theorem dX7_reckon_147 : decode cX7_reckon 147 = .ok (.iconst 2, 1) := by decide +kernel
theorem dX7_reckon_148 : decode cX7_reckon 148 = .ok (.lload 8, 2) := by decide +kernel
theorem dX7_reckon_150 : decode cX7_reckon 150 = .ok (.iload 12, 2) := by decide +kernel
theorem dX7_reckon_152 : decode cX7_reckon 152 = .ok (.iload 5, 2) := by decide +kernel
theorem dX7_reckon_154 : decode cX7_reckon 154 = .ok (.invokestatic 157, 3) := by decide +kernel
theorem dX7_reckon_157 : decode cX7_reckon 157 = .ok (.i2l, 1) := by decide +kernel
theorem dX7_reckon_158 : decode cX7_reckon 158 = .ok (.lcmp, 1) := by decide +kernel
theorem dX7_reckon_159 : decode cX7_reckon 159 = .ok (.ifCond .eq 7, 3) := by decide +kernel
theorem dX7_reckon_162 : decode cX7_reckon 162 = .ok (.iconst 1, 1) := by decide +kernel
theorem dX7_reckon_163 : decode cX7_reckon 163 = .ok (.goto 4, 3) := by decide +kernel
theorem dX7_reckon_166 : decode cX7_reckon 166 = .ok (.iconst 0, 1) := by decide +kernel
theorem dX7_reckon_167 : decode cX7_reckon 167 = .ok (.invokevirtual 160, 3) := by decide +kernel
theorem dX7_reckon_170 : decode cX7_reckon 170 = .ok (.aload_n 0, 1) := by decide +kernel
theorem dX7_reckon_171 : decode cX7_reckon 171 = .ok (.iconst 1, 1) := by decide +kernel
theorem dX7_reckon_172 : decode cX7_reckon 172 = .ok (.lload 10, 2) := by decide +kernel
theorem dX7_reckon_174 : decode cX7_reckon 174 = .ok (.iload 12, 2) := by decide +kernel
theorem dX7_reckon_176 : decode cX7_reckon 176 = .ok (.iload 5, 2) := by decide +kernel
theorem dX7_reckon_178 : decode cX7_reckon 178 = .ok (.invokestatic 144, 3) := by decide +kernel
theorem dX7_reckon_181 : decode cX7_reckon 181 = .ok (.lcmp, 1) := by decide +kernel
theorem dX7_reckon_182 : decode cX7_reckon 182 = .ok (.ifCond .eq 7, 3) := by decide +kernel
theorem dX7_reckon_185 : decode cX7_reckon 185 = .ok (.iconst 1, 1) := by decide +kernel
theorem dX7_reckon_186 : decode cX7_reckon 186 = .ok (.goto 4, 3) := by decide +kernel
theorem dX7_reckon_189 : decode cX7_reckon 189 = .ok (.iconst 0, 1) := by decide +kernel
theorem dX7_reckon_190 : decode cX7_reckon 190 = .ok (.invokevirtual 160, 3) := by decide +kernel
theorem dX7_reckon_193 : decode cX7_reckon 193 = .ok (.iload 6, 2) := by decide +kernel
theorem dX7_reckon_195 : decode cX7_reckon 195 = .ok (.ifCond .eq 14, 3) := by decide +kernel
theorem dX7_reckon_198 : decode cX7_reckon 198 = .ok (.aload_n 0, 1) := by decide +kernel
theorem dX7_reckon_199 : decode cX7_reckon 199 = .ok (.bipush 16, 2) := by decide +kernel
theorem dX7_reckon_201 : decode cX7_reckon 201 = .ok (.aload_n 0, 1) := by decide +kernel
theorem dX7_reckon_202 : decode cX7_reckon 202 = .ok (.iconst 1, 1) := by decide +kernel
theorem dX7_reckon_203 : decode cX7_reckon 203 = .ok (.invokevirtual 154, 3) := by decide +kernel
theorem dX7_reckon_206 : decode cX7_reckon 206 = .ok (.invokevirtual 160, 3) := by decide +kernel
theorem dX7_reckon_209 : decode cX7_reckon 209 = .ok (.iload 12, 2) := by decide +kernel
theorem dX7_reckon_211 : decode cX7_reckon 211 = .ok (.ireturn, 1) := by decide +kernel
theorem dX7_compare_0 : decode cX7_compare 0 = .ok (.aload_n 0, 1) := by decide +kernel
theorem dX7_compare_1 : decode cX7_compare 1 = .ok (.iload_n 1, 1) := by decide +kernel
theorem dX7_compare_2 : decode cX7_compare 2 = .ok (.iload_n 2, 1) := by decide +kernel
theorem dX7_compare_3 : decode cX7_compare 3 = .ok (.iconst 0, 1) := by decide +kernel
theorem dX7_compare_4 : decode cX7_compare 4 = .ok (.iconst 1, 1) := by decide +kernel
theorem dX7_compare_5 : decode cX7_compare 5 = .ok (.iload_n 3, 1) := by decide +kernel
theorem dX7_compare_6 : decode cX7_compare 6 = .ok (.iconst 0, 1) := by decide +kernel
theorem dX7_compare_7 : decode cX7_compare 7 = .ok (.iconst 0, 1) := by decide +kernel
theorem dX7_compare_8 : decode cX7_compare 8 = .ok (.invokevirtual 167, 3) := by decide +kernel
theorem dX7_compare_11 : decode cX7_compare 11 = .ok (.istore 4, 2) := by decide +kernel
theorem dX7_compare_13 : decode cX7_compare 13 = .ok (.return_, 1) := by decide +kernel
theorem dX7_decimalSum_0 : decode cX7_decimalSum 0 = .ok (.iload_n 1, 1) := by decide +kernel
theorem dX7_decimalSum_1 : decode cX7_decimalSum 1 = .ok (.bipush 15, 2) := by decide +kernel
theorem dX7_decimalSum_3 : decode cX7_decimalSum 3 = .ok (.iand, 1) := by decide +kernel
theorem dX7_decimalSum_4 : decode cX7_decimalSum 4 = .ok (.iload_n 2, 1) := by decide +kernel
theorem dX7_decimalSum_5 : decode cX7_decimalSum 5 = .ok (.bipush 15, 2) := by decide +kernel
theorem dX7_decimalSum_7 : decode cX7_decimalSum 7 = .ok (.iand, 1) := by decide +kernel
theorem dX7_decimalSum_8 : decode cX7_decimalSum 8 = .ok (.iadd, 1) := by decide +kernel
theorem dX7_decimalSum_9 : decode cX7_decimalSum 9 = .ok (.aload_n 0, 1) := by decide +kernel
theorem dX7_decimalSum_10 : decode cX7_decimalSum 10 = .ok (.invokevirtual 171, 3) := by decide +kernel
theorem dX7_decimalSum_13 : decode cX7_decimalSum 13 = .ok (.iadd, 1) := by decide +kernel
theorem dX7_decimalSum_14 : decode cX7_decimalSum 14 = .ok (.istore_n 3, 1) := by decide +kernel
theorem dX7_decimalSum_15 : decode cX7_decimalSum 15 = .ok (.iload_n 3, 1) := by decide +kernel
theorem dX7_decimalSum_16 : decode cX7_decimalSum 16 = .ok (.bipush 9, 2) := by decide +kernel
theorem dX7_decimalSum_18 : decode cX7_decimalSum 18 = .ok (.if_icmp .le 10, 3) := by decide +kernel
theorem dX7_decimalSum_21 : decode cX7_decimalSum 21 = .ok (.iload_n 3, 1) := by decide +kernel
theorem dX7_decimalSum_22 : decode cX7_decimalSum 22 = .ok (.bipush 6, 2) := by decide +kernel
theorem dX7_decimalSum_24 : decode cX7_decimalSum 24 = .ok (.iadd, 1) := by decide +kernel
theorem dX7_decimalSum_25 : decode cX7_decimalSum 25 = .ok (.goto 4, 3) := by decide +kernel
theorem dX7_decimalSum_28 : decode cX7_decimalSum 28 = .ok (.iload_n 3, 1) := by decide +kernel
theorem dX7_decimalSum_29 : decode cX7_decimalSum 29 = .ok (.istore_n 3, 1) := by decide +kernel
theorem dX7_decimalSum_30 : decode cX7_decimalSum 30 = .ok (.iload_n 3, 1) := by decide +kernel
theorem dX7_decimalSum_31 : decode cX7_decimalSum 31 = .ok (.iload_n 1, 1) := by decide +kernel
theorem dX7_decimalSum_32 : decode cX7_decimalSum 32 = .ok (.sipush 240, 3) := by decide +kernel
theorem dX7_decimalSum_35 : decode cX7_decimalSum 35 = .ok (.iand, 1) := by decide +kernel
theorem dX7_decimalSum_36 : decode cX7_decimalSum 36 = .ok (.iadd, 1) := by decide +kernel
theorem dX7_decimalSum_37 : decode cX7_decimalSum 37 = .ok (.iload_n 2, 1) := by decide +kernel
theorem dX7_decimalSum_38 : decode cX7_decimalSum 38 = .ok (.sipush 240, 3) := by decide +kernel
theorem dX7_decimalSum_41 : decode cX7_decimalSum 41 = .ok (.iand, 1) := by decide +kernel
theorem dX7_decimalSum_42 : decode cX7_decimalSum 42 = .ok (.iadd, 1) := by decide +kernel
theorem dX7_decimalSum_43 : decode cX7_decimalSum 43 = .ok (.istore_n 3, 1) := by decide +kernel
theorem dX7_decimalSum_44 : decode cX7_decimalSum 44 = .ok (.iload_n 3, 1) := by decide +kernel
theorem dX7_decimalSum_45 : decode cX7_decimalSum 45 = .ok (.sipush 159, 3) := by decide +kernel
theorem dX7_decimalSum_48 : decode cX7_decimalSum 48 = .ok (.if_icmp .le 7, 3) := by decide +kernel
theorem dX7_decimalSum_51 : decode cX7_decimalSum 51 = .ok (.iconst 1, 1) := by decide +kernel
theorem dX7_decimalSum_52 : decode cX7_decimalSum 52 = .ok (.goto 4, 3) := by decide +kernel
theorem dX7_decimalSum_55 : decode cX7_decimalSum 55 = .ok (.iconst 0, 1) := by decide +kernel
theorem dX7_decimalSum_56 : decode cX7_decimalSum 56 = .ok (.istore 4, 2) := by decide +kernel
theorem dX7_decimalSum_58 : decode cX7_decimalSum 58 = .ok (.iload 4, 2) := by decide +kernel
theorem dX7_decimalSum_60 : decode cX7_decimalSum 60 = .ok (.ifCond .eq 10, 3) := by decide +kernel
theorem dX7_decimalSum_63 : decode cX7_decimalSum 63 = .ok (.iload_n 3, 1) := by decide +kernel
theorem dX7_decimalSum_64 : decode cX7_decimalSum 64 = .ok (.bipush 96, 2) := by decide +kernel
theorem dX7_decimalSum_66 : decode cX7_decimalSum 66 = .ok (.iadd, 1) := by decide +kernel
theorem dX7_decimalSum_67 : decode cX7_decimalSum 67 = .ok (.goto 4, 3) := by decide +kernel
theorem dX7_decimalSum_70 : decode cX7_decimalSum 70 = .ok (.iload_n 3, 1) := by decide +kernel
theorem dX7_decimalSum_71 : decode cX7_decimalSum 71 = .ok (.istore_n 3, 1) := by decide +kernel
theorem dX7_decimalSum_72 : decode cX7_decimalSum 72 = .ok (.aload_n 0, 1) := by decide +kernel
theorem dX7_decimalSum_73 : decode cX7_decimalSum 73 = .ok (.iconst 1, 1) := by decide +kernel
theorem dX7_decimalSum_74 : decode cX7_decimalSum 74 = .ok (.iload 4, 2) := by decide +kernel
theorem dX7_decimalSum_76 : decode cX7_decimalSum 76 = .ok (.invokevirtual 160, 3) := by decide +kernel
theorem dX7_decimalSum_79 : decode cX7_decimalSum 79 = .ok (.aload_n 0, 1) := by decide +kernel
theorem dX7_decimalSum_80 : decode cX7_decimalSum 80 = .ok (.bipush 16, 2) := by decide +kernel
theorem dX7_decimalSum_82 : decode cX7_decimalSum 82 = .ok (.iload 4, 2) := by decide +kernel
theorem dX7_decimalSum_84 : decode cX7_decimalSum 84 = .ok (.invokevirtual 160, 3) := by decide +kernel
theorem dX7_decimalSum_87 : decode cX7_decimalSum 87 = .ok (.aload_n 0, 1) := by decide +kernel
theorem dX7_decimalSum_88 : decode cX7_decimalSum 88 = .ok (.iconst 4, 1) := by decide +kernel
theorem dX7_decimalSum_89 : decode cX7_decimalSum 89 = .ok (.aload_n 0, 1) := by decide +kernel
theorem dX7_decimalSum_90 : decode cX7_decimalSum 90 = .ok (.iconst 4, 1) := by decide +kernel
theorem dX7_decimalSum_91 : decode cX7_decimalSum 91 = .ok (.invokevirtual 154, 3) := by decide +kernel
theorem dX7_decimalSum_94 : decode cX7_decimalSum 94 = .ok (.ifCond .eq 15, 3) := by decide +kernel
theorem dX7_decimalSum_97 : decode cX7_decimalSum 97 = .ok (.iload_n 3, 1) := by decide +kernel
theorem dX7_decimalSum_98 : decode cX7_decimalSum 98 = .ok (.sipush 255, 3) := by decide +kernel
theorem dX7_decimalSum_101 : decode cX7_decimalSum 101 = .ok (.iand, 1) := by decide +kernel
theorem dX7_decimalSum_102 : decode cX7_decimalSum 102 = .ok (.ifCond .ne 7, 3) := by decide +kernel
theorem dX7_decimalSum_105 : decode cX7_decimalSum 105 = .ok (.iconst 1, 1) := by decide +kernel
theorem dX7_decimalSum_106 : decode cX7_decimalSum 106 = .ok (.goto 4, 3) := by decide +kernel
theorem dX7_decimalSum_109 : decode cX7_decimalSum 109 = .ok (.iconst 0, 1) := by decide +kernel
theorem dX7_decimalSum_110 : decode cX7_decimalSum 110 = .ok (.invokevirtual 160, 3) := by decide +kernel
theorem dX7_decimalSum_113 : decode cX7_decimalSum 113 = .ok (.iload_n 3, 1) := by decide +kernel
theorem dX7_decimalSum_114 : decode cX7_decimalSum 114 = .ok (.sipush 255, 3) := by decide +kernel
theorem dX7_decimalSum_117 : decode cX7_decimalSum 117 = .ok (.iand, 1) := by decide +kernel
theorem dX7_decimalSum_118 : decode cX7_decimalSum 118 = .ok (.ireturn, 1) := by decide +kernel
theorem dX7_decimalLess_0 : decode cX7_decimalLess 0 = .ok (.iload_n 1, 1) := by decide +kernel
theorem dX7_decimalLess_1 : decode cX7_decimalLess 1 = .ok (.bipush 15, 2) := by decide +kernel
theorem dX7_decimalLess_3 : decode cX7_decimalLess 3 = .ok (.iand, 1) := by decide +kernel
theorem dX7_decimalLess_4 : decode cX7_decimalLess 4 = .ok (.iload_n 2, 1) := by decide +kernel
theorem dX7_decimalLess_5 : decode cX7_decimalLess 5 = .ok (.bipush 15, 2) := by decide +kernel
theorem dX7_decimalLess_7 : decode cX7_decimalLess 7 = .ok (.iand, 1) := by decide +kernel
theorem dX7_decimalLess_8 : decode cX7_decimalLess 8 = .ok (.isub, 1) := by decide +kernel
theorem dX7_decimalLess_9 : decode cX7_decimalLess 9 = .ok (.aload_n 0, 1) := by decide +kernel
theorem dX7_decimalLess_10 : decode cX7_decimalLess 10 = .ok (.invokevirtual 171, 3) := by decide +kernel
theorem dX7_decimalLess_13 : decode cX7_decimalLess 13 = .ok (.isub, 1) := by decide +kernel
theorem dX7_decimalLess_14 : decode cX7_decimalLess 14 = .ok (.istore_n 3, 1) := by decide +kernel
theorem dX7_decimalLess_15 : decode cX7_decimalLess 15 = .ok (.iload_n 3, 1) := by decide +kernel
theorem dX7_decimalLess_16 : decode cX7_decimalLess 16 = .ok (.ifCond .ge 10, 3) := by decide +kernel
theorem dX7_decimalLess_19 : decode cX7_decimalLess 19 = .ok (.iload_n 3, 1) := by decide +kernel
theorem dX7_decimalLess_20 : decode cX7_decimalLess 20 = .ok (.bipush 6, 2) := by decide +kernel
theorem dX7_decimalLess_22 : decode cX7_decimalLess 22 = .ok (.isub, 1) := by decide +kernel
theorem dX7_decimalLess_23 : decode cX7_decimalLess 23 = .ok (.goto 4, 3) := by decide +kernel
theorem dX7_decimalLess_26 : decode cX7_decimalLess 26 = .ok (.iload_n 3, 1) := by decide +kernel
theorem dX7_decimalLess_27 : decode cX7_decimalLess 27 = .ok (.istore_n 3, 1) := by decide +kernel
theorem dX7_decimalLess_28 : decode cX7_decimalLess 28 = .ok (.iload_n 3, 1) := by decide +kernel
theorem dX7_decimalLess_29 : decode cX7_decimalLess 29 = .ok (.iload_n 1, 1) := by decide +kernel
theorem dX7_decimalLess_30 : decode cX7_decimalLess 30 = .ok (.sipush 240, 3) := by decide +kernel
theorem dX7_decimalLess_33 : decode cX7_decimalLess 33 = .ok (.iand, 1) := by decide +kernel
theorem dX7_decimalLess_34 : decode cX7_decimalLess 34 = .ok (.iadd, 1) := by decide +kernel
theorem dX7_decimalLess_35 : decode cX7_decimalLess 35 = .ok (.iload_n 2, 1) := by decide +kernel
theorem dX7_decimalLess_36 : decode cX7_decimalLess 36 = .ok (.sipush 240, 3) := by decide +kernel
theorem dX7_decimalLess_39 : decode cX7_decimalLess 39 = .ok (.iand, 1) := by decide +kernel
theorem dX7_decimalLess_40 : decode cX7_decimalLess 40 = .ok (.isub, 1) := by decide +kernel
theorem dX7_decimalLess_41 : decode cX7_decimalLess 41 = .ok (.istore_n 3, 1) := by decide +kernel
theorem dX7_decimalLess_42 : decode cX7_decimalLess 42 = .ok (.iload_n 3, 1) := by decide +kernel
theorem dX7_decimalLess_43 : decode cX7_decimalLess 43 = .ok (.ifCond .ge 7, 3) := by decide +kernel
theorem dX7_decimalLess_46 : decode cX7_decimalLess 46 = .ok (.iconst 1, 1) := by decide +kernel
theorem dX7_decimalLess_47 : decode cX7_decimalLess 47 = .ok (.goto 4, 3) := by decide +kernel
theorem dX7_decimalLess_50 : decode cX7_decimalLess 50 = .ok (.iconst 0, 1) := by decide +kernel
theorem dX7_decimalLess_51 : decode cX7_decimalLess 51 = .ok (.istore 4, 2) := by decide +kernel
theorem dX7_decimalLess_53 : decode cX7_decimalLess 53 = .ok (.iload 4, 2) := by decide +kernel
theorem dX7_decimalLess_55 : decode cX7_decimalLess 55 = .ok (.ifCond .eq 10, 3) := by decide +kernel
theorem dX7_decimalLess_58 : decode cX7_decimalLess 58 = .ok (.iload_n 3, 1) := by decide +kernel
theorem dX7_decimalLess_59 : decode cX7_decimalLess 59 = .ok (.bipush 96, 2) := by decide +kernel
theorem dX7_decimalLess_61 : decode cX7_decimalLess 61 = .ok (.isub, 1) := by decide +kernel
theorem dX7_decimalLess_62 : decode cX7_decimalLess 62 = .ok (.goto 4, 3) := by decide +kernel
theorem dX7_decimalLess_65 : decode cX7_decimalLess 65 = .ok (.iload_n 3, 1) := by decide +kernel
theorem dX7_decimalLess_66 : decode cX7_decimalLess 66 = .ok (.istore_n 3, 1) := by decide +kernel
theorem dX7_decimalLess_67 : decode cX7_decimalLess 67 = .ok (.aload_n 0, 1) := by decide +kernel
theorem dX7_decimalLess_68 : decode cX7_decimalLess 68 = .ok (.iconst 1, 1) := by decide +kernel
theorem dX7_decimalLess_69 : decode cX7_decimalLess 69 = .ok (.iload 4, 2) := by decide +kernel
theorem dX7_decimalLess_71 : decode cX7_decimalLess 71 = .ok (.invokevirtual 160, 3) := by decide +kernel
theorem dX7_decimalLess_74 : decode cX7_decimalLess 74 = .ok (.aload_n 0, 1) := by decide +kernel
theorem dX7_decimalLess_75 : decode cX7_decimalLess 75 = .ok (.bipush 16, 2) := by decide +kernel
theorem dX7_decimalLess_77 : decode cX7_decimalLess 77 = .ok (.iload 4, 2) := by decide +kernel
theorem dX7_decimalLess_79 : decode cX7_decimalLess 79 = .ok (.invokevirtual 160, 3) := by decide +kernel
theorem dX7_decimalLess_82 : decode cX7_decimalLess 82 = .ok (.aload_n 0, 1) := by decide +kernel
theorem dX7_decimalLess_83 : decode cX7_decimalLess 83 = .ok (.iconst 4, 1) := by decide +kernel
theorem dX7_decimalLess_84 : decode cX7_decimalLess 84 = .ok (.aload_n 0, 1) := by decide +kernel
theorem dX7_decimalLess_85 : decode cX7_decimalLess 85 = .ok (.iconst 4, 1) := by decide +kernel
theorem dX7_decimalLess_86 : decode cX7_decimalLess 86 = .ok (.invokevirtual 154, 3) := by decide +kernel
theorem dX7_decimalLess_89 : decode cX7_decimalLess 89 = .ok (.ifCond .eq 15, 3) := by decide +kernel
theorem dX7_decimalLess_92 : decode cX7_decimalLess 92 = .ok (.iload_n 3, 1) := by decide +kernel
theorem dX7_decimalLess_93 : decode cX7_decimalLess 93 = .ok (.sipush 255, 3) := by decide +kernel
theorem dX7_decimalLess_96 : decode cX7_decimalLess 96 = .ok (.iand, 1) := by decide +kernel
theorem dX7_decimalLess_97 : decode cX7_decimalLess 97 = .ok (.ifCond .ne 7, 3) := by decide +kernel
theorem dX7_decimalLess_100 : decode cX7_decimalLess 100 = .ok (.iconst 1, 1) := by decide +kernel
theorem dX7_decimalLess_101 : decode cX7_decimalLess 101 = .ok (.goto 4, 3) := by decide +kernel
theorem dX7_decimalLess_104 : decode cX7_decimalLess 104 = .ok (.iconst 0, 1) := by decide +kernel
theorem dX7_decimalLess_105 : decode cX7_decimalLess 105 = .ok (.invokevirtual 160, 3) := by decide +kernel
theorem dX7_decimalLess_108 : decode cX7_decimalLess 108 = .ok (.iload_n 3, 1) := by decide +kernel
theorem dX7_decimalLess_109 : decode cX7_decimalLess 109 = .ok (.sipush 255, 3) := by decide +kernel
theorem dX7_decimalLess_112 : decode cX7_decimalLess 112 = .ok (.iand, 1) := by decide +kernel
theorem dX7_decimalLess_113 : decode cX7_decimalLess 113 = .ok (.ireturn, 1) := by decide +kernel
theorem dX7_holds_0 : decode cX7_holds 0 = .ok (.aload_n 0, 1) := by decide +kernel
theorem dX7_holds_1 : decode cX7_holds 1 = .ok (.bipush 8, 2) := by decide +kernel
theorem dX7_holds_3 : decode cX7_holds 3 = .ok (.invokevirtual 154, 3) := by decide +kernel
theorem dX7_holds_6 : decode cX7_holds 6 = .ok (.aload_n 0, 1) := by decide +kernel
theorem dX7_holds_7 : decode cX7_holds 7 = .ok (.iconst 2, 1) := by decide +kernel
theorem dX7_holds_8 : decode cX7_holds 8 = .ok (.invokevirtual 154, 3) := by decide +kernel
theorem dX7_holds_11 : decode cX7_holds 11 = .ok (.if_icmp .eq 7, 3) := by decide +kernel
theorem dX7_holds_14 : decode cX7_holds 14 = .ok (.iconst 1, 1) := by decide +kernel
theorem dX7_holds_15 : decode cX7_holds 15 = .ok (.goto 4, 3) := by decide +kernel
theorem dX7_holds_18 : decode cX7_holds 18 = .ok (.iconst 0, 1) := by decide +kernel
theorem dX7_holds_19 : decode cX7_holds 19 = .ok (.istore_n 2, 1) := by decide +kernel
theorem dX7_holds_20 : decode cX7_holds 20 = .ok (.iload_n 1, 1) := by decide +kernel
theorem dX7_holds_21 : decode cX7_holds 21 = .ok (.tableswitch 235 0 14 #[75, 77, 79, 101, 123, 137, 143, 157, 163, 177, 183, 198, 205, 215, 217], 75) := by decide +kernel
theorem dX7_holds_96 : decode cX7_holds 96 = .ok (.iconst 1, 1) := by decide +kernel
theorem dX7_holds_97 : decode cX7_holds 97 = .ok (.ireturn, 1) := by decide +kernel
theorem dX7_holds_98 : decode cX7_holds 98 = .ok (.iconst 0, 1) := by decide +kernel
theorem dX7_holds_99 : decode cX7_holds 99 = .ok (.ireturn, 1) := by decide +kernel
theorem dX7_holds_100 : decode cX7_holds 100 = .ok (.aload_n 0, 1) := by decide +kernel
theorem dX7_holds_101 : decode cX7_holds 101 = .ok (.iconst 1, 1) := by decide +kernel
theorem dX7_holds_102 : decode cX7_holds 102 = .ok (.invokevirtual 154, 3) := by decide +kernel
theorem dX7_holds_105 : decode cX7_holds 105 = .ok (.ifCond .ne 15, 3) := by decide +kernel
theorem dX7_holds_108 : decode cX7_holds 108 = .ok (.aload_n 0, 1) := by decide +kernel
theorem dX7_holds_109 : decode cX7_holds 109 = .ok (.iconst 4, 1) := by decide +kernel
theorem dX7_holds_110 : decode cX7_holds 110 = .ok (.invokevirtual 154, 3) := by decide +kernel
theorem dX7_holds_113 : decode cX7_holds 113 = .ok (.ifCond .ne 7, 3) := by decide +kernel
theorem dX7_holds_116 : decode cX7_holds 116 = .ok (.iconst 1, 1) := by decide +kernel
theorem dX7_holds_117 : decode cX7_holds 117 = .ok (.goto 4, 3) := by decide +kernel
theorem dX7_holds_120 : decode cX7_holds 120 = .ok (.iconst 0, 1) := by decide +kernel
theorem dX7_holds_121 : decode cX7_holds 121 = .ok (.ireturn, 1) := by decide +kernel
theorem dX7_holds_122 : decode cX7_holds 122 = .ok (.aload_n 0, 1) := by decide +kernel
theorem dX7_holds_123 : decode cX7_holds 123 = .ok (.iconst 1, 1) := by decide +kernel
theorem dX7_holds_124 : decode cX7_holds 124 = .ok (.invokevirtual 154, 3) := by decide +kernel
theorem dX7_holds_127 : decode cX7_holds 127 = .ok (.ifCond .ne 11, 3) := by decide +kernel
theorem dX7_holds_130 : decode cX7_holds 130 = .ok (.aload_n 0, 1) := by decide +kernel
theorem dX7_holds_131 : decode cX7_holds 131 = .ok (.iconst 4, 1) := by decide +kernel
theorem dX7_holds_132 : decode cX7_holds 132 = .ok (.invokevirtual 154, 3) := by decide +kernel
theorem dX7_holds_135 : decode cX7_holds 135 = .ok (.ifCond .eq 7, 3) := by decide +kernel
theorem dX7_holds_138 : decode cX7_holds 138 = .ok (.iconst 1, 1) := by decide +kernel
theorem dX7_holds_139 : decode cX7_holds 139 = .ok (.goto 4, 3) := by decide +kernel
theorem dX7_holds_142 : decode cX7_holds 142 = .ok (.iconst 0, 1) := by decide +kernel
theorem dX7_holds_143 : decode cX7_holds 143 = .ok (.ireturn, 1) := by decide +kernel
theorem dX7_holds_144 : decode cX7_holds 144 = .ok (.aload_n 0, 1) := by decide +kernel
theorem dX7_holds_145 : decode cX7_holds 145 = .ok (.iconst 1, 1) := by decide +kernel
theorem dX7_holds_146 : decode cX7_holds 146 = .ok (.invokevirtual 154, 3) := by decide +kernel
theorem dX7_holds_149 : decode cX7_holds 149 = .ok (.ifCond .ne 7, 3) := by decide +kernel
theorem dX7_holds_152 : decode cX7_holds 152 = .ok (.iconst 1, 1) := by decide +kernel
theorem dX7_holds_153 : decode cX7_holds 153 = .ok (.goto 4, 3) := by decide +kernel
theorem dX7_holds_156 : decode cX7_holds 156 = .ok (.iconst 0, 1) := by decide +kernel
theorem dX7_holds_157 : decode cX7_holds 157 = .ok (.ireturn, 1) := by decide +kernel
theorem dX7_holds_158 : decode cX7_holds 158 = .ok (.aload_n 0, 1) := by decide +kernel
theorem dX7_holds_159 : decode cX7_holds 159 = .ok (.iconst 1, 1) := by decide +kernel
theorem dX7_holds_160 : decode cX7_holds 160 = .ok (.invokevirtual 154, 3) := by decide +kernel
theorem dX7_holds_163 : decode cX7_holds 163 = .ok (.ireturn, 1) := by decide +kernel
theorem dX7_holds_164 : decode cX7_holds 164 = .ok (.aload_n 0, 1) := by decide +kernel
theorem dX7_holds_165 : decode cX7_holds 165 = .ok (.iconst 4, 1) := by decide +kernel
theorem dX7_holds_166 : decode cX7_holds 166 = .ok (.invokevirtual 154, 3) := by decide +kernel
theorem dX7_holds_169 : decode cX7_holds 169 = .ok (.ifCond .ne 7, 3) := by decide +kernel
theorem dX7_holds_172 : decode cX7_holds 172 = .ok (.iconst 1, 1) := by decide +kernel
theorem dX7_holds_173 : decode cX7_holds 173 = .ok (.goto 4, 3) := by decide +kernel
theorem dX7_holds_176 : decode cX7_holds 176 = .ok (.iconst 0, 1) := by decide +kernel
theorem dX7_holds_177 : decode cX7_holds 177 = .ok (.ireturn, 1) := by decide +kernel
theorem dX7_holds_178 : decode cX7_holds 178 = .ok (.aload_n 0, 1) := by decide +kernel
theorem dX7_holds_179 : decode cX7_holds 179 = .ok (.iconst 4, 1) := by decide +kernel
theorem dX7_holds_180 : decode cX7_holds 180 = .ok (.invokevirtual 154, 3) := by decide +kernel
theorem dX7_holds_183 : decode cX7_holds 183 = .ok (.ireturn, 1) := by decide +kernel
theorem dX7_holds_184 : decode cX7_holds 184 = .ok (.aload_n 0, 1) := by decide +kernel
theorem dX7_holds_185 : decode cX7_holds 185 = .ok (.iconst 2, 1) := by decide +kernel
theorem dX7_holds_186 : decode cX7_holds 186 = .ok (.invokevirtual 154, 3) := by decide +kernel
theorem dX7_holds_189 : decode cX7_holds 189 = .ok (.ifCond .ne 7, 3) := by decide +kernel
theorem dX7_holds_192 : decode cX7_holds 192 = .ok (.iconst 1, 1) := by decide +kernel
theorem dX7_holds_193 : decode cX7_holds 193 = .ok (.goto 4, 3) := by decide +kernel
theorem dX7_holds_196 : decode cX7_holds 196 = .ok (.iconst 0, 1) := by decide +kernel
theorem dX7_holds_197 : decode cX7_holds 197 = .ok (.ireturn, 1) := by decide +kernel
theorem dX7_holds_198 : decode cX7_holds 198 = .ok (.aload_n 0, 1) := by decide +kernel
theorem dX7_holds_199 : decode cX7_holds 199 = .ok (.iconst 2, 1) := by decide +kernel
theorem dX7_holds_200 : decode cX7_holds 200 = .ok (.invokevirtual 154, 3) := by decide +kernel
theorem dX7_holds_203 : decode cX7_holds 203 = .ok (.ireturn, 1) := by decide +kernel
theorem dX7_holds_204 : decode cX7_holds 204 = .ok (.aload_n 0, 1) := by decide +kernel
theorem dX7_holds_205 : decode cX7_holds 205 = .ok (.bipush 8, 2) := by decide +kernel
theorem dX7_holds_207 : decode cX7_holds 207 = .ok (.invokevirtual 154, 3) := by decide +kernel
theorem dX7_holds_210 : decode cX7_holds 210 = .ok (.ifCond .ne 7, 3) := by decide +kernel
theorem dX7_holds_213 : decode cX7_holds 213 = .ok (.iconst 1, 1) := by decide +kernel
theorem dX7_holds_214 : decode cX7_holds 214 = .ok (.goto 4, 3) := by decide +kernel
theorem dX7_holds_217 : decode cX7_holds 217 = .ok (.iconst 0, 1) := by decide +kernel
theorem dX7_holds_218 : decode cX7_holds 218 = .ok (.ireturn, 1) := by decide +kernel
theorem dX7_holds_219 : decode cX7_holds 219 = .ok (.aload_n 0, 1) := by decide +kernel
theorem dX7_holds_220 : decode cX7_holds 220 = .ok (.bipush 8, 2) := by decide +kernel
theorem dX7_holds_222 : decode cX7_holds 222 = .ok (.invokevirtual 154, 3) := by decide +kernel
theorem dX7_holds_225 : decode cX7_holds 225 = .ok (.ireturn, 1) := by decide +kernel
theorem dX7_holds_226 : decode cX7_holds 226 = .ok (.iload_n 2, 1) := by decide +kernel
theorem dX7_holds_227 : decode cX7_holds 227 = .ok (.ifCond .ne 7, 3) := by decide +kernel
theorem dX7_holds_230 : decode cX7_holds 230 = .ok (.iconst 1, 1) := by decide +kernel
theorem dX7_holds_231 : decode cX7_holds 231 = .ok (.goto 4, 3) := by decide +kernel
theorem dX7_holds_234 : decode cX7_holds 234 = .ok (.iconst 0, 1) := by decide +kernel
theorem dX7_holds_235 : decode cX7_holds 235 = .ok (.ireturn, 1) := by decide +kernel
theorem dX7_holds_236 : decode cX7_holds 236 = .ok (.iload_n 2, 1) := by decide +kernel
theorem dX7_holds_237 : decode cX7_holds 237 = .ok (.ireturn, 1) := by decide +kernel
theorem dX7_holds_238 : decode cX7_holds 238 = .ok (.aload_n 0, 1) := by decide +kernel
theorem dX7_holds_239 : decode cX7_holds 239 = .ok (.iconst 4, 1) := by decide +kernel
theorem dX7_holds_240 : decode cX7_holds 240 = .ok (.invokevirtual 154, 3) := by decide +kernel
theorem dX7_holds_243 : decode cX7_holds 243 = .ok (.ifCond .ne 11, 3) := by decide +kernel
theorem dX7_holds_246 : decode cX7_holds 246 = .ok (.iload_n 2, 1) := by decide +kernel
theorem dX7_holds_247 : decode cX7_holds 247 = .ok (.ifCond .ne 7, 3) := by decide +kernel
theorem dX7_holds_250 : decode cX7_holds 250 = .ok (.iconst 1, 1) := by decide +kernel
theorem dX7_holds_251 : decode cX7_holds 251 = .ok (.goto 4, 3) := by decide +kernel
theorem dX7_holds_254 : decode cX7_holds 254 = .ok (.iconst 0, 1) := by decide +kernel
theorem dX7_holds_255 : decode cX7_holds 255 = .ok (.ireturn, 1) := by decide +kernel
theorem dX7_holds_256 : decode cX7_holds 256 = .ok (.aload_n 0, 1) := by decide +kernel
theorem dX7_holds_257 : decode cX7_holds 257 = .ok (.iconst 4, 1) := by decide +kernel
theorem dX7_holds_258 : decode cX7_holds 258 = .ok (.invokevirtual 154, 3) := by decide +kernel
theorem dX7_holds_261 : decode cX7_holds 261 = .ok (.ifCond .ne 7, 3) := by decide +kernel
theorem dX7_holds_264 : decode cX7_holds 264 = .ok (.iload_n 2, 1) := by decide +kernel
theorem dX7_holds_265 : decode cX7_holds 265 = .ok (.ifCond .eq 7, 3) := by decide +kernel
theorem dX7_holds_268 : decode cX7_holds 268 = .ok (.iconst 1, 1) := by decide +kernel
theorem dX7_holds_269 : decode cX7_holds 269 = .ok (.goto 4, 3) := by decide +kernel
theorem dX7_holds_272 : decode cX7_holds 272 = .ok (.iconst 0, 1) := by decide +kernel
theorem dX7_holds_273 : decode cX7_holds 273 = .ok (.ireturn, 1) := by decide +kernel
theorem dX7_sizeOf_0 : decode cX7_sizeOf 0 = .ok (.iload_n 0, 1) := by decide +kernel
theorem dX7_sizeOf_1 : decode cX7_sizeOf 1 = .ok (.ifCond .ne 7, 3) := by decide +kernel
theorem dX7_sizeOf_4 : decode cX7_sizeOf 4 = .ok (.iconst 1, 1) := by decide +kernel
theorem dX7_sizeOf_5 : decode cX7_sizeOf 5 = .ok (.goto 13, 3) := by decide +kernel
theorem dX7_sizeOf_8 : decode cX7_sizeOf 8 = .ok (.iload_n 0, 1) := by decide +kernel
theorem dX7_sizeOf_9 : decode cX7_sizeOf 9 = .ok (.iconst 1, 1) := by decide +kernel
theorem dX7_sizeOf_10 : decode cX7_sizeOf 10 = .ok (.if_icmp .ne 7, 3) := by decide +kernel
theorem dX7_sizeOf_13 : decode cX7_sizeOf 13 = .ok (.iconst 2, 1) := by decide +kernel
theorem dX7_sizeOf_14 : decode cX7_sizeOf 14 = .ok (.goto 4, 3) := by decide +kernel
theorem dX7_sizeOf_17 : decode cX7_sizeOf 17 = .ok (.iconst 4, 1) := by decide +kernel
theorem dX7_sizeOf_18 : decode cX7_sizeOf 18 = .ok (.ireturn, 1) := by decide +kernel
theorem dX7_isUser_0 : decode cX7_isUser 0 = .ok (.aload_n 0, 1) := by decide +kernel
theorem dX7_isUser_1 : decode cX7_isUser 1 = .ok (.sipush 8192, 3) := by decide +kernel
theorem dX7_isUser_4 : decode cX7_isUser 4 = .ok (.invokevirtual 154, 3) := by decide +kernel
theorem dX7_isUser_7 : decode cX7_isUser 7 = .ok (.ifCond .ne 10, 3) := by decide +kernel
theorem dX7_isUser_10 : decode cX7_isUser 10 = .ok (.aload_n 0, 1) := by decide +kernel
theorem dX7_isUser_11 : decode cX7_isUser 11 = .ok (.bipush 8, 2) := by decide +kernel
theorem dX7_isUser_13 : decode cX7_isUser 13 = .ok (.iconst 0, 1) := by decide +kernel
theorem dX7_isUser_14 : decode cX7_isUser 14 = .ok (.invokevirtual 106, 3) := by decide +kernel
theorem dX7_isUser_17 : decode cX7_isUser 17 = .ok (.aload_n 0, 1) := by decide +kernel
theorem dX7_isUser_18 : decode cX7_isUser 18 = .ok (.getfield 100, 3) := by decide +kernel
theorem dX7_isUser_21 : decode cX7_isUser 21 = .ok (.ifCond .le 7, 3) := by decide +kernel
theorem dX7_isUser_24 : decode cX7_isUser 24 = .ok (.iconst 1, 1) := by decide +kernel
theorem dX7_isUser_25 : decode cX7_isUser 25 = .ok (.goto 4, 3) := by decide +kernel
theorem dX7_isUser_28 : decode cX7_isUser 28 = .ok (.iconst 0, 1) := by decide +kernel
theorem dX7_isUser_29 : decode cX7_isUser 29 = .ok (.ireturn, 1) := by decide +kernel
theorem dX7_putSr_0 : decode cX7_putSr 0 = .ok (.aload_n 0, 1) := by decide +kernel
theorem dX7_putSr_1 : decode cX7_putSr 1 = .ok (.getfield 100, 3) := by decide +kernel
theorem dX7_putSr_4 : decode cX7_putSr 4 = .ok (.ifCond .ne 11, 3) := by decide +kernel
theorem dX7_putSr_7 : decode cX7_putSr 7 = .ok (.aload_n 0, 1) := by decide +kernel
theorem dX7_putSr_8 : decode cX7_putSr 8 = .ok (.iload_n 1, 1) := by decide +kernel
theorem dX7_putSr_9 : decode cX7_putSr 9 = .ok (.ldc 78, 2) := by decide +kernel
theorem dX7_putSr_11 : decode cX7_putSr 11 = .ok (.iand, 1) := by decide +kernel
theorem dX7_putSr_12 : decode cX7_putSr 12 = .ok (.putfield 50, 3) := by decide +kernel
theorem dX7_putSr_15 : decode cX7_putSr 15 = .ok (.return_, 1) := by decide +kernel
theorem dX7_mixed_0 : decode cX7_mixed 0 = .ok (.iload_n 0, 1) := by decide +kernel
theorem dX7_mixed_1 : decode cX7_mixed 1 = .ok (.ifCond .ne 9, 3) := by decide +kernel
theorem dX7_mixed_4 : decode cX7_mixed 4 = .ok (.iload_n 1, 1) := by decide +kernel
theorem dX7_mixed_5 : decode cX7_mixed 5 = .ok (.iload_n 2, 1) := by decide +kernel
theorem dX7_mixed_6 : decode cX7_mixed 6 = .ok (.ior, 1) := by decide +kernel
theorem dX7_mixed_7 : decode cX7_mixed 7 = .ok (.goto 17, 3) := by decide +kernel
theorem dX7_mixed_10 : decode cX7_mixed 10 = .ok (.iload_n 0, 1) := by decide +kernel
theorem dX7_mixed_11 : decode cX7_mixed 11 = .ok (.iconst 1, 1) := by decide +kernel
theorem dX7_mixed_12 : decode cX7_mixed 12 = .ok (.if_icmp .ne 9, 3) := by decide +kernel
theorem dX7_mixed_15 : decode cX7_mixed 15 = .ok (.iload_n 1, 1) := by decide +kernel
theorem dX7_mixed_16 : decode cX7_mixed 16 = .ok (.iload_n 2, 1) := by decide +kernel
theorem dX7_mixed_17 : decode cX7_mixed 17 = .ok (.iand, 1) := by decide +kernel
theorem dX7_mixed_18 : decode cX7_mixed 18 = .ok (.goto 6, 3) := by decide +kernel
theorem dX7_mixed_21 : decode cX7_mixed 21 = .ok (.iload_n 1, 1) := by decide +kernel
theorem dX7_mixed_22 : decode cX7_mixed 22 = .ok (.iload_n 2, 1) := by decide +kernel
theorem dX7_mixed_23 : decode cX7_mixed 23 = .ok (.ixor, 1) := by decide +kernel
theorem dX7_mixed_24 : decode cX7_mixed 24 = .ok (.ireturn, 1) := by decide +kernel
theorem dX7_toFlags_0 : decode cX7_toFlags 0 = .ok (.aload_n 0, 1) := by decide +kernel
theorem dX7_toFlags_1 : decode cX7_toFlags 1 = .ok (.getfield 174, 3) := by decide +kernel
theorem dX7_toFlags_4 : decode cX7_toFlags 4 = .ok (.bipush 64, 2) := by decide +kernel
theorem dX7_toFlags_6 : decode cX7_toFlags 6 = .ok (.iand, 1) := by decide +kernel
theorem dX7_toFlags_7 : decode cX7_toFlags 7 = .ok (.ifCond .eq 7, 3) := by decide +kernel
theorem dX7_toFlags_10 : decode cX7_toFlags 10 = .ok (.iconst 1, 1) := by decide +kernel
theorem dX7_toFlags_11 : decode cX7_toFlags 11 = .ok (.goto 4, 3) := by decide +kernel
theorem dX7_toFlags_14 : decode cX7_toFlags 14 = .ok (.iconst 0, 1) := by decide +kernel
theorem dX7_toFlags_15 : decode cX7_toFlags 15 = .ok (.istore_n 2, 1) := by decide +kernel
theorem dX7_toFlags_16 : decode cX7_toFlags 16 = .ok (.iload_n 2, 1) := by decide +kernel
theorem dX7_toFlags_17 : decode cX7_toFlags 17 = .ok (.ifCond .eq 12, 3) := by decide +kernel
theorem dX7_toFlags_20 : decode cX7_toFlags 20 = .ok (.aload_n 0, 1) := by decide +kernel
theorem dX7_toFlags_21 : decode cX7_toFlags 21 = .ok (.invokevirtual 177, 3) := by decide +kernel
theorem dX7_toFlags_24 : decode cX7_toFlags 24 = .ok (.ifCond .eq 5, 3) := by decide +kernel
theorem dX7_toFlags_27 : decode cX7_toFlags 27 = .ok (.iconst 1, 1) := by decide +kernel
theorem dX7_toFlags_28 : decode cX7_toFlags 28 = .ok (.ireturn, 1) := by decide +kernel
theorem dX7_toFlags_29 : decode cX7_toFlags 29 = .ok (.aload_n 0, 1) := by decide +kernel
theorem dX7_toFlags_30 : decode cX7_toFlags 30 = .ok (.invokevirtual 125, 3) := by decide +kernel
theorem dX7_toFlags_33 : decode cX7_toFlags 33 = .ok (.istore_n 3, 1) := by decide +kernel
theorem dX7_toFlags_34 : decode cX7_toFlags 34 = .ok (.iload_n 2, 1) := by decide +kernel
theorem dX7_toFlags_35 : decode cX7_toFlags 35 = .ok (.ifCond .eq 19, 3) := by decide +kernel
theorem dX7_toFlags_38 : decode cX7_toFlags 38 = .ok (.aload_n 0, 1) := by decide +kernel
theorem dX7_toFlags_39 : decode cX7_toFlags 39 = .ok (.iload_n 1, 1) := by decide +kernel
theorem dX7_toFlags_40 : decode cX7_toFlags 40 = .ok (.aload_n 0, 1) := by decide +kernel
theorem dX7_toFlags_41 : decode cX7_toFlags 41 = .ok (.getfield 50, 3) := by decide +kernel
theorem dX7_toFlags_44 : decode cX7_toFlags 44 = .ok (.iload_n 3, 1) := by decide +kernel
theorem dX7_toFlags_45 : decode cX7_toFlags 45 = .ok (.invokestatic 181, 3) := by decide +kernel
theorem dX7_toFlags_48 : decode cX7_toFlags 48 = .ok (.invokevirtual 184, 3) := by decide +kernel
theorem dX7_toFlags_51 : decode cX7_toFlags 51 = .ok (.goto 29, 3) := by decide +kernel
theorem dX7_toFlags_54 : decode cX7_toFlags 54 = .ok (.aload_n 0, 1) := by decide +kernel
theorem dX7_toFlags_55 : decode cX7_toFlags 55 = .ok (.aload_n 0, 1) := by decide +kernel
theorem dX7_toFlags_56 : decode cX7_toFlags 56 = .ok (.getfield 50, 3) := by decide +kernel
theorem dX7_toFlags_59 : decode cX7_toFlags 59 = .ok (.sipush (-256), 3) := by decide +kernel
theorem dX7_toFlags_62 : decode cX7_toFlags 62 = .ok (.iand, 1) := by decide +kernel
theorem dX7_toFlags_63 : decode cX7_toFlags 63 = .ok (.iload_n 1, 1) := by decide +kernel
theorem dX7_toFlags_64 : decode cX7_toFlags 64 = .ok (.aload_n 0, 1) := by decide +kernel
theorem dX7_toFlags_65 : decode cX7_toFlags 65 = .ok (.getfield 50, 3) := by decide +kernel
theorem dX7_toFlags_68 : decode cX7_toFlags 68 = .ok (.iload_n 3, 1) := by decide +kernel
theorem dX7_toFlags_69 : decode cX7_toFlags 69 = .ok (.invokestatic 181, 3) := by decide +kernel
theorem dX7_toFlags_72 : decode cX7_toFlags 72 = .ok (.sipush 255, 3) := by decide +kernel
theorem dX7_toFlags_75 : decode cX7_toFlags 75 = .ok (.iand, 1) := by decide +kernel
theorem dX7_toFlags_76 : decode cX7_toFlags 76 = .ok (.ior, 1) := by decide +kernel
theorem dX7_toFlags_77 : decode cX7_toFlags 77 = .ok (.invokevirtual 184, 3) := by decide +kernel
theorem dX7_toFlags_80 : decode cX7_toFlags 80 = .ok (.iconst 1, 1) := by decide +kernel
theorem dX7_toFlags_81 : decode cX7_toFlags 81 = .ok (.ireturn, 1) := by decide +kernel
theorem dX7_movePeripheral_0 : decode cX7_movePeripheral 0 = .ok (.aload_n 0, 1) := by decide +kernel
theorem dX7_movePeripheral_1 : decode cX7_movePeripheral 1 = .ok (.getfield 174, 3) := by decide +kernel
theorem dX7_movePeripheral_4 : decode cX7_movePeripheral 4 = .ok (.bipush 6, 2) := by decide +kernel
theorem dX7_movePeripheral_6 : decode cX7_movePeripheral 6 = .ok (.ishr, 1) := by decide +kernel
theorem dX7_movePeripheral_7 : decode cX7_movePeripheral 7 = .ok (.iconst 3, 1) := by decide +kernel
theorem dX7_movePeripheral_8 : decode cX7_movePeripheral 8 = .ok (.iand, 1) := by decide +kernel
theorem dX7_movePeripheral_9 : decode cX7_movePeripheral 9 = .ok (.istore_n 1, 1) := by decide +kernel
theorem dX7_movePeripheral_10 : decode cX7_movePeripheral 10 = .ok (.aload_n 0, 1) := by decide +kernel
theorem dX7_movePeripheral_11 : decode cX7_movePeripheral 11 = .ok (.getfield 174, 3) := by decide +kernel
theorem dX7_movePeripheral_14 : decode cX7_movePeripheral 14 = .ok (.bipush 9, 2) := by decide +kernel
theorem dX7_movePeripheral_16 : decode cX7_movePeripheral 16 = .ok (.ishr, 1) := by decide +kernel
theorem dX7_movePeripheral_17 : decode cX7_movePeripheral 17 = .ok (.bipush 7, 2) := by decide +kernel
theorem dX7_movePeripheral_19 : decode cX7_movePeripheral 19 = .ok (.iand, 1) := by decide +kernel
theorem dX7_movePeripheral_20 : decode cX7_movePeripheral 20 = .ok (.istore_n 2, 1) := by decide +kernel
theorem dX7_movePeripheral_21 : decode cX7_movePeripheral 21 = .ok (.aload_n 0, 1) := by decide +kernel
theorem dX7_movePeripheral_22 : decode cX7_movePeripheral 22 = .ok (.aload_n 0, 1) := by decide +kernel
theorem dX7_movePeripheral_23 : decode cX7_movePeripheral 23 = .ok (.getfield 174, 3) := by decide +kernel
theorem dX7_movePeripheral_26 : decode cX7_movePeripheral 26 = .ok (.bipush 7, 2) := by decide +kernel
theorem dX7_movePeripheral_28 : decode cX7_movePeripheral 28 = .ok (.iand, 1) := by decide +kernel
theorem dX7_movePeripheral_29 : decode cX7_movePeripheral 29 = .ok (.invokevirtual 70, 3) := by decide +kernel
theorem dX7_movePeripheral_32 : decode cX7_movePeripheral 32 = .ok (.aload_n 0, 1) := by decide +kernel
theorem dX7_movePeripheral_33 : decode cX7_movePeripheral 33 = .ok (.invokevirtual 125, 3) := by decide +kernel
theorem dX7_movePeripheral_36 : decode cX7_movePeripheral 36 = .ok (.i2s, 1) := by decide +kernel
theorem dX7_movePeripheral_37 : decode cX7_movePeripheral 37 = .ok (.iadd, 1) := by decide +kernel
theorem dX7_movePeripheral_38 : decode cX7_movePeripheral 38 = .ok (.istore_n 3, 1) := by decide +kernel
theorem dX7_movePeripheral_39 : decode cX7_movePeripheral 39 = .ok (.iload_n 1, 1) := by decide +kernel
theorem dX7_movePeripheral_40 : decode cX7_movePeripheral 40 = .ok (.iconst 1, 1) := by decide +kernel
theorem dX7_movePeripheral_41 : decode cX7_movePeripheral 41 = .ok (.iand, 1) := by decide +kernel
theorem dX7_movePeripheral_42 : decode cX7_movePeripheral 42 = .ok (.iconst 1, 1) := by decide +kernel
theorem dX7_movePeripheral_43 : decode cX7_movePeripheral 43 = .ok (.if_icmp .ne 7, 3) := by decide +kernel
theorem dX7_movePeripheral_46 : decode cX7_movePeripheral 46 = .ok (.iconst 4, 1) := by decide +kernel
theorem dX7_movePeripheral_47 : decode cX7_movePeripheral 47 = .ok (.goto 4, 3) := by decide +kernel
theorem dX7_movePeripheral_50 : decode cX7_movePeripheral 50 = .ok (.iconst 2, 1) := by decide +kernel
theorem dX7_movePeripheral_51 : decode cX7_movePeripheral 51 = .ok (.istore 4, 2) := by decide +kernel
theorem dX7_movePeripheral_53 : decode cX7_movePeripheral 53 = .ok (.iload_n 1, 1) := by decide +kernel
theorem dX7_movePeripheral_54 : decode cX7_movePeripheral 54 = .ok (.iconst 2, 1) := by decide +kernel
theorem dX7_movePeripheral_55 : decode cX7_movePeripheral 55 = .ok (.if_icmp .ge 62, 3) := by decide +kernel
theorem dX7_movePeripheral_58 : decode cX7_movePeripheral 58 = .ok (.iconst 0, 1) := by decide +kernel
theorem dX7_movePeripheral_59 : decode cX7_movePeripheral 59 = .ok (.istore 5, 2) := by decide +kernel
theorem dX7_movePeripheral_61 : decode cX7_movePeripheral 61 = .ok (.iconst 0, 1) := by decide +kernel
theorem dX7_movePeripheral_62 : decode cX7_movePeripheral 62 = .ok (.istore 6, 2) := by decide +kernel
theorem dX7_movePeripheral_64 : decode cX7_movePeripheral 64 = .ok (.iload 6, 2) := by decide +kernel
theorem dX7_movePeripheral_66 : decode cX7_movePeripheral 66 = .ok (.iload 4, 2) := by decide +kernel
theorem dX7_movePeripheral_68 : decode cX7_movePeripheral 68 = .ok (.if_icmp .ge 27, 3) := by decide +kernel
theorem dX7_movePeripheral_71 : decode cX7_movePeripheral 71 = .ok (.iload 5, 2) := by decide +kernel
theorem dX7_movePeripheral_73 : decode cX7_movePeripheral 73 = .ok (.bipush 8, 2) := by decide +kernel
theorem dX7_movePeripheral_75 : decode cX7_movePeripheral 75 = .ok (.ishl, 1) := by decide +kernel
theorem dX7_movePeripheral_76 : decode cX7_movePeripheral 76 = .ok (.aload_n 0, 1) := by decide +kernel
theorem dX7_movePeripheral_77 : decode cX7_movePeripheral 77 = .ok (.iload_n 3, 1) := by decide +kernel
theorem dX7_movePeripheral_78 : decode cX7_movePeripheral 78 = .ok (.iconst 2, 1) := by decide +kernel
theorem dX7_movePeripheral_79 : decode cX7_movePeripheral 79 = .ok (.iload 6, 2) := by decide +kernel
theorem dX7_movePeripheral_81 : decode cX7_movePeripheral 81 = .ok (.imul, 1) := by decide +kernel
theorem dX7_movePeripheral_82 : decode cX7_movePeripheral 82 = .ok (.iadd, 1) := by decide +kernel
theorem dX7_movePeripheral_83 : decode cX7_movePeripheral 83 = .ok (.invokevirtual 82, 3) := by decide +kernel
theorem dX7_movePeripheral_86 : decode cX7_movePeripheral 86 = .ok (.ior, 1) := by decide +kernel
theorem dX7_movePeripheral_87 : decode cX7_movePeripheral 87 = .ok (.istore 5, 2) := by decide +kernel
theorem dX7_movePeripheral_89 : decode cX7_movePeripheral 89 = .ok (.iinc 6 1, 3) := by decide +kernel
theorem dX7_movePeripheral_92 : decode cX7_movePeripheral 92 = .ok (.goto (-28), 3) := by decide +kernel
theorem dX7_movePeripheral_95 : decode cX7_movePeripheral 95 = .ok (.aload_n 0, 1) := by decide +kernel
theorem dX7_movePeripheral_96 : decode cX7_movePeripheral 96 = .ok (.getfield 13, 3) := by decide +kernel
theorem dX7_movePeripheral_99 : decode cX7_movePeripheral 99 = .ok (.iload_n 2, 1) := by decide +kernel
theorem dX7_movePeripheral_100 : decode cX7_movePeripheral 100 = .ok (.aload_n 0, 1) := by decide +kernel
theorem dX7_movePeripheral_101 : decode cX7_movePeripheral 101 = .ok (.getfield 13, 3) := by decide +kernel
theorem dX7_movePeripheral_104 : decode cX7_movePeripheral 104 = .ok (.iload_n 2, 1) := by decide +kernel
theorem dX7_movePeripheral_105 : decode cX7_movePeripheral 105 = .ok (.iaload, 1) := by decide +kernel
theorem dX7_movePeripheral_106 : decode cX7_movePeripheral 106 = .ok (.iload 5, 2) := by decide +kernel
theorem dX7_movePeripheral_108 : decode cX7_movePeripheral 108 = .ok (.iload 4, 2) := by decide +kernel
theorem dX7_movePeripheral_110 : decode cX7_movePeripheral 110 = .ok (.invokestatic 150, 3) := by decide +kernel
theorem dX7_movePeripheral_113 : decode cX7_movePeripheral 113 = .ok (.iastore, 1) := by decide +kernel
theorem dX7_movePeripheral_114 : decode cX7_movePeripheral 114 = .ok (.goto 46, 3) := by decide +kernel
theorem dX7_movePeripheral_117 : decode cX7_movePeripheral 117 = .ok (.iconst 0, 1) := by decide +kernel
theorem dX7_movePeripheral_118 : decode cX7_movePeripheral 118 = .ok (.istore 5, 2) := by decide +kernel
theorem dX7_movePeripheral_120 : decode cX7_movePeripheral 120 = .ok (.iload 5, 2) := by decide +kernel
theorem dX7_movePeripheral_122 : decode cX7_movePeripheral 122 = .ok (.iload 4, 2) := by decide +kernel
theorem dX7_movePeripheral_124 : decode cX7_movePeripheral 124 = .ok (.if_icmp .ge 36, 3) := by decide +kernel
theorem dX7_movePeripheral_127 : decode cX7_movePeripheral 127 = .ok (.aload_n 0, 1) := by decide +kernel
theorem dX7_movePeripheral_128 : decode cX7_movePeripheral 128 = .ok (.iload_n 3, 1) := by decide +kernel
theorem dX7_movePeripheral_129 : decode cX7_movePeripheral 129 = .ok (.iconst 2, 1) := by decide +kernel
theorem dX7_movePeripheral_130 : decode cX7_movePeripheral 130 = .ok (.iload 5, 2) := by decide +kernel
theorem dX7_movePeripheral_132 : decode cX7_movePeripheral 132 = .ok (.imul, 1) := by decide +kernel
theorem dX7_movePeripheral_133 : decode cX7_movePeripheral 133 = .ok (.iadd, 1) := by decide +kernel
theorem dX7_movePeripheral_134 : decode cX7_movePeripheral 134 = .ok (.aload_n 0, 1) := by decide +kernel
theorem dX7_movePeripheral_135 : decode cX7_movePeripheral 135 = .ok (.getfield 13, 3) := by decide +kernel
theorem dX7_movePeripheral_138 : decode cX7_movePeripheral 138 = .ok (.iload_n 2, 1) := by decide +kernel
theorem dX7_movePeripheral_139 : decode cX7_movePeripheral 139 = .ok (.iaload, 1) := by decide +kernel
theorem dX7_movePeripheral_140 : decode cX7_movePeripheral 140 = .ok (.bipush 8, 2) := by decide +kernel
theorem dX7_movePeripheral_142 : decode cX7_movePeripheral 142 = .ok (.iload 4, 2) := by decide +kernel
theorem dX7_movePeripheral_144 : decode cX7_movePeripheral 144 = .ok (.iconst 1, 1) := by decide +kernel
theorem dX7_movePeripheral_145 : decode cX7_movePeripheral 145 = .ok (.isub, 1) := by decide +kernel
theorem dX7_movePeripheral_146 : decode cX7_movePeripheral 146 = .ok (.iload 5, 2) := by decide +kernel
theorem dX7_movePeripheral_148 : decode cX7_movePeripheral 148 = .ok (.isub, 1) := by decide +kernel
theorem dX7_movePeripheral_149 : decode cX7_movePeripheral 149 = .ok (.imul, 1) := by decide +kernel
theorem dX7_movePeripheral_150 : decode cX7_movePeripheral 150 = .ok (.ishr, 1) := by decide +kernel
theorem dX7_movePeripheral_151 : decode cX7_movePeripheral 151 = .ok (.invokevirtual 85, 3) := by decide +kernel
theorem dX7_movePeripheral_154 : decode cX7_movePeripheral 154 = .ok (.iinc 5 1, 3) := by decide +kernel
theorem dX7_movePeripheral_157 : decode cX7_movePeripheral 157 = .ok (.goto (-37), 3) := by decide +kernel
theorem dX7_movePeripheral_160 : decode cX7_movePeripheral 160 = .ok (.iconst 1, 1) := by decide +kernel
theorem dX7_movePeripheral_161 : decode cX7_movePeripheral 161 = .ok (.ireturn, 1) := by decide +kernel
theorem dX7_oneBit_0 : decode cX7_oneBit 0 = .ok (.aload_n 0, 1) := by decide +kernel
theorem dX7_oneBit_1 : decode cX7_oneBit 1 = .ok (.getfield 174, 3) := by decide +kernel
theorem dX7_oneBit_4 : decode cX7_oneBit 4 = .ok (.bipush 63, 2) := by decide +kernel
theorem dX7_oneBit_6 : decode cX7_oneBit 6 = .ok (.iand, 1) := by decide +kernel
theorem dX7_oneBit_7 : decode cX7_oneBit 7 = .ok (.istore_n 3, 1) := by decide +kernel
theorem dX7_oneBit_8 : decode cX7_oneBit 8 = .ok (.iload_n 3, 1) := by decide +kernel
theorem dX7_oneBit_9 : decode cX7_oneBit 9 = .ok (.iload_n 1, 1) := by decide +kernel
theorem dX7_oneBit_10 : decode cX7_oneBit 10 = .ok (.ifCond .ne 7, 3) := by decide +kernel
theorem dX7_oneBit_13 : decode cX7_oneBit 13 = .ok (.iconst 1, 1) := by decide +kernel
theorem dX7_oneBit_14 : decode cX7_oneBit 14 = .ok (.goto 4, 3) := by decide +kernel
theorem dX7_oneBit_17 : decode cX7_oneBit 17 = .ok (.iconst 4, 1) := by decide +kernel
theorem dX7_oneBit_18 : decode cX7_oneBit 18 = .ok (.iconst 1, 1) := by decide +kernel
theorem dX7_oneBit_19 : decode cX7_oneBit 19 = .ok (.invokestatic 188, 3) := by decide +kernel
theorem dX7_oneBit_22 : decode cX7_oneBit 22 = .ok (.ifCond .eq 13, 3) := by decide +kernel
theorem dX7_oneBit_25 : decode cX7_oneBit 25 = .ok (.iload_n 2, 1) := by decide +kernel
theorem dX7_oneBit_26 : decode cX7_oneBit 26 = .ok (.ifCond .eq 11, 3) := by decide +kernel
theorem dX7_oneBit_29 : decode cX7_oneBit 29 = .ok (.iload_n 3, 1) := by decide +kernel
theorem dX7_oneBit_30 : decode cX7_oneBit 30 = .ok (.bipush 60, 2) := by decide +kernel
theorem dX7_oneBit_32 : decode cX7_oneBit 32 = .ok (.if_icmp .ne 5, 3) := by decide +kernel
theorem dX7_oneBit_35 : decode cX7_oneBit 35 = .ok (.iconst 0, 1) := by decide +kernel
theorem dX7_oneBit_36 : decode cX7_oneBit 36 = .ok (.ireturn, 1) := by decide +kernel
theorem dX7_oneBit_37 : decode cX7_oneBit 37 = .ok (.iload_n 2, 1) := by decide +kernel
theorem dX7_oneBit_38 : decode cX7_oneBit 38 = .ok (.ifCond .eq 10, 3) := by decide +kernel
theorem dX7_oneBit_41 : decode cX7_oneBit 41 = .ok (.aload_n 0, 1) := by decide +kernel
theorem dX7_oneBit_42 : decode cX7_oneBit 42 = .ok (.invokevirtual 125, 3) := by decide +kernel
theorem dX7_oneBit_45 : decode cX7_oneBit 45 = .ok (.goto 18, 3) := by decide +kernel
theorem dX7_oneBit_48 : decode cX7_oneBit 48 = .ok (.aload_n 0, 1) := by decide +kernel
theorem dX7_oneBit_49 : decode cX7_oneBit 49 = .ok (.getfield 13, 3) := by decide +kernel
theorem dX7_oneBit_52 : decode cX7_oneBit 52 = .ok (.aload_n 0, 1) := by decide +kernel
theorem dX7_oneBit_53 : decode cX7_oneBit 53 = .ok (.getfield 174, 3) := by decide +kernel
theorem dX7_oneBit_56 : decode cX7_oneBit 56 = .ok (.bipush 9, 2) := by decide +kernel
theorem dX7_oneBit_58 : decode cX7_oneBit 58 = .ok (.ishr, 1) := by decide +kernel
theorem dX7_oneBit_59 : decode cX7_oneBit 59 = .ok (.bipush 7, 2) := by decide +kernel
theorem dX7_oneBit_61 : decode cX7_oneBit 61 = .ok (.iand, 1) := by decide +kernel
theorem dX7_oneBit_62 : decode cX7_oneBit 62 = .ok (.iaload, 1) := by decide +kernel
theorem dX7_oneBit_63 : decode cX7_oneBit 63 = .ok (.istore 4, 2) := by decide +kernel
theorem dX7_oneBit_65 : decode cX7_oneBit 65 = .ok (.iload_n 3, 1) := by decide +kernel
theorem dX7_oneBit_66 : decode cX7_oneBit 66 = .ok (.iconst 3, 1) := by decide +kernel
theorem dX7_oneBit_67 : decode cX7_oneBit 67 = .ok (.ishr, 1) := by decide +kernel
theorem dX7_oneBit_68 : decode cX7_oneBit 68 = .ok (.ifCond .ne 7, 3) := by decide +kernel
theorem dX7_oneBit_71 : decode cX7_oneBit 71 = .ok (.iconst 4, 1) := by decide +kernel
theorem dX7_oneBit_72 : decode cX7_oneBit 72 = .ok (.goto 4, 3) := by decide +kernel
theorem dX7_oneBit_75 : decode cX7_oneBit 75 = .ok (.iconst 1, 1) := by decide +kernel
theorem dX7_oneBit_76 : decode cX7_oneBit 76 = .ok (.istore 5, 2) := by decide +kernel
theorem dX7_oneBit_78 : decode cX7_oneBit 78 = .ok (.iload 4, 2) := by decide +kernel
theorem dX7_oneBit_80 : decode cX7_oneBit 80 = .ok (.iload 5, 2) := by decide +kernel
theorem dX7_oneBit_82 : decode cX7_oneBit 82 = .ok (.iconst 4, 1) := by decide +kernel
theorem dX7_oneBit_83 : decode cX7_oneBit 83 = .ok (.if_icmp .ne 8, 3) := by decide +kernel
theorem dX7_oneBit_86 : decode cX7_oneBit 86 = .ok (.bipush 31, 2) := by decide +kernel
theorem dX7_oneBit_88 : decode cX7_oneBit 88 = .ok (.goto 5, 3) := by decide +kernel
theorem dX7_oneBit_91 : decode cX7_oneBit 91 = .ok (.bipush 7, 2) := by decide +kernel
theorem dX7_oneBit_93 : decode cX7_oneBit 93 = .ok (.iand, 1) := by decide +kernel
theorem dX7_oneBit_94 : decode cX7_oneBit 94 = .ok (.istore 4, 2) := by decide +kernel
theorem dX7_oneBit_96 : decode cX7_oneBit 96 = .ok (.aload_n 0, 1) := by decide +kernel
theorem dX7_oneBit_97 : decode cX7_oneBit 97 = .ok (.iload_n 3, 1) := by decide +kernel
theorem dX7_oneBit_98 : decode cX7_oneBit 98 = .ok (.iload 5, 2) := by decide +kernel
theorem dX7_oneBit_100 : decode cX7_oneBit 100 = .ok (.invokevirtual 192, 3) := by decide +kernel
theorem dX7_oneBit_103 : decode cX7_oneBit 103 = .ok (.aload_n 0, 1) := by decide +kernel
theorem dX7_oneBit_104 : decode cX7_oneBit 104 = .ok (.iload 5, 2) := by decide +kernel
theorem dX7_oneBit_106 : decode cX7_oneBit 106 = .ok (.invokevirtual 195, 3) := by decide +kernel
theorem dX7_oneBit_109 : decode cX7_oneBit 109 = .ok (.istore 6, 2) := by decide +kernel
theorem dX7_oneBit_111 : decode cX7_oneBit 111 = .ok (.aload_n 0, 1) := by decide +kernel
theorem dX7_oneBit_112 : decode cX7_oneBit 112 = .ok (.iconst 4, 1) := by decide +kernel
theorem dX7_oneBit_113 : decode cX7_oneBit 113 = .ok (.iload 6, 2) := by decide +kernel
theorem dX7_oneBit_115 : decode cX7_oneBit 115 = .ok (.iload 4, 2) := by decide +kernel
theorem dX7_oneBit_117 : decode cX7_oneBit 117 = .ok (.ishr, 1) := by decide +kernel
theorem dX7_oneBit_118 : decode cX7_oneBit 118 = .ok (.iconst 1, 1) := by decide +kernel
theorem dX7_oneBit_119 : decode cX7_oneBit 119 = .ok (.iand, 1) := by decide +kernel
theorem dX7_oneBit_120 : decode cX7_oneBit 120 = .ok (.ifCond .ne 7, 3) := by decide +kernel
theorem dX7_oneBit_123 : decode cX7_oneBit 123 = .ok (.iconst 1, 1) := by decide +kernel
theorem dX7_oneBit_124 : decode cX7_oneBit 124 = .ok (.goto 4, 3) := by decide +kernel
theorem dX7_oneBit_127 : decode cX7_oneBit 127 = .ok (.iconst 0, 1) := by decide +kernel
theorem dX7_oneBit_128 : decode cX7_oneBit 128 = .ok (.invokevirtual 160, 3) := by decide +kernel
theorem dX7_oneBit_131 : decode cX7_oneBit 131 = .ok (.iload_n 1, 1) := by decide +kernel
theorem dX7_oneBit_132 : decode cX7_oneBit 132 = .ok (.ifCond .le 48, 3) := by decide +kernel
theorem dX7_oneBit_135 : decode cX7_oneBit 135 = .ok (.iconst 1, 1) := by decide +kernel
theorem dX7_oneBit_136 : decode cX7_oneBit 136 = .ok (.iload 4, 2) := by decide +kernel
theorem dX7_oneBit_138 : decode cX7_oneBit 138 = .ok (.ishl, 1) := by decide +kernel
theorem dX7_oneBit_139 : decode cX7_oneBit 139 = .ok (.istore 7, 2) := by decide +kernel
theorem dX7_oneBit_141 : decode cX7_oneBit 141 = .ok (.aload_n 0, 1) := by decide +kernel
theorem dX7_oneBit_142 : decode cX7_oneBit 142 = .ok (.iload_n 1, 1) := by decide +kernel
theorem dX7_oneBit_143 : decode cX7_oneBit 143 = .ok (.iconst 1, 1) := by decide +kernel
theorem dX7_oneBit_144 : decode cX7_oneBit 144 = .ok (.if_icmp .ne 11, 3) := by decide +kernel
theorem dX7_oneBit_147 : decode cX7_oneBit 147 = .ok (.iload 6, 2) := by decide +kernel
theorem dX7_oneBit_149 : decode cX7_oneBit 149 = .ok (.iload 7, 2) := by decide +kernel
theorem dX7_oneBit_151 : decode cX7_oneBit 151 = .ok (.ixor, 1) := by decide +kernel
theorem dX7_oneBit_152 : decode cX7_oneBit 152 = .ok (.goto 23, 3) := by decide +kernel
theorem dX7_oneBit_155 : decode cX7_oneBit 155 = .ok (.iload_n 1, 1) := by decide +kernel
theorem dX7_oneBit_156 : decode cX7_oneBit 156 = .ok (.iconst 2, 1) := by decide +kernel
theorem dX7_oneBit_157 : decode cX7_oneBit 157 = .ok (.if_icmp .ne 13, 3) := by decide +kernel
theorem dX7_oneBit_160 : decode cX7_oneBit 160 = .ok (.iload 6, 2) := by decide +kernel
theorem dX7_oneBit_162 : decode cX7_oneBit 162 = .ok (.iload 7, 2) := by decide +kernel
theorem dX7_oneBit_164 : decode cX7_oneBit 164 = .ok (.iconst (-1), 1) := by decide +kernel
theorem dX7_oneBit_165 : decode cX7_oneBit 165 = .ok (.ixor, 1) := by decide +kernel
theorem dX7_oneBit_166 : decode cX7_oneBit 166 = .ok (.iand, 1) := by decide +kernel
theorem dX7_oneBit_167 : decode cX7_oneBit 167 = .ok (.goto 8, 3) := by decide +kernel
theorem dX7_oneBit_170 : decode cX7_oneBit 170 = .ok (.iload 6, 2) := by decide +kernel
theorem dX7_oneBit_172 : decode cX7_oneBit 172 = .ok (.iload 7, 2) := by decide +kernel
theorem dX7_oneBit_174 : decode cX7_oneBit 174 = .ok (.ior, 1) := by decide +kernel
theorem dX7_oneBit_175 : decode cX7_oneBit 175 = .ok (.iload 5, 2) := by decide +kernel
theorem dX7_oneBit_177 : decode cX7_oneBit 177 = .ok (.invokevirtual 198, 3) := by decide +kernel
theorem dX7_oneBit_180 : decode cX7_oneBit 180 = .ok (.iconst 1, 1) := by decide +kernel
theorem dX7_oneBit_181 : decode cX7_oneBit 181 = .ok (.ireturn, 1) := by decide +kernel
theorem dX7_group0_0 : decode cX7_group0 0 = .ok (.aload_n 0, 1) := by decide +kernel
theorem dX7_group0_1 : decode cX7_group0 1 = .ok (.getfield 174, 3) := by decide +kernel
theorem dX7_group0_4 : decode cX7_group0 4 = .ok (.bipush 6, 2) := by decide +kernel
theorem dX7_group0_6 : decode cX7_group0 6 = .ok (.ishr, 1) := by decide +kernel
theorem dX7_group0_7 : decode cX7_group0 7 = .ok (.iconst 3, 1) := by decide +kernel
theorem dX7_group0_8 : decode cX7_group0 8 = .ok (.iand, 1) := by decide +kernel
theorem dX7_group0_9 : decode cX7_group0 9 = .ok (.istore_n 1, 1) := by decide +kernel
theorem dX7_group0_10 : decode cX7_group0 10 = .ok (.aload_n 0, 1) := by decide +kernel
theorem dX7_group0_11 : decode cX7_group0 11 = .ok (.getfield 174, 3) := by decide +kernel
theorem dX7_group0_14 : decode cX7_group0 14 = .ok (.bipush 9, 2) := by decide +kernel
theorem dX7_group0_16 : decode cX7_group0 16 = .ok (.ishr, 1) := by decide +kernel
theorem dX7_group0_17 : decode cX7_group0 17 = .ok (.bipush 7, 2) := by decide +kernel
theorem dX7_group0_19 : decode cX7_group0 19 = .ok (.iand, 1) := by decide +kernel
theorem dX7_group0_20 : decode cX7_group0 20 = .ok (.istore_n 2, 1) := by decide +kernel
theorem dX7_group0_21 : decode cX7_group0 21 = .ok (.aload_n 0, 1) := by decide +kernel
theorem dX7_group0_22 : decode cX7_group0 22 = .ok (.getfield 174, 3) := by decide +kernel
theorem dX7_group0_25 : decode cX7_group0 25 = .ok (.sipush 256, 3) := by decide +kernel
theorem dX7_group0_28 : decode cX7_group0 28 = .ok (.iand, 1) := by decide +kernel
theorem dX7_group0_29 : decode cX7_group0 29 = .ok (.ifCond .eq 30, 3) := by decide +kernel
theorem dX7_group0_32 : decode cX7_group0 32 = .ok (.aload_n 0, 1) := by decide +kernel
theorem dX7_group0_33 : decode cX7_group0 33 = .ok (.getfield 174, 3) := by decide +kernel
theorem dX7_group0_36 : decode cX7_group0 36 = .ok (.iconst 3, 1) := by decide +kernel
theorem dX7_group0_37 : decode cX7_group0 37 = .ok (.ishr, 1) := by decide +kernel
theorem dX7_group0_38 : decode cX7_group0 38 = .ok (.bipush 7, 2) := by decide +kernel
theorem dX7_group0_40 : decode cX7_group0 40 = .ok (.iand, 1) := by decide +kernel
theorem dX7_group0_41 : decode cX7_group0 41 = .ok (.iconst 1, 1) := by decide +kernel
theorem dX7_group0_42 : decode cX7_group0 42 = .ok (.if_icmp .ne 10, 3) := by decide +kernel
theorem dX7_group0_45 : decode cX7_group0 45 = .ok (.aload_n 0, 1) := by decide +kernel
theorem dX7_group0_46 : decode cX7_group0 46 = .ok (.invokevirtual 201, 3) := by decide +kernel
theorem dX7_group0_49 : decode cX7_group0 49 = .ok (.goto 9, 3) := by decide +kernel
theorem dX7_group0_52 : decode cX7_group0 52 = .ok (.aload_n 0, 1) := by decide +kernel
theorem dX7_group0_53 : decode cX7_group0 53 = .ok (.iload_n 1, 1) := by decide +kernel
theorem dX7_group0_54 : decode cX7_group0 54 = .ok (.iconst 0, 1) := by decide +kernel
theorem dX7_group0_55 : decode cX7_group0 55 = .ok (.invokevirtual 204, 3) := by decide +kernel
theorem dX7_group0_58 : decode cX7_group0 58 = .ok (.ireturn, 1) := by decide +kernel
theorem dX7_group0_59 : decode cX7_group0 59 = .ok (.iload_n 2, 1) := by decide +kernel
theorem dX7_group0_60 : decode cX7_group0 60 = .ok (.iconst 4, 1) := by decide +kernel
theorem dX7_group0_61 : decode cX7_group0 61 = .ok (.if_icmp .ne 10, 3) := by decide +kernel
theorem dX7_group0_64 : decode cX7_group0 64 = .ok (.aload_n 0, 1) := by decide +kernel
theorem dX7_group0_65 : decode cX7_group0 65 = .ok (.iload_n 1, 1) := by decide +kernel
theorem dX7_group0_66 : decode cX7_group0 66 = .ok (.iconst 1, 1) := by decide +kernel
theorem dX7_group0_67 : decode cX7_group0 67 = .ok (.invokevirtual 204, 3) := by decide +kernel
theorem dX7_group0_70 : decode cX7_group0 70 = .ok (.ireturn, 1) := by decide +kernel
theorem dX7_group0_71 : decode cX7_group0 71 = .ok (.iload_n 2, 1) := by decide +kernel
theorem dX7_group0_72 : decode cX7_group0 72 = .ok (.ifCond .ne 7, 3) := by decide +kernel
theorem dX7_group0_75 : decode cX7_group0 75 = .ok (.iconst 0, 1) := by decide +kernel
theorem dX7_group0_76 : decode cX7_group0 76 = .ok (.goto 22, 3) := by decide +kernel
theorem dX7_group0_79 : decode cX7_group0 79 = .ok (.iload_n 2, 1) := by decide +kernel
theorem dX7_group0_80 : decode cX7_group0 80 = .ok (.iconst 1, 1) := by decide +kernel
theorem dX7_group0_81 : decode cX7_group0 81 = .ok (.if_icmp .ne 7, 3) := by decide +kernel
theorem dX7_group0_84 : decode cX7_group0 84 = .ok (.iconst 1, 1) := by decide +kernel
theorem dX7_group0_85 : decode cX7_group0 85 = .ok (.goto 13, 3) := by decide +kernel
theorem dX7_group0_88 : decode cX7_group0 88 = .ok (.iload_n 2, 1) := by decide +kernel
theorem dX7_group0_89 : decode cX7_group0 89 = .ok (.iconst 5, 1) := by decide +kernel
theorem dX7_group0_90 : decode cX7_group0 90 = .ok (.if_icmp .ne 7, 3) := by decide +kernel
theorem dX7_group0_93 : decode cX7_group0 93 = .ok (.iconst 2, 1) := by decide +kernel
theorem dX7_group0_94 : decode cX7_group0 94 = .ok (.goto 4, 3) := by decide +kernel
theorem dX7_group0_97 : decode cX7_group0 97 = .ok (.iconst 3, 1) := by decide +kernel
theorem dX7_group0_98 : decode cX7_group0 98 = .ok (.istore_n 3, 1) := by decide +kernel
theorem dX7_group0_99 : decode cX7_group0 99 = .ok (.aload_n 0, 1) := by decide +kernel
theorem dX7_group0_100 : decode cX7_group0 100 = .ok (.getfield 174, 3) := by decide +kernel
theorem dX7_group0_103 : decode cX7_group0 103 = .ok (.bipush 63, 2) := by decide +kernel
theorem dX7_group0_105 : decode cX7_group0 105 = .ok (.iand, 1) := by decide +kernel
theorem dX7_group0_106 : decode cX7_group0 106 = .ok (.bipush 60, 2) := by decide +kernel
theorem dX7_group0_108 : decode cX7_group0 108 = .ok (.if_icmp .ne 19, 3) := by decide +kernel
theorem dX7_group0_111 : decode cX7_group0 111 = .ok (.iload_n 1, 1) := by decide +kernel
theorem dX7_group0_112 : decode cX7_group0 112 = .ok (.iconst 2, 1) := by decide +kernel
theorem dX7_group0_113 : decode cX7_group0 113 = .ok (.if_icmp .ge 14, 3) := by decide +kernel
theorem dX7_group0_116 : decode cX7_group0 116 = .ok (.iload_n 3, 1) := by decide +kernel
theorem dX7_group0_117 : decode cX7_group0 117 = .ok (.iconst 3, 1) := by decide +kernel
theorem dX7_group0_118 : decode cX7_group0 118 = .ok (.if_icmp .ge 9, 3) := by decide +kernel
theorem dX7_group0_121 : decode cX7_group0 121 = .ok (.aload_n 0, 1) := by decide +kernel
theorem dX7_group0_122 : decode cX7_group0 122 = .ok (.iload_n 3, 1) := by decide +kernel
theorem dX7_group0_123 : decode cX7_group0 123 = .ok (.invokevirtual 208, 3) := by decide +kernel
theorem dX7_group0_126 : decode cX7_group0 126 = .ok (.ireturn, 1) := by decide +kernel
theorem dX7_group0_127 : decode cX7_group0 127 = .ok (.iload_n 2, 1) := by decide +kernel
theorem dX7_group0_128 : decode cX7_group0 128 = .ok (.bipush 7, 2) := by decide +kernel
theorem dX7_group0_130 : decode cX7_group0 130 = .ok (.if_icmp .eq 23, 3) := by decide +kernel
theorem dX7_group0_133 : decode cX7_group0 133 = .ok (.iload_n 1, 1) := by decide +kernel
theorem dX7_group0_134 : decode cX7_group0 134 = .ok (.iconst 3, 1) := by decide +kernel
theorem dX7_group0_135 : decode cX7_group0 135 = .ok (.if_icmp .eq 18, 3) := by decide +kernel
theorem dX7_group0_138 : decode cX7_group0 138 = .ok (.aload_n 0, 1) := by decide +kernel
theorem dX7_group0_139 : decode cX7_group0 139 = .ok (.getfield 174, 3) := by decide +kernel
theorem dX7_group0_142 : decode cX7_group0 142 = .ok (.bipush 63, 2) := by decide +kernel
theorem dX7_group0_144 : decode cX7_group0 144 = .ok (.iand, 1) := by decide +kernel
theorem dX7_group0_145 : decode cX7_group0 145 = .ok (.iconst 4, 1) := by decide +kernel
theorem dX7_group0_146 : decode cX7_group0 146 = .ok (.iconst 1, 1) := by decide +kernel
theorem dX7_group0_147 : decode cX7_group0 147 = .ok (.invokestatic 188, 3) := by decide +kernel
theorem dX7_group0_150 : decode cX7_group0 150 = .ok (.ifCond .ne 5, 3) := by decide +kernel
theorem dX7_group0_153 : decode cX7_group0 153 = .ok (.iconst 0, 1) := by decide +kernel
theorem dX7_group0_154 : decode cX7_group0 154 = .ok (.ireturn, 1) := by decide +kernel
theorem dX7_group0_155 : decode cX7_group0 155 = .ok (.iload_n 1, 1) := by decide +kernel
theorem dX7_group0_156 : decode cX7_group0 156 = .ok (.invokestatic 211, 3) := by decide +kernel
theorem dX7_group0_159 : decode cX7_group0 159 = .ok (.istore 4, 2) := by decide +kernel
theorem dX7_group0_161 : decode cX7_group0 161 = .ok (.aload_n 0, 1) := by decide +kernel
theorem dX7_group0_162 : decode cX7_group0 162 = .ok (.iload 4, 2) := by decide +kernel
theorem dX7_group0_164 : decode cX7_group0 164 = .ok (.invokevirtual 141, 3) := by decide +kernel
theorem dX7_group0_167 : decode cX7_group0 167 = .ok (.istore 5, 2) := by decide +kernel
theorem dX7_group0_169 : decode cX7_group0 169 = .ok (.aload_n 0, 1) := by decide +kernel
theorem dX7_group0_170 : decode cX7_group0 170 = .ok (.aload_n 0, 1) := by decide +kernel
theorem dX7_group0_171 : decode cX7_group0 171 = .ok (.getfield 174, 3) := by decide +kernel
theorem dX7_group0_174 : decode cX7_group0 174 = .ok (.bipush 63, 2) := by decide +kernel
theorem dX7_group0_176 : decode cX7_group0 176 = .ok (.iand, 1) := by decide +kernel
theorem dX7_group0_177 : decode cX7_group0 177 = .ok (.iload 4, 2) := by decide +kernel
theorem dX7_group0_179 : decode cX7_group0 179 = .ok (.invokevirtual 192, 3) := by decide +kernel
theorem dX7_group0_182 : decode cX7_group0 182 = .ok (.aload_n 0, 1) := by decide +kernel
theorem dX7_group0_183 : decode cX7_group0 183 = .ok (.iload 4, 2) := by decide +kernel
theorem dX7_group0_185 : decode cX7_group0 185 = .ok (.invokevirtual 195, 3) := by decide +kernel
theorem dX7_group0_188 : decode cX7_group0 188 = .ok (.istore 6, 2) := by decide +kernel
theorem dX7_group0_190 : decode cX7_group0 190 = .ok (.iload_n 3, 1) := by decide +kernel
theorem dX7_group0_191 : decode cX7_group0 191 = .ok (.iconst 3, 1) := by decide +kernel
theorem dX7_group0_192 : decode cX7_group0 192 = .ok (.if_icmp .ge 32, 3) := by decide +kernel
theorem dX7_group0_195 : decode cX7_group0 195 = .ok (.iload_n 3, 1) := by decide +kernel
theorem dX7_group0_196 : decode cX7_group0 196 = .ok (.iload 6, 2) := by decide +kernel
theorem dX7_group0_198 : decode cX7_group0 198 = .ok (.iload 5, 2) := by decide +kernel
theorem dX7_group0_200 : decode cX7_group0 200 = .ok (.invokestatic 181, 3) := by decide +kernel
theorem dX7_group0_203 : decode cX7_group0 203 = .ok (.istore 7, 2) := by decide +kernel
theorem dX7_group0_205 : decode cX7_group0 205 = .ok (.aload_n 0, 1) := by decide +kernel
theorem dX7_group0_206 : decode cX7_group0 206 = .ok (.iload 7, 2) := by decide +kernel
theorem dX7_group0_208 : decode cX7_group0 208 = .ok (.iload 4, 2) := by decide +kernel
theorem dX7_group0_210 : decode cX7_group0 210 = .ok (.invokevirtual 214, 3) := by decide +kernel
theorem dX7_group0_213 : decode cX7_group0 213 = .ok (.aload_n 0, 1) := by decide +kernel
theorem dX7_group0_214 : decode cX7_group0 214 = .ok (.iload 7, 2) := by decide +kernel
theorem dX7_group0_216 : decode cX7_group0 216 = .ok (.iload 4, 2) := by decide +kernel
theorem dX7_group0_218 : decode cX7_group0 218 = .ok (.invokevirtual 198, 3) := by decide +kernel
theorem dX7_group0_221 : decode cX7_group0 221 = .ok (.goto 51, 3) := by decide +kernel
theorem dX7_group0_224 : decode cX7_group0 224 = .ok (.iload_n 2, 1) := by decide +kernel
theorem dX7_group0_225 : decode cX7_group0 225 = .ok (.bipush 6, 2) := by decide +kernel
theorem dX7_group0_227 : decode cX7_group0 227 = .ok (.if_icmp .ne 16, 3) := by decide +kernel
theorem dX7_group0_230 : decode cX7_group0 230 = .ok (.aload_n 0, 1) := by decide +kernel
theorem dX7_group0_231 : decode cX7_group0 231 = .ok (.iload 6, 2) := by decide +kernel
theorem dX7_group0_233 : decode cX7_group0 233 = .ok (.iload 5, 2) := by decide +kernel
theorem dX7_group0_235 : decode cX7_group0 235 = .ok (.iload 4, 2) := by decide +kernel
theorem dX7_group0_237 : decode cX7_group0 237 = .ok (.invokevirtual 217, 3) := by decide +kernel
theorem dX7_group0_240 : decode cX7_group0 240 = .ok (.goto 32, 3) := by decide +kernel
theorem dX7_group0_243 : decode cX7_group0 243 = .ok (.aload_n 0, 1) := by decide +kernel
theorem dX7_group0_244 : decode cX7_group0 244 = .ok (.aload_n 0, 1) := by decide +kernel
theorem dX7_group0_245 : decode cX7_group0 245 = .ok (.iload 6, 2) := by decide +kernel
theorem dX7_group0_247 : decode cX7_group0 247 = .ok (.iload 5, 2) := by decide +kernel
theorem dX7_group0_249 : decode cX7_group0 249 = .ok (.iconst 0, 1) := by decide +kernel
theorem dX7_group0_250 : decode cX7_group0 250 = .ok (.iload_n 2, 1) := by decide +kernel
theorem dX7_group0_251 : decode cX7_group0 251 = .ok (.iconst 2, 1) := by decide +kernel
theorem dX7_group0_252 : decode cX7_group0 252 = .ok (.if_icmp .ne 7, 3) := by decide +kernel
theorem dX7_group0_255 : decode cX7_group0 255 = .ok (.iconst 1, 1) := by decide +kernel
theorem dX7_group0_256 : decode cX7_group0 256 = .ok (.goto 4, 3) := by decide +kernel
theorem dX7_group0_259 : decode cX7_group0 259 = .ok (.iconst 0, 1) := by decide +kernel
theorem dX7_group0_260 : decode cX7_group0 260 = .ok (.iload 4, 2) := by decide +kernel
theorem dX7_group0_262 : decode cX7_group0 262 = .ok (.iconst 1, 1) := by decide +kernel
theorem dX7_group0_263 : decode cX7_group0 263 = .ok (.iconst 0, 1) := by decide +kernel
theorem dX7_group0_264 : decode cX7_group0 264 = .ok (.invokevirtual 167, 3) := by decide +kernel
theorem dX7_group0_267 : decode cX7_group0 267 = .ok (.iload 4, 2) := by decide +kernel
theorem dX7_group0_269 : decode cX7_group0 269 = .ok (.invokevirtual 198, 3) := by decide +kernel
theorem dX7_group0_272 : decode cX7_group0 272 = .ok (.iconst 1, 1) := by decide +kernel
theorem dX7_group0_273 : decode cX7_group0 273 = .ok (.ireturn, 1) := by decide +kernel
theorem dX7_move_0 : decode cX7_move 0 = .ok (.aload_n 0, 1) := by decide +kernel
theorem dX7_move_1 : decode cX7_move 1 = .ok (.getfield 174, 3) := by decide +kernel
theorem dX7_move_4 : decode cX7_move 4 = .ok (.bipush 12, 2) := by decide +kernel
theorem dX7_move_6 : decode cX7_move 6 = .ok (.ishr, 1) := by decide +kernel
theorem dX7_move_7 : decode cX7_move 7 = .ok (.istore_n 1, 1) := by decide +kernel
theorem dX7_move_8 : decode cX7_move 8 = .ok (.iload_n 1, 1) := by decide +kernel
theorem dX7_move_9 : decode cX7_move 9 = .ok (.iconst 1, 1) := by decide +kernel
theorem dX7_move_10 : decode cX7_move 10 = .ok (.if_icmp .ne 7, 3) := by decide +kernel
theorem dX7_move_13 : decode cX7_move 13 = .ok (.iconst 1, 1) := by decide +kernel
theorem dX7_move_14 : decode cX7_move 14 = .ok (.goto 13, 3) := by decide +kernel
theorem dX7_move_17 : decode cX7_move 17 = .ok (.iload_n 1, 1) := by decide +kernel
theorem dX7_move_18 : decode cX7_move 18 = .ok (.iconst 3, 1) := by decide +kernel
theorem dX7_move_19 : decode cX7_move 19 = .ok (.if_icmp .ne 7, 3) := by decide +kernel
theorem dX7_move_22 : decode cX7_move 22 = .ok (.iconst 2, 1) := by decide +kernel
theorem dX7_move_23 : decode cX7_move 23 = .ok (.goto 4, 3) := by decide +kernel
theorem dX7_move_26 : decode cX7_move 26 = .ok (.iconst 4, 1) := by decide +kernel
theorem dX7_move_27 : decode cX7_move 27 = .ok (.istore_n 2, 1) := by decide +kernel
theorem dX7_move_28 : decode cX7_move 28 = .ok (.aload_n 0, 1) := by decide +kernel
theorem dX7_move_29 : decode cX7_move 29 = .ok (.getfield 174, 3) := by decide +kernel
theorem dX7_move_32 : decode cX7_move 32 = .ok (.bipush 6, 2) := by decide +kernel
theorem dX7_move_34 : decode cX7_move 34 = .ok (.ishr, 1) := by decide +kernel
theorem dX7_move_35 : decode cX7_move 35 = .ok (.bipush 7, 2) := by decide +kernel
theorem dX7_move_37 : decode cX7_move 37 = .ok (.iand, 1) := by decide +kernel
theorem dX7_move_38 : decode cX7_move 38 = .ok (.istore_n 3, 1) := by decide +kernel
theorem dX7_move_39 : decode cX7_move 39 = .ok (.aload_n 0, 1) := by decide +kernel
theorem dX7_move_40 : decode cX7_move 40 = .ok (.getfield 174, 3) := by decide +kernel
theorem dX7_move_43 : decode cX7_move 43 = .ok (.bipush 9, 2) := by decide +kernel
theorem dX7_move_45 : decode cX7_move 45 = .ok (.ishr, 1) := by decide +kernel
theorem dX7_move_46 : decode cX7_move 46 = .ok (.bipush 7, 2) := by decide +kernel
theorem dX7_move_48 : decode cX7_move 48 = .ok (.iand, 1) := by decide +kernel
theorem dX7_move_49 : decode cX7_move 49 = .ok (.istore 4, 2) := by decide +kernel
theorem dX7_move_51 : decode cX7_move 51 = .ok (.iload_n 3, 1) := by decide +kernel
theorem dX7_move_52 : decode cX7_move 52 = .ok (.iconst 3, 1) := by decide +kernel
theorem dX7_move_53 : decode cX7_move 53 = .ok (.ishl, 1) := by decide +kernel
theorem dX7_move_54 : decode cX7_move 54 = .ok (.iload 4, 2) := by decide +kernel
theorem dX7_move_56 : decode cX7_move 56 = .ok (.ior, 1) := by decide +kernel
theorem dX7_move_57 : decode cX7_move 57 = .ok (.istore 5, 2) := by decide +kernel
theorem dX7_move_59 : decode cX7_move 59 = .ok (.aload_n 0, 1) := by decide +kernel
theorem dX7_move_60 : decode cX7_move 60 = .ok (.getfield 174, 3) := by decide +kernel
theorem dX7_move_63 : decode cX7_move 63 = .ok (.bipush 63, 2) := by decide +kernel
theorem dX7_move_65 : decode cX7_move 65 = .ok (.iand, 1) := by decide +kernel
theorem dX7_move_66 : decode cX7_move 66 = .ok (.iconst 0, 1) := by decide +kernel
theorem dX7_move_67 : decode cX7_move 67 = .ok (.iload_n 2, 1) := by decide +kernel
theorem dX7_move_68 : decode cX7_move 68 = .ok (.invokestatic 188, 3) := by decide +kernel
theorem dX7_move_71 : decode cX7_move 71 = .ok (.ifCond .eq 28, 3) := by decide +kernel
theorem dX7_move_74 : decode cX7_move 74 = .ok (.iload_n 3, 1) := by decide +kernel
theorem dX7_move_75 : decode cX7_move 75 = .ok (.iconst 1, 1) := by decide +kernel
theorem dX7_move_76 : decode cX7_move 76 = .ok (.if_icmp .ne 8, 3) := by decide +kernel
theorem dX7_move_79 : decode cX7_move 79 = .ok (.iload_n 2, 1) := by decide +kernel
theorem dX7_move_80 : decode cX7_move 80 = .ok (.iconst 1, 1) := by decide +kernel
theorem dX7_move_81 : decode cX7_move 81 = .ok (.if_icmp .eq 18, 3) := by decide +kernel
theorem dX7_move_84 : decode cX7_move 84 = .ok (.iload_n 3, 1) := by decide +kernel
theorem dX7_move_85 : decode cX7_move 85 = .ok (.iconst 1, 1) := by decide +kernel
theorem dX7_move_86 : decode cX7_move 86 = .ok (.if_icmp .eq 15, 3) := by decide +kernel
theorem dX7_move_89 : decode cX7_move 89 = .ok (.iload 5, 2) := by decide +kernel
theorem dX7_move_91 : decode cX7_move 91 = .ok (.iconst 4, 1) := by decide +kernel
theorem dX7_move_92 : decode cX7_move 92 = .ok (.iload_n 2, 1) := by decide +kernel
theorem dX7_move_93 : decode cX7_move 93 = .ok (.invokestatic 188, 3) := by decide +kernel
theorem dX7_move_96 : decode cX7_move 96 = .ok (.ifCond .ne 5, 3) := by decide +kernel
theorem dX7_move_99 : decode cX7_move 99 = .ok (.iconst 0, 1) := by decide +kernel
theorem dX7_move_100 : decode cX7_move 100 = .ok (.ireturn, 1) := by decide +kernel
theorem dX7_move_101 : decode cX7_move 101 = .ok (.aload_n 0, 1) := by decide +kernel
theorem dX7_move_102 : decode cX7_move 102 = .ok (.aload_n 0, 1) := by decide +kernel
theorem dX7_move_103 : decode cX7_move 103 = .ok (.getfield 174, 3) := by decide +kernel
theorem dX7_move_106 : decode cX7_move 106 = .ok (.bipush 63, 2) := by decide +kernel
theorem dX7_move_108 : decode cX7_move 108 = .ok (.iand, 1) := by decide +kernel
theorem dX7_move_109 : decode cX7_move 109 = .ok (.iload_n 2, 1) := by decide +kernel
theorem dX7_move_110 : decode cX7_move 110 = .ok (.invokevirtual 192, 3) := by decide +kernel
theorem dX7_move_113 : decode cX7_move 113 = .ok (.aload_n 0, 1) := by decide +kernel
theorem dX7_move_114 : decode cX7_move 114 = .ok (.iload_n 2, 1) := by decide +kernel
theorem dX7_move_115 : decode cX7_move 115 = .ok (.invokevirtual 195, 3) := by decide +kernel
theorem dX7_move_118 : decode cX7_move 118 = .ok (.istore 6, 2) := by decide +kernel
theorem dX7_move_120 : decode cX7_move 120 = .ok (.iload_n 3, 1) := by decide +kernel
theorem dX7_move_121 : decode cX7_move 121 = .ok (.iconst 1, 1) := by decide +kernel
theorem dX7_move_122 : decode cX7_move 122 = .ok (.if_icmp .ne 17, 3) := by decide +kernel
theorem dX7_move_125 : decode cX7_move 125 = .ok (.aload_n 0, 1) := by decide +kernel
theorem dX7_move_126 : decode cX7_move 126 = .ok (.iload 4, 2) := by decide +kernel
theorem dX7_move_128 : decode cX7_move 128 = .ok (.iload 6, 2) := by decide +kernel
theorem dX7_move_130 : decode cX7_move 130 = .ok (.iload_n 2, 1) := by decide +kernel
theorem dX7_move_131 : decode cX7_move 131 = .ok (.invokestatic 157, 3) := by decide +kernel
theorem dX7_move_134 : decode cX7_move 134 = .ok (.invokevirtual 74, 3) := by decide +kernel
theorem dX7_move_137 : decode cX7_move 137 = .ok (.iconst 1, 1) := by decide +kernel
theorem dX7_move_138 : decode cX7_move 138 = .ok (.ireturn, 1) := by decide +kernel
theorem dX7_move_139 : decode cX7_move 139 = .ok (.aload_n 0, 1) := by decide +kernel
theorem dX7_move_140 : decode cX7_move 140 = .ok (.iload 5, 2) := by decide +kernel
theorem dX7_move_142 : decode cX7_move 142 = .ok (.iload_n 2, 1) := by decide +kernel
theorem dX7_move_143 : decode cX7_move 143 = .ok (.invokevirtual 192, 3) := by decide +kernel
theorem dX7_move_146 : decode cX7_move 146 = .ok (.aload_n 0, 1) := by decide +kernel
theorem dX7_move_147 : decode cX7_move 147 = .ok (.iload 6, 2) := by decide +kernel
theorem dX7_move_149 : decode cX7_move 149 = .ok (.iload_n 2, 1) := by decide +kernel
theorem dX7_move_150 : decode cX7_move 150 = .ok (.invokevirtual 214, 3) := by decide +kernel
theorem dX7_move_153 : decode cX7_move 153 = .ok (.aload_n 0, 1) := by decide +kernel
theorem dX7_move_154 : decode cX7_move 154 = .ok (.iload 6, 2) := by decide +kernel
theorem dX7_move_156 : decode cX7_move 156 = .ok (.iload_n 2, 1) := by decide +kernel
theorem dX7_move_157 : decode cX7_move 157 = .ok (.invokevirtual 198, 3) := by decide +kernel
theorem dX7_move_160 : decode cX7_move 160 = .ok (.iconst 1, 1) := by decide +kernel
theorem dX7_move_161 : decode cX7_move 161 = .ok (.ireturn, 1) := by decide +kernel
theorem dX7_unary_0 : decode cX7_unary 0 = .ok (.aload_n 0, 1) := by decide +kernel
theorem dX7_unary_1 : decode cX7_unary 1 = .ok (.getfield 174, 3) := by decide +kernel
theorem dX7_unary_4 : decode cX7_unary 4 = .ok (.bipush 6, 2) := by decide +kernel
theorem dX7_unary_6 : decode cX7_unary 6 = .ok (.ishr, 1) := by decide +kernel
theorem dX7_unary_7 : decode cX7_unary 7 = .ok (.iconst 3, 1) := by decide +kernel
theorem dX7_unary_8 : decode cX7_unary 8 = .ok (.iand, 1) := by decide +kernel
theorem dX7_unary_9 : decode cX7_unary 9 = .ok (.invokestatic 211, 3) := by decide +kernel
theorem dX7_unary_12 : decode cX7_unary 12 = .ok (.istore_n 2, 1) := by decide +kernel
theorem dX7_unary_13 : decode cX7_unary 13 = .ok (.aload_n 0, 1) := by decide +kernel
theorem dX7_unary_14 : decode cX7_unary 14 = .ok (.getfield 174, 3) := by decide +kernel
theorem dX7_unary_17 : decode cX7_unary 17 = .ok (.bipush 63, 2) := by decide +kernel
theorem dX7_unary_19 : decode cX7_unary 19 = .ok (.iand, 1) := by decide +kernel
theorem dX7_unary_20 : decode cX7_unary 20 = .ok (.iconst 4, 1) := by decide +kernel
theorem dX7_unary_21 : decode cX7_unary 21 = .ok (.iload_n 2, 1) := by decide +kernel
theorem dX7_unary_22 : decode cX7_unary 22 = .ok (.invokestatic 188, 3) := by decide +kernel
theorem dX7_unary_25 : decode cX7_unary 25 = .ok (.ifCond .ne 5, 3) := by decide +kernel
theorem dX7_unary_28 : decode cX7_unary 28 = .ok (.iconst 0, 1) := by decide +kernel
theorem dX7_unary_29 : decode cX7_unary 29 = .ok (.ireturn, 1) := by decide +kernel
theorem dX7_unary_30 : decode cX7_unary 30 = .ok (.aload_n 0, 1) := by decide +kernel
theorem dX7_unary_31 : decode cX7_unary 31 = .ok (.aload_n 0, 1) := by decide +kernel
theorem dX7_unary_32 : decode cX7_unary 32 = .ok (.getfield 174, 3) := by decide +kernel
theorem dX7_unary_35 : decode cX7_unary 35 = .ok (.bipush 63, 2) := by decide +kernel
theorem dX7_unary_37 : decode cX7_unary 37 = .ok (.iand, 1) := by decide +kernel
theorem dX7_unary_38 : decode cX7_unary 38 = .ok (.iload_n 2, 1) := by decide +kernel
theorem dX7_unary_39 : decode cX7_unary 39 = .ok (.invokevirtual 192, 3) := by decide +kernel
theorem dX7_unary_42 : decode cX7_unary 42 = .ok (.aload_n 0, 1) := by decide +kernel
theorem dX7_unary_43 : decode cX7_unary 43 = .ok (.iload_n 2, 1) := by decide +kernel
theorem dX7_unary_44 : decode cX7_unary 44 = .ok (.invokevirtual 195, 3) := by decide +kernel
theorem dX7_unary_47 : decode cX7_unary 47 = .ok (.istore_n 3, 1) := by decide +kernel
theorem dX7_unary_48 : decode cX7_unary 48 = .ok (.iload_n 1, 1) := by decide +kernel
theorem dX7_unary_49 : decode cX7_unary 49 = .ok (.ifCond .ne 25, 3) := by decide +kernel
theorem dX7_unary_52 : decode cX7_unary 52 = .ok (.aload_n 0, 1) := by decide +kernel
theorem dX7_unary_53 : decode cX7_unary 53 = .ok (.aload_n 0, 1) := by decide +kernel
theorem dX7_unary_54 : decode cX7_unary 54 = .ok (.iconst 0, 1) := by decide +kernel
theorem dX7_unary_55 : decode cX7_unary 55 = .ok (.iload_n 3, 1) := by decide +kernel
theorem dX7_unary_56 : decode cX7_unary 56 = .ok (.aload_n 0, 1) := by decide +kernel
theorem dX7_unary_57 : decode cX7_unary 57 = .ok (.invokevirtual 171, 3) := by decide +kernel
theorem dX7_unary_60 : decode cX7_unary 60 = .ok (.iconst 1, 1) := by decide +kernel
theorem dX7_unary_61 : decode cX7_unary 61 = .ok (.iload_n 2, 1) := by decide +kernel
theorem dX7_unary_62 : decode cX7_unary 62 = .ok (.iconst 1, 1) := by decide +kernel
theorem dX7_unary_63 : decode cX7_unary 63 = .ok (.iconst 1, 1) := by decide +kernel
theorem dX7_unary_64 : decode cX7_unary 64 = .ok (.invokevirtual 167, 3) := by decide +kernel
theorem dX7_unary_67 : decode cX7_unary 67 = .ok (.iload_n 2, 1) := by decide +kernel
theorem dX7_unary_68 : decode cX7_unary 68 = .ok (.invokevirtual 198, 3) := by decide +kernel
theorem dX7_unary_71 : decode cX7_unary 71 = .ok (.goto 78, 3) := by decide +kernel
theorem dX7_unary_74 : decode cX7_unary 74 = .ok (.iload_n 1, 1) := by decide +kernel
theorem dX7_unary_75 : decode cX7_unary 75 = .ok (.iconst 2, 1) := by decide +kernel
theorem dX7_unary_76 : decode cX7_unary 76 = .ok (.if_icmp .ne 18, 3) := by decide +kernel
theorem dX7_unary_79 : decode cX7_unary 79 = .ok (.aload_n 0, 1) := by decide +kernel
theorem dX7_unary_80 : decode cX7_unary 80 = .ok (.iconst 0, 1) := by decide +kernel
theorem dX7_unary_81 : decode cX7_unary 81 = .ok (.iload_n 2, 1) := by decide +kernel
theorem dX7_unary_82 : decode cX7_unary 82 = .ok (.invokevirtual 214, 3) := by decide +kernel
theorem dX7_unary_85 : decode cX7_unary 85 = .ok (.aload_n 0, 1) := by decide +kernel
theorem dX7_unary_86 : decode cX7_unary 86 = .ok (.iconst 0, 1) := by decide +kernel
theorem dX7_unary_87 : decode cX7_unary 87 = .ok (.iload_n 2, 1) := by decide +kernel
theorem dX7_unary_88 : decode cX7_unary 88 = .ok (.invokevirtual 198, 3) := by decide +kernel
theorem dX7_unary_91 : decode cX7_unary 91 = .ok (.goto 58, 3) := by decide +kernel
theorem dX7_unary_94 : decode cX7_unary 94 = .ok (.iload_n 1, 1) := by decide +kernel
theorem dX7_unary_95 : decode cX7_unary 95 = .ok (.iconst 4, 1) := by decide +kernel
theorem dX7_unary_96 : decode cX7_unary 96 = .ok (.if_icmp .ne 22, 3) := by decide +kernel
theorem dX7_unary_99 : decode cX7_unary 99 = .ok (.aload_n 0, 1) := by decide +kernel
theorem dX7_unary_100 : decode cX7_unary 100 = .ok (.aload_n 0, 1) := by decide +kernel
theorem dX7_unary_101 : decode cX7_unary 101 = .ok (.iconst 0, 1) := by decide +kernel
theorem dX7_unary_102 : decode cX7_unary 102 = .ok (.iload_n 3, 1) := by decide +kernel
theorem dX7_unary_103 : decode cX7_unary 103 = .ok (.iconst 0, 1) := by decide +kernel
theorem dX7_unary_104 : decode cX7_unary 104 = .ok (.iconst 1, 1) := by decide +kernel
theorem dX7_unary_105 : decode cX7_unary 105 = .ok (.iload_n 2, 1) := by decide +kernel
theorem dX7_unary_106 : decode cX7_unary 106 = .ok (.iconst 1, 1) := by decide +kernel
theorem dX7_unary_107 : decode cX7_unary 107 = .ok (.iconst 0, 1) := by decide +kernel
theorem dX7_unary_108 : decode cX7_unary 108 = .ok (.invokevirtual 167, 3) := by decide +kernel
theorem dX7_unary_111 : decode cX7_unary 111 = .ok (.iload_n 2, 1) := by decide +kernel
theorem dX7_unary_112 : decode cX7_unary 112 = .ok (.invokevirtual 198, 3) := by decide +kernel
theorem dX7_unary_115 : decode cX7_unary 115 = .ok (.goto 34, 3) := by decide +kernel
theorem dX7_unary_118 : decode cX7_unary 118 = .ok (.iload_n 1, 1) := by decide +kernel
theorem dX7_unary_119 : decode cX7_unary 119 = .ok (.bipush 6, 2) := by decide +kernel
theorem dX7_unary_121 : decode cX7_unary 121 = .ok (.if_icmp .ne 22, 3) := by decide +kernel
theorem dX7_unary_124 : decode cX7_unary 124 = .ok (.aload_n 0, 1) := by decide +kernel
theorem dX7_unary_125 : decode cX7_unary 125 = .ok (.iload_n 3, 1) := by decide +kernel
theorem dX7_unary_126 : decode cX7_unary 126 = .ok (.iconst (-1), 1) := by decide +kernel
theorem dX7_unary_127 : decode cX7_unary 127 = .ok (.ixor, 1) := by decide +kernel
theorem dX7_unary_128 : decode cX7_unary 128 = .ok (.iload_n 2, 1) := by decide +kernel
theorem dX7_unary_129 : decode cX7_unary 129 = .ok (.invokevirtual 214, 3) := by decide +kernel
theorem dX7_unary_132 : decode cX7_unary 132 = .ok (.aload_n 0, 1) := by decide +kernel
theorem dX7_unary_133 : decode cX7_unary 133 = .ok (.iload_n 3, 1) := by decide +kernel
theorem dX7_unary_134 : decode cX7_unary 134 = .ok (.iconst (-1), 1) := by decide +kernel
theorem dX7_unary_135 : decode cX7_unary 135 = .ok (.ixor, 1) := by decide +kernel
theorem dX7_unary_136 : decode cX7_unary 136 = .ok (.iload_n 2, 1) := by decide +kernel
theorem dX7_unary_137 : decode cX7_unary 137 = .ok (.invokevirtual 198, 3) := by decide +kernel
theorem dX7_unary_140 : decode cX7_unary 140 = .ok (.goto 9, 3) := by decide +kernel
theorem dX7_unary_143 : decode cX7_unary 143 = .ok (.aload_n 0, 1) := by decide +kernel
theorem dX7_unary_144 : decode cX7_unary 144 = .ok (.iload_n 3, 1) := by decide +kernel
theorem dX7_unary_145 : decode cX7_unary 145 = .ok (.iload_n 2, 1) := by decide +kernel
theorem dX7_unary_146 : decode cX7_unary 146 = .ok (.invokevirtual 214, 3) := by decide +kernel
theorem dX7_unary_149 : decode cX7_unary 149 = .ok (.iconst 1, 1) := by decide +kernel
theorem dX7_unary_150 : decode cX7_unary 150 = .ok (.ireturn, 1) := by decide +kernel
theorem dX7_statusMove_0 : decode cX7_statusMove 0 = .ok (.aload_n 0, 1) := by decide +kernel
theorem dX7_statusMove_1 : decode cX7_statusMove 1 = .ok (.getfield 174, 3) := by decide +kernel
theorem dX7_statusMove_4 : decode cX7_statusMove 4 = .ok (.bipush 63, 2) := by decide +kernel
theorem dX7_statusMove_6 : decode cX7_statusMove 6 = .ok (.iand, 1) := by decide +kernel
theorem dX7_statusMove_7 : decode cX7_statusMove 7 = .ok (.istore_n 2, 1) := by decide +kernel
theorem dX7_statusMove_8 : decode cX7_statusMove 8 = .ok (.iload_n 2, 1) := by decide +kernel
theorem dX7_statusMove_9 : decode cX7_statusMove 9 = .ok (.iload_n 1, 1) := by decide +kernel
theorem dX7_statusMove_10 : decode cX7_statusMove 10 = .ok (.ifCond .ne 7, 3) := by decide +kernel
theorem dX7_statusMove_13 : decode cX7_statusMove 13 = .ok (.iconst 4, 1) := by decide +kernel
theorem dX7_statusMove_14 : decode cX7_statusMove 14 = .ok (.goto 4, 3) := by decide +kernel
theorem dX7_statusMove_17 : decode cX7_statusMove 17 = .ok (.iconst 1, 1) := by decide +kernel
theorem dX7_statusMove_18 : decode cX7_statusMove 18 = .ok (.iconst 2, 1) := by decide +kernel
theorem dX7_statusMove_19 : decode cX7_statusMove 19 = .ok (.invokestatic 188, 3) := by decide +kernel
theorem dX7_statusMove_22 : decode cX7_statusMove 22 = .ok (.ifCond .eq 8, 3) := by decide +kernel
theorem dX7_statusMove_25 : decode cX7_statusMove 25 = .ok (.iload_n 1, 1) := by decide +kernel
theorem dX7_statusMove_26 : decode cX7_statusMove 26 = .ok (.iconst 2, 1) := by decide +kernel
theorem dX7_statusMove_27 : decode cX7_statusMove 27 = .ok (.if_icmp .ne 5, 3) := by decide +kernel
theorem dX7_statusMove_30 : decode cX7_statusMove 30 = .ok (.iconst 0, 1) := by decide +kernel
theorem dX7_statusMove_31 : decode cX7_statusMove 31 = .ok (.ireturn, 1) := by decide +kernel
theorem dX7_statusMove_32 : decode cX7_statusMove 32 = .ok (.iload_n 1, 1) := by decide +kernel
theorem dX7_statusMove_33 : decode cX7_statusMove 33 = .ok (.bipush 6, 2) := by decide +kernel
theorem dX7_statusMove_35 : decode cX7_statusMove 35 = .ok (.if_icmp .ne 12, 3) := by decide +kernel
theorem dX7_statusMove_38 : decode cX7_statusMove 38 = .ok (.aload_n 0, 1) := by decide +kernel
theorem dX7_statusMove_39 : decode cX7_statusMove 39 = .ok (.invokevirtual 177, 3) := by decide +kernel
theorem dX7_statusMove_42 : decode cX7_statusMove 42 = .ok (.ifCond .eq 5, 3) := by decide +kernel
theorem dX7_statusMove_45 : decode cX7_statusMove 45 = .ok (.iconst 1, 1) := by decide +kernel
theorem dX7_statusMove_46 : decode cX7_statusMove 46 = .ok (.ireturn, 1) := by decide +kernel
theorem dX7_statusMove_47 : decode cX7_statusMove 47 = .ok (.aload_n 0, 1) := by decide +kernel
theorem dX7_statusMove_48 : decode cX7_statusMove 48 = .ok (.iload_n 2, 1) := by decide +kernel
theorem dX7_statusMove_49 : decode cX7_statusMove 49 = .ok (.iconst 2, 1) := by decide +kernel
theorem dX7_statusMove_50 : decode cX7_statusMove 50 = .ok (.invokevirtual 192, 3) := by decide +kernel
theorem dX7_statusMove_53 : decode cX7_statusMove 53 = .ok (.iload_n 1, 1) := by decide +kernel
theorem dX7_statusMove_54 : decode cX7_statusMove 54 = .ok (.ifCond .ne 14, 3) := by decide +kernel
theorem dX7_statusMove_57 : decode cX7_statusMove 57 = .ok (.aload_n 0, 1) := by decide +kernel
theorem dX7_statusMove_58 : decode cX7_statusMove 58 = .ok (.aload_n 0, 1) := by decide +kernel
theorem dX7_statusMove_59 : decode cX7_statusMove 59 = .ok (.getfield 50, 3) := by decide +kernel
theorem dX7_statusMove_62 : decode cX7_statusMove 62 = .ok (.iconst 2, 1) := by decide +kernel
theorem dX7_statusMove_63 : decode cX7_statusMove 63 = .ok (.invokevirtual 198, 3) := by decide +kernel
theorem dX7_statusMove_66 : decode cX7_statusMove 66 = .ok (.iconst 1, 1) := by decide +kernel
theorem dX7_statusMove_67 : decode cX7_statusMove 67 = .ok (.ireturn, 1) := by decide +kernel
theorem dX7_statusMove_68 : decode cX7_statusMove 68 = .ok (.aload_n 0, 1) := by decide +kernel
theorem dX7_statusMove_69 : decode cX7_statusMove 69 = .ok (.iconst 2, 1) := by decide +kernel
theorem dX7_statusMove_70 : decode cX7_statusMove 70 = .ok (.invokevirtual 195, 3) := by decide +kernel
theorem dX7_statusMove_73 : decode cX7_statusMove 73 = .ok (.istore_n 3, 1) := by decide +kernel
theorem dX7_statusMove_74 : decode cX7_statusMove 74 = .ok (.aload_n 0, 1) := by decide +kernel
theorem dX7_statusMove_75 : decode cX7_statusMove 75 = .ok (.iload_n 1, 1) := by decide +kernel
theorem dX7_statusMove_76 : decode cX7_statusMove 76 = .ok (.iconst 4, 1) := by decide +kernel
theorem dX7_statusMove_77 : decode cX7_statusMove 77 = .ok (.if_icmp .ne 20, 3) := by decide +kernel
theorem dX7_statusMove_80 : decode cX7_statusMove 80 = .ok (.aload_n 0, 1) := by decide +kernel
theorem dX7_statusMove_81 : decode cX7_statusMove 81 = .ok (.getfield 50, 3) := by decide +kernel
theorem dX7_statusMove_84 : decode cX7_statusMove 84 = .ok (.sipush (-256), 3) := by decide +kernel
theorem dX7_statusMove_87 : decode cX7_statusMove 87 = .ok (.iand, 1) := by decide +kernel
theorem dX7_statusMove_88 : decode cX7_statusMove 88 = .ok (.iload_n 3, 1) := by decide +kernel
theorem dX7_statusMove_89 : decode cX7_statusMove 89 = .ok (.sipush 255, 3) := by decide +kernel
theorem dX7_statusMove_92 : decode cX7_statusMove 92 = .ok (.iand, 1) := by decide +kernel
theorem dX7_statusMove_93 : decode cX7_statusMove 93 = .ok (.ior, 1) := by decide +kernel
theorem dX7_statusMove_94 : decode cX7_statusMove 94 = .ok (.goto 4, 3) := by decide +kernel
theorem dX7_statusMove_97 : decode cX7_statusMove 97 = .ok (.iload_n 3, 1) := by decide +kernel
theorem dX7_statusMove_98 : decode cX7_statusMove 98 = .ok (.invokevirtual 184, 3) := by decide +kernel
theorem dX7_statusMove_101 : decode cX7_statusMove 101 = .ok (.iconst 1, 1) := by decide +kernel
theorem dX7_statusMove_102 : decode cX7_statusMove 102 = .ok (.ireturn, 1) := by decide +kernel
theorem dX7_toMemory_0 : decode cX7_toMemory 0 = .ok (.aload_n 0, 1) := by decide +kernel
theorem dX7_toMemory_1 : decode cX7_toMemory 1 = .ok (.getfield 174, 3) := by decide +kernel
theorem dX7_toMemory_4 : decode cX7_toMemory 4 = .ok (.iconst 3, 1) := by decide +kernel
theorem dX7_toMemory_5 : decode cX7_toMemory 5 = .ok (.ishr, 1) := by decide +kernel
theorem dX7_toMemory_6 : decode cX7_toMemory 6 = .ok (.bipush 7, 2) := by decide +kernel
theorem dX7_toMemory_8 : decode cX7_toMemory 8 = .ok (.iand, 1) := by decide +kernel
theorem dX7_toMemory_9 : decode cX7_toMemory 9 = .ok (.iconst 4, 1) := by decide +kernel
theorem dX7_toMemory_10 : decode cX7_toMemory 10 = .ok (.if_icmp .ne 7, 3) := by decide +kernel
theorem dX7_toMemory_13 : decode cX7_toMemory 13 = .ok (.iconst 1, 1) := by decide +kernel
theorem dX7_toMemory_14 : decode cX7_toMemory 14 = .ok (.goto 4, 3) := by decide +kernel
theorem dX7_toMemory_17 : decode cX7_toMemory 17 = .ok (.iconst 0, 1) := by decide +kernel
theorem dX7_toMemory_18 : decode cX7_toMemory 18 = .ok (.istore_n 3, 1) := by decide +kernel
theorem dX7_toMemory_19 : decode cX7_toMemory 19 = .ok (.aload_n 0, 1) := by decide +kernel
theorem dX7_toMemory_20 : decode cX7_toMemory 20 = .ok (.getfield 174, 3) := by decide +kernel
theorem dX7_toMemory_23 : decode cX7_toMemory 23 = .ok (.bipush 7, 2) := by decide +kernel
theorem dX7_toMemory_25 : decode cX7_toMemory 25 = .ok (.iand, 1) := by decide +kernel
theorem dX7_toMemory_26 : decode cX7_toMemory 26 = .ok (.istore 4, 2) := by decide +kernel
theorem dX7_toMemory_28 : decode cX7_toMemory 28 = .ok (.iload_n 3, 1) := by decide +kernel
theorem dX7_toMemory_29 : decode cX7_toMemory 29 = .ok (.ifCond .eq 12, 3) := by decide +kernel
theorem dX7_toMemory_32 : decode cX7_toMemory 32 = .ok (.aload_n 0, 1) := by decide +kernel
theorem dX7_toMemory_33 : decode cX7_toMemory 33 = .ok (.iload 4, 2) := by decide +kernel
theorem dX7_toMemory_35 : decode cX7_toMemory 35 = .ok (.invokevirtual 70, 3) := by decide +kernel
theorem dX7_toMemory_38 : decode cX7_toMemory 38 = .ok (.goto 7, 3) := by decide +kernel
theorem dX7_toMemory_41 : decode cX7_toMemory 41 = .ok (.aload_n 0, 1) := by decide +kernel
theorem dX7_toMemory_42 : decode cX7_toMemory 42 = .ok (.getfield 135, 3) := by decide +kernel
theorem dX7_toMemory_45 : decode cX7_toMemory 45 = .ok (.istore 5, 2) := by decide +kernel
theorem dX7_toMemory_47 : decode cX7_toMemory 47 = .ok (.iconst 0, 1) := by decide +kernel
theorem dX7_toMemory_48 : decode cX7_toMemory 48 = .ok (.istore 6, 2) := by decide +kernel
theorem dX7_toMemory_50 : decode cX7_toMemory 50 = .ok (.iload 6, 2) := by decide +kernel
theorem dX7_toMemory_52 : decode cX7_toMemory 52 = .ok (.bipush 16, 2) := by decide +kernel
theorem dX7_toMemory_54 : decode cX7_toMemory 54 = .ok (.if_icmp .ge 102, 3) := by decide +kernel
theorem dX7_toMemory_57 : decode cX7_toMemory 57 = .ok (.iload_n 2, 1) := by decide +kernel
theorem dX7_toMemory_58 : decode cX7_toMemory 58 = .ok (.iload 6, 2) := by decide +kernel
theorem dX7_toMemory_60 : decode cX7_toMemory 60 = .ok (.ishr, 1) := by decide +kernel
theorem dX7_toMemory_61 : decode cX7_toMemory 61 = .ok (.iconst 1, 1) := by decide +kernel
theorem dX7_toMemory_62 : decode cX7_toMemory 62 = .ok (.iand, 1) := by decide +kernel
theorem dX7_toMemory_63 : decode cX7_toMemory 63 = .ok (.iconst 1, 1) := by decide +kernel
theorem dX7_toMemory_64 : decode cX7_toMemory 64 = .ok (.if_icmp .ne 86, 3) := by decide +kernel
theorem dX7_toMemory_67 : decode cX7_toMemory 67 = .ok (.iload_n 3, 1) := by decide +kernel
theorem dX7_toMemory_68 : decode cX7_toMemory 68 = .ok (.ifCond .eq 11, 3) := by decide +kernel
theorem dX7_toMemory_71 : decode cX7_toMemory 71 = .ok (.bipush 15, 2) := by decide +kernel
theorem dX7_toMemory_73 : decode cX7_toMemory 73 = .ok (.iload 6, 2) := by decide +kernel
theorem dX7_toMemory_75 : decode cX7_toMemory 75 = .ok (.isub, 1) := by decide +kernel
theorem dX7_toMemory_76 : decode cX7_toMemory 76 = .ok (.goto 5, 3) := by decide +kernel
theorem dX7_toMemory_79 : decode cX7_toMemory 79 = .ok (.iload 6, 2) := by decide +kernel
theorem dX7_toMemory_81 : decode cX7_toMemory 81 = .ok (.istore 7, 2) := by decide +kernel
theorem dX7_toMemory_83 : decode cX7_toMemory 83 = .ok (.iload 7, 2) := by decide +kernel
theorem dX7_toMemory_85 : decode cX7_toMemory 85 = .ok (.bipush 8, 2) := by decide +kernel
theorem dX7_toMemory_87 : decode cX7_toMemory 87 = .ok (.if_icmp .ge 13, 3) := by decide +kernel
theorem dX7_toMemory_90 : decode cX7_toMemory 90 = .ok (.aload_n 0, 1) := by decide +kernel
theorem dX7_toMemory_91 : decode cX7_toMemory 91 = .ok (.getfield 13, 3) := by decide +kernel
theorem dX7_toMemory_94 : decode cX7_toMemory 94 = .ok (.iload 7, 2) := by decide +kernel
theorem dX7_toMemory_96 : decode cX7_toMemory 96 = .ok (.iaload, 1) := by decide +kernel
theorem dX7_toMemory_97 : decode cX7_toMemory 97 = .ok (.goto 12, 3) := by decide +kernel
theorem dX7_toMemory_100 : decode cX7_toMemory 100 = .ok (.aload_n 0, 1) := by decide +kernel
theorem dX7_toMemory_101 : decode cX7_toMemory 101 = .ok (.iload 7, 2) := by decide +kernel
theorem dX7_toMemory_103 : decode cX7_toMemory 103 = .ok (.bipush 8, 2) := by decide +kernel
theorem dX7_toMemory_105 : decode cX7_toMemory 105 = .ok (.isub, 1) := by decide +kernel
theorem dX7_toMemory_106 : decode cX7_toMemory 106 = .ok (.invokevirtual 70, 3) := by decide +kernel
theorem dX7_toMemory_109 : decode cX7_toMemory 109 = .ok (.istore 8, 2) := by decide +kernel
theorem dX7_toMemory_111 : decode cX7_toMemory 111 = .ok (.iload_n 3, 1) := by decide +kernel
theorem dX7_toMemory_112 : decode cX7_toMemory 112 = .ok (.ifCond .eq 10, 3) := by decide +kernel
theorem dX7_toMemory_115 : decode cX7_toMemory 115 = .ok (.iload 5, 2) := by decide +kernel
theorem dX7_toMemory_117 : decode cX7_toMemory 117 = .ok (.iload_n 1, 1) := by decide +kernel
theorem dX7_toMemory_118 : decode cX7_toMemory 118 = .ok (.isub, 1) := by decide +kernel
theorem dX7_toMemory_119 : decode cX7_toMemory 119 = .ok (.goto 5, 3) := by decide +kernel
theorem dX7_toMemory_122 : decode cX7_toMemory 122 = .ok (.iload 5, 2) := by decide +kernel
theorem dX7_toMemory_124 : decode cX7_toMemory 124 = .ok (.istore 5, 2) := by decide +kernel
theorem dX7_toMemory_126 : decode cX7_toMemory 126 = .ok (.aload_n 0, 1) := by decide +kernel
theorem dX7_toMemory_127 : decode cX7_toMemory 127 = .ok (.iload 5, 2) := by decide +kernel
theorem dX7_toMemory_129 : decode cX7_toMemory 129 = .ok (.iload 8, 2) := by decide +kernel
theorem dX7_toMemory_131 : decode cX7_toMemory 131 = .ok (.iload_n 1, 1) := by decide +kernel
theorem dX7_toMemory_132 : decode cX7_toMemory 132 = .ok (.invokevirtual 113, 3) := by decide +kernel
theorem dX7_toMemory_135 : decode cX7_toMemory 135 = .ok (.iload_n 3, 1) := by decide +kernel
theorem dX7_toMemory_136 : decode cX7_toMemory 136 = .ok (.ifCond .eq 8, 3) := by decide +kernel
theorem dX7_toMemory_139 : decode cX7_toMemory 139 = .ok (.iload 5, 2) := by decide +kernel
theorem dX7_toMemory_141 : decode cX7_toMemory 141 = .ok (.goto 7, 3) := by decide +kernel
theorem dX7_toMemory_144 : decode cX7_toMemory 144 = .ok (.iload 5, 2) := by decide +kernel
theorem dX7_toMemory_146 : decode cX7_toMemory 146 = .ok (.iload_n 1, 1) := by decide +kernel
theorem dX7_toMemory_147 : decode cX7_toMemory 147 = .ok (.iadd, 1) := by decide +kernel
theorem dX7_toMemory_148 : decode cX7_toMemory 148 = .ok (.istore 5, 2) := by decide +kernel
theorem dX7_toMemory_150 : decode cX7_toMemory 150 = .ok (.iinc 6 1, 3) := by decide +kernel
theorem dX7_toMemory_153 : decode cX7_toMemory 153 = .ok (.goto (-103), 3) := by decide +kernel
theorem dX7_toMemory_156 : decode cX7_toMemory 156 = .ok (.iload_n 3, 1) := by decide +kernel
theorem dX7_toMemory_157 : decode cX7_toMemory 157 = .ok (.ifCond .eq 18, 3) := by decide +kernel
theorem dX7_toMemory_160 : decode cX7_toMemory 160 = .ok (.aload_n 0, 1) := by decide +kernel
theorem dX7_toMemory_161 : decode cX7_toMemory 161 = .ok (.getfield 100, 3) := by decide +kernel
theorem dX7_toMemory_164 : decode cX7_toMemory 164 = .ok (.ifCond .ne 11, 3) := by decide +kernel
theorem dX7_toMemory_167 : decode cX7_toMemory 167 = .ok (.aload_n 0, 1) := by decide +kernel
theorem dX7_toMemory_168 : decode cX7_toMemory 168 = .ok (.iload 4, 2) := by decide +kernel
theorem dX7_toMemory_170 : decode cX7_toMemory 170 = .ok (.iload 5, 2) := by decide +kernel
theorem dX7_toMemory_172 : decode cX7_toMemory 172 = .ok (.invokevirtual 74, 3) := by decide +kernel
theorem dX7_toMemory_175 : decode cX7_toMemory 175 = .ok (.return_, 1) := by decide +kernel
theorem dX7_fromMemory_0 : decode cX7_fromMemory 0 = .ok (.aload_n 0, 1) := by decide +kernel
theorem dX7_fromMemory_1 : decode cX7_fromMemory 1 = .ok (.getfield 135, 3) := by decide +kernel
theorem dX7_fromMemory_4 : decode cX7_fromMemory 4 = .ok (.istore_n 3, 1) := by decide +kernel
theorem dX7_fromMemory_5 : decode cX7_fromMemory 5 = .ok (.iconst 0, 1) := by decide +kernel
theorem dX7_fromMemory_6 : decode cX7_fromMemory 6 = .ok (.istore 4, 2) := by decide +kernel
theorem dX7_fromMemory_8 : decode cX7_fromMemory 8 = .ok (.iload 4, 2) := by decide +kernel
theorem dX7_fromMemory_10 : decode cX7_fromMemory 10 = .ok (.bipush 16, 2) := by decide +kernel
theorem dX7_fromMemory_12 : decode cX7_fromMemory 12 = .ok (.if_icmp .ge 65, 3) := by decide +kernel
theorem dX7_fromMemory_15 : decode cX7_fromMemory 15 = .ok (.iload_n 2, 1) := by decide +kernel
theorem dX7_fromMemory_16 : decode cX7_fromMemory 16 = .ok (.iload 4, 2) := by decide +kernel
theorem dX7_fromMemory_18 : decode cX7_fromMemory 18 = .ok (.ishr, 1) := by decide +kernel
theorem dX7_fromMemory_19 : decode cX7_fromMemory 19 = .ok (.iconst 1, 1) := by decide +kernel
theorem dX7_fromMemory_20 : decode cX7_fromMemory 20 = .ok (.iand, 1) := by decide +kernel
theorem dX7_fromMemory_21 : decode cX7_fromMemory 21 = .ok (.iconst 1, 1) := by decide +kernel
theorem dX7_fromMemory_22 : decode cX7_fromMemory 22 = .ok (.if_icmp .ne 49, 3) := by decide +kernel
theorem dX7_fromMemory_25 : decode cX7_fromMemory 25 = .ok (.aload_n 0, 1) := by decide +kernel
theorem dX7_fromMemory_26 : decode cX7_fromMemory 26 = .ok (.iload_n 3, 1) := by decide +kernel
theorem dX7_fromMemory_27 : decode cX7_fromMemory 27 = .ok (.iload_n 1, 1) := by decide +kernel
theorem dX7_fromMemory_28 : decode cX7_fromMemory 28 = .ok (.invokevirtual 116, 3) := by decide +kernel
theorem dX7_fromMemory_31 : decode cX7_fromMemory 31 = .ok (.iload_n 1, 1) := by decide +kernel
theorem dX7_fromMemory_32 : decode cX7_fromMemory 32 = .ok (.invokestatic 157, 3) := by decide +kernel
theorem dX7_fromMemory_35 : decode cX7_fromMemory 35 = .ok (.istore 5, 2) := by decide +kernel
theorem dX7_fromMemory_37 : decode cX7_fromMemory 37 = .ok (.iload_n 3, 1) := by decide +kernel
theorem dX7_fromMemory_38 : decode cX7_fromMemory 38 = .ok (.iload_n 1, 1) := by decide +kernel
theorem dX7_fromMemory_39 : decode cX7_fromMemory 39 = .ok (.iadd, 1) := by decide +kernel
theorem dX7_fromMemory_40 : decode cX7_fromMemory 40 = .ok (.istore_n 3, 1) := by decide +kernel
theorem dX7_fromMemory_41 : decode cX7_fromMemory 41 = .ok (.iload 4, 2) := by decide +kernel
theorem dX7_fromMemory_43 : decode cX7_fromMemory 43 = .ok (.bipush 8, 2) := by decide +kernel
theorem dX7_fromMemory_45 : decode cX7_fromMemory 45 = .ok (.if_icmp .ge 15, 3) := by decide +kernel
theorem dX7_fromMemory_48 : decode cX7_fromMemory 48 = .ok (.aload_n 0, 1) := by decide +kernel
theorem dX7_fromMemory_49 : decode cX7_fromMemory 49 = .ok (.getfield 13, 3) := by decide +kernel
theorem dX7_fromMemory_52 : decode cX7_fromMemory 52 = .ok (.iload 4, 2) := by decide +kernel
theorem dX7_fromMemory_54 : decode cX7_fromMemory 54 = .ok (.iload 5, 2) := by decide +kernel
theorem dX7_fromMemory_56 : decode cX7_fromMemory 56 = .ok (.iastore, 1) := by decide +kernel
theorem dX7_fromMemory_57 : decode cX7_fromMemory 57 = .ok (.goto 14, 3) := by decide +kernel
theorem dX7_fromMemory_60 : decode cX7_fromMemory 60 = .ok (.aload_n 0, 1) := by decide +kernel
theorem dX7_fromMemory_61 : decode cX7_fromMemory 61 = .ok (.iload 4, 2) := by decide +kernel
theorem dX7_fromMemory_63 : decode cX7_fromMemory 63 = .ok (.bipush 8, 2) := by decide +kernel
theorem dX7_fromMemory_65 : decode cX7_fromMemory 65 = .ok (.isub, 1) := by decide +kernel
theorem dX7_fromMemory_66 : decode cX7_fromMemory 66 = .ok (.iload 5, 2) := by decide +kernel
theorem dX7_fromMemory_68 : decode cX7_fromMemory 68 = .ok (.invokevirtual 74, 3) := by decide +kernel
theorem dX7_fromMemory_71 : decode cX7_fromMemory 71 = .ok (.iinc 4 1, 3) := by decide +kernel
theorem dX7_fromMemory_74 : decode cX7_fromMemory 74 = .ok (.goto (-66), 3) := by decide +kernel
theorem dX7_fromMemory_77 : decode cX7_fromMemory 77 = .ok (.aload_n 0, 1) := by decide +kernel
theorem dX7_fromMemory_78 : decode cX7_fromMemory 78 = .ok (.getfield 174, 3) := by decide +kernel
theorem dX7_fromMemory_81 : decode cX7_fromMemory 81 = .ok (.iconst 3, 1) := by decide +kernel
theorem dX7_fromMemory_82 : decode cX7_fromMemory 82 = .ok (.ishr, 1) := by decide +kernel
theorem dX7_fromMemory_83 : decode cX7_fromMemory 83 = .ok (.bipush 7, 2) := by decide +kernel
theorem dX7_fromMemory_85 : decode cX7_fromMemory 85 = .ok (.iand, 1) := by decide +kernel
theorem dX7_fromMemory_86 : decode cX7_fromMemory 86 = .ok (.iconst 3, 1) := by decide +kernel
theorem dX7_fromMemory_87 : decode cX7_fromMemory 87 = .ok (.if_icmp .ne 15, 3) := by decide +kernel
theorem dX7_fromMemory_90 : decode cX7_fromMemory 90 = .ok (.aload_n 0, 1) := by decide +kernel
theorem dX7_fromMemory_91 : decode cX7_fromMemory 91 = .ok (.aload_n 0, 1) := by decide +kernel
theorem dX7_fromMemory_92 : decode cX7_fromMemory 92 = .ok (.getfield 174, 3) := by decide +kernel
theorem dX7_fromMemory_95 : decode cX7_fromMemory 95 = .ok (.bipush 7, 2) := by decide +kernel
theorem dX7_fromMemory_97 : decode cX7_fromMemory 97 = .ok (.iand, 1) := by decide +kernel
theorem dX7_fromMemory_98 : decode cX7_fromMemory 98 = .ok (.iload_n 3, 1) := by decide +kernel
theorem dX7_fromMemory_99 : decode cX7_fromMemory 99 = .ok (.invokevirtual 74, 3) := by decide +kernel
theorem dX7_fromMemory_102 : decode cX7_fromMemory 102 = .ok (.return_, 1) := by decide +kernel
theorem dX7_many_0 : decode cX7_many 0 = .ok (.aload_n 0, 1) := by decide +kernel
theorem dX7_many_1 : decode cX7_many 1 = .ok (.getfield 174, 3) := by decide +kernel
theorem dX7_many_4 : decode cX7_many 4 = .ok (.bipush 63, 2) := by decide +kernel
theorem dX7_many_6 : decode cX7_many 6 = .ok (.iand, 1) := by decide +kernel
theorem dX7_many_7 : decode cX7_many 7 = .ok (.istore_n 2, 1) := by decide +kernel
theorem dX7_many_8 : decode cX7_many 8 = .ok (.iload_n 2, 1) := by decide +kernel
theorem dX7_many_9 : decode cX7_many 9 = .ok (.iconst 3, 1) := by decide +kernel
theorem dX7_many_10 : decode cX7_many 10 = .ok (.ishr, 1) := by decide +kernel
theorem dX7_many_11 : decode cX7_many 11 = .ok (.istore_n 3, 1) := by decide +kernel
theorem dX7_many_12 : decode cX7_many 12 = .ok (.iload_n 1, 1) := by decide +kernel
theorem dX7_many_13 : decode cX7_many 13 = .ok (.ifCond .eq 7, 3) := by decide +kernel
theorem dX7_many_16 : decode cX7_many 16 = .ok (.iconst 4, 1) := by decide +kernel
theorem dX7_many_17 : decode cX7_many 17 = .ok (.goto 4, 3) := by decide +kernel
theorem dX7_many_20 : decode cX7_many 20 = .ok (.iconst 3, 1) := by decide +kernel
theorem dX7_many_21 : decode cX7_many 21 = .ok (.istore 4, 2) := by decide +kernel
theorem dX7_many_23 : decode cX7_many 23 = .ok (.iload_n 3, 1) := by decide +kernel
theorem dX7_many_24 : decode cX7_many 24 = .ok (.iload 4, 2) := by decide +kernel
theorem dX7_many_26 : decode cX7_many 26 = .ok (.if_icmp .eq 23, 3) := by decide +kernel
theorem dX7_many_29 : decode cX7_many 29 = .ok (.iload_n 2, 1) := by decide +kernel
theorem dX7_many_30 : decode cX7_many 30 = .ok (.iload_n 1, 1) := by decide +kernel
theorem dX7_many_31 : decode cX7_many 31 = .ok (.ifCond .eq 8, 3) := by decide +kernel
theorem dX7_many_34 : decode cX7_many 34 = .ok (.bipush 6, 2) := by decide +kernel
theorem dX7_many_36 : decode cX7_many 36 = .ok (.goto 4, 3) := by decide +kernel
theorem dX7_many_39 : decode cX7_many 39 = .ok (.iconst 3, 1) := by decide +kernel
theorem dX7_many_40 : decode cX7_many 40 = .ok (.iconst 2, 1) := by decide +kernel
theorem dX7_many_41 : decode cX7_many 41 = .ok (.invokestatic 188, 3) := by decide +kernel
theorem dX7_many_44 : decode cX7_many 44 = .ok (.ifCond .ne 5, 3) := by decide +kernel
theorem dX7_many_47 : decode cX7_many 47 = .ok (.iconst 0, 1) := by decide +kernel
theorem dX7_many_48 : decode cX7_many 48 = .ok (.ireturn, 1) := by decide +kernel
theorem dX7_many_49 : decode cX7_many 49 = .ok (.aload_n 0, 1) := by decide +kernel
theorem dX7_many_50 : decode cX7_many 50 = .ok (.getfield 174, 3) := by decide +kernel
theorem dX7_many_53 : decode cX7_many 53 = .ok (.bipush 64, 2) := by decide +kernel
theorem dX7_many_55 : decode cX7_many 55 = .ok (.iand, 1) := by decide +kernel
theorem dX7_many_56 : decode cX7_many 56 = .ok (.ifCond .eq 7, 3) := by decide +kernel
theorem dX7_many_59 : decode cX7_many 59 = .ok (.iconst 4, 1) := by decide +kernel
theorem dX7_many_60 : decode cX7_many 60 = .ok (.goto 4, 3) := by decide +kernel
theorem dX7_many_63 : decode cX7_many 63 = .ok (.iconst 2, 1) := by decide +kernel
theorem dX7_many_64 : decode cX7_many 64 = .ok (.istore 5, 2) := by decide +kernel
theorem dX7_many_66 : decode cX7_many 66 = .ok (.aload_n 0, 1) := by decide +kernel
theorem dX7_many_67 : decode cX7_many 67 = .ok (.invokevirtual 125, 3) := by decide +kernel
theorem dX7_many_70 : decode cX7_many 70 = .ok (.istore 6, 2) := by decide +kernel
theorem dX7_many_72 : decode cX7_many 72 = .ok (.iload_n 3, 1) := by decide +kernel
theorem dX7_many_73 : decode cX7_many 73 = .ok (.iconst 3, 1) := by decide +kernel
theorem dX7_many_74 : decode cX7_many 74 = .ok (.if_icmp .ne 21, 3) := by decide +kernel
theorem dX7_many_77 : decode cX7_many 77 = .ok (.aload_n 0, 1) := by decide +kernel
theorem dX7_many_78 : decode cX7_many 78 = .ok (.aload_n 0, 1) := by decide +kernel
theorem dX7_many_79 : decode cX7_many 79 = .ok (.aload_n 0, 1) := by decide +kernel
theorem dX7_many_80 : decode cX7_many 80 = .ok (.getfield 174, 3) := by decide +kernel
theorem dX7_many_83 : decode cX7_many 83 = .ok (.bipush 7, 2) := by decide +kernel
theorem dX7_many_85 : decode cX7_many 85 = .ok (.iand, 1) := by decide +kernel
theorem dX7_many_86 : decode cX7_many 86 = .ok (.invokevirtual 70, 3) := by decide +kernel
theorem dX7_many_89 : decode cX7_many 89 = .ok (.putfield 135, 3) := by decide +kernel
theorem dX7_many_92 : decode cX7_many 92 = .ok (.goto 15, 3) := by decide +kernel
theorem dX7_many_95 : decode cX7_many 95 = .ok (.iload_n 3, 1) := by decide +kernel
theorem dX7_many_96 : decode cX7_many 96 = .ok (.iconst 4, 1) := by decide +kernel
theorem dX7_many_97 : decode cX7_many 97 = .ok (.if_icmp .eq 10, 3) := by decide +kernel
theorem dX7_many_100 : decode cX7_many 100 = .ok (.aload_n 0, 1) := by decide +kernel
theorem dX7_many_101 : decode cX7_many 101 = .ok (.iload_n 2, 1) := by decide +kernel
theorem dX7_many_102 : decode cX7_many 102 = .ok (.iload 5, 2) := by decide +kernel
theorem dX7_many_104 : decode cX7_many 104 = .ok (.invokevirtual 192, 3) := by decide +kernel
theorem dX7_many_107 : decode cX7_many 107 = .ok (.iload_n 1, 1) := by decide +kernel
theorem dX7_many_108 : decode cX7_many 108 = .ok (.ifCond .eq 14, 3) := by decide +kernel
theorem dX7_many_111 : decode cX7_many 111 = .ok (.aload_n 0, 1) := by decide +kernel
theorem dX7_many_112 : decode cX7_many 112 = .ok (.iload 5, 2) := by decide +kernel
theorem dX7_many_114 : decode cX7_many 114 = .ok (.iload 6, 2) := by decide +kernel
theorem dX7_many_116 : decode cX7_many 116 = .ok (.invokevirtual 220, 3) := by decide +kernel
theorem dX7_many_119 : decode cX7_many 119 = .ok (.goto 11, 3) := by decide +kernel
theorem dX7_many_122 : decode cX7_many 122 = .ok (.aload_n 0, 1) := by decide +kernel
theorem dX7_many_123 : decode cX7_many 123 = .ok (.iload 5, 2) := by decide +kernel
theorem dX7_many_125 : decode cX7_many 125 = .ok (.iload 6, 2) := by decide +kernel
theorem dX7_many_127 : decode cX7_many 127 = .ok (.invokevirtual 223, 3) := by decide +kernel
theorem dX7_many_130 : decode cX7_many 130 = .ok (.iconst 1, 1) := by decide +kernel
theorem dX7_many_131 : decode cX7_many 131 = .ok (.ireturn, 1) := by decide +kernel
theorem dX7_group48_0 : decode cX7_group48 0 = .ok (.aload_n 0, 1) := by decide +kernel
theorem dX7_group48_1 : decode cX7_group48 1 = .ok (.getfield 174, 3) := by decide +kernel
theorem dX7_group48_4 : decode cX7_group48 4 = .ok (.bipush 6, 2) := by decide +kernel
theorem dX7_group48_6 : decode cX7_group48 6 = .ok (.ishr, 1) := by decide +kernel
theorem dX7_group48_7 : decode cX7_group48 7 = .ok (.iconst 3, 1) := by decide +kernel
theorem dX7_group48_8 : decode cX7_group48 8 = .ok (.iand, 1) := by decide +kernel
theorem dX7_group48_9 : decode cX7_group48 9 = .ok (.istore_n 1, 1) := by decide +kernel
theorem dX7_group48_10 : decode cX7_group48 10 = .ok (.aload_n 0, 1) := by decide +kernel
theorem dX7_group48_11 : decode cX7_group48 11 = .ok (.getfield 174, 3) := by decide +kernel
theorem dX7_group48_14 : decode cX7_group48 14 = .ok (.iconst 3, 1) := by decide +kernel
theorem dX7_group48_15 : decode cX7_group48 15 = .ok (.ishr, 1) := by decide +kernel
theorem dX7_group48_16 : decode cX7_group48 16 = .ok (.bipush 7, 2) := by decide +kernel
theorem dX7_group48_18 : decode cX7_group48 18 = .ok (.iand, 1) := by decide +kernel
theorem dX7_group48_19 : decode cX7_group48 19 = .ok (.istore_n 2, 1) := by decide +kernel
theorem dX7_group48_20 : decode cX7_group48 20 = .ok (.aload_n 0, 1) := by decide +kernel
theorem dX7_group48_21 : decode cX7_group48 21 = .ok (.getfield 174, 3) := by decide +kernel
theorem dX7_group48_24 : decode cX7_group48 24 = .ok (.bipush 7, 2) := by decide +kernel
theorem dX7_group48_26 : decode cX7_group48 26 = .ok (.iand, 1) := by decide +kernel
theorem dX7_group48_27 : decode cX7_group48 27 = .ok (.istore_n 3, 1) := by decide +kernel
theorem dX7_group48_28 : decode cX7_group48 28 = .ok (.iload_n 1, 1) := by decide +kernel
theorem dX7_group48_29 : decode cX7_group48 29 = .ok (.iconst 1, 1) := by decide +kernel
theorem dX7_group48_30 : decode cX7_group48 30 = .ok (.if_icmp .le 13, 3) := by decide +kernel
theorem dX7_group48_33 : decode cX7_group48 33 = .ok (.iload_n 2, 1) := by decide +kernel
theorem dX7_group48_34 : decode cX7_group48 34 = .ok (.ifCond .le 9, 3) := by decide +kernel
theorem dX7_group48_37 : decode cX7_group48 37 = .ok (.aload_n 0, 1) := by decide +kernel
theorem dX7_group48_38 : decode cX7_group48 38 = .ok (.iconst 1, 1) := by decide +kernel
theorem dX7_group48_39 : decode cX7_group48 39 = .ok (.invokevirtual 226, 3) := by decide +kernel
theorem dX7_group48_42 : decode cX7_group48 42 = .ok (.ireturn, 1) := by decide +kernel
theorem dX7_group48_43 : decode cX7_group48 43 = .ok (.iload_n 1, 1) := by decide +kernel
theorem dX7_group48_44 : decode cX7_group48 44 = .ok (.iconst 1, 1) := by decide +kernel
theorem dX7_group48_45 : decode cX7_group48 45 = .ok (.if_icmp .le 68, 3) := by decide +kernel
theorem dX7_group48_48 : decode cX7_group48 48 = .ok (.iload_n 1, 1) := by decide +kernel
theorem dX7_group48_49 : decode cX7_group48 49 = .ok (.iconst 2, 1) := by decide +kernel
theorem dX7_group48_50 : decode cX7_group48 50 = .ok (.if_icmp .ne 7, 3) := by decide +kernel
theorem dX7_group48_53 : decode cX7_group48 53 = .ok (.iconst 2, 1) := by decide +kernel
theorem dX7_group48_54 : decode cX7_group48 54 = .ok (.goto 4, 3) := by decide +kernel
theorem dX7_group48_57 : decode cX7_group48 57 = .ok (.iconst 4, 1) := by decide +kernel
theorem dX7_group48_58 : decode cX7_group48 58 = .ok (.istore 4, 2) := by decide +kernel
theorem dX7_group48_60 : decode cX7_group48 60 = .ok (.iload_n 1, 1) := by decide +kernel
theorem dX7_group48_61 : decode cX7_group48 61 = .ok (.iconst 2, 1) := by decide +kernel
theorem dX7_group48_62 : decode cX7_group48 62 = .ok (.if_icmp .ne 13, 3) := by decide +kernel
theorem dX7_group48_65 : decode cX7_group48 65 = .ok (.aload_n 0, 1) := by decide +kernel
theorem dX7_group48_66 : decode cX7_group48 66 = .ok (.getfield 13, 3) := by decide +kernel
theorem dX7_group48_69 : decode cX7_group48 69 = .ok (.iload_n 3, 1) := by decide +kernel
theorem dX7_group48_70 : decode cX7_group48 70 = .ok (.iaload, 1) := by decide +kernel
theorem dX7_group48_71 : decode cX7_group48 71 = .ok (.i2b, 1) := by decide +kernel
theorem dX7_group48_72 : decode cX7_group48 72 = .ok (.goto 10, 3) := by decide +kernel
theorem dX7_group48_75 : decode cX7_group48 75 = .ok (.aload_n 0, 1) := by decide +kernel
theorem dX7_group48_76 : decode cX7_group48 76 = .ok (.getfield 13, 3) := by decide +kernel
theorem dX7_group48_79 : decode cX7_group48 79 = .ok (.iload_n 3, 1) := by decide +kernel
theorem dX7_group48_80 : decode cX7_group48 80 = .ok (.iaload, 1) := by decide +kernel
theorem dX7_group48_81 : decode cX7_group48 81 = .ok (.i2s, 1) := by decide +kernel
theorem dX7_group48_82 : decode cX7_group48 82 = .ok (.istore 5, 2) := by decide +kernel
theorem dX7_group48_84 : decode cX7_group48 84 = .ok (.aload_n 0, 1) := by decide +kernel
theorem dX7_group48_85 : decode cX7_group48 85 = .ok (.getfield 13, 3) := by decide +kernel
theorem dX7_group48_88 : decode cX7_group48 88 = .ok (.iload_n 3, 1) := by decide +kernel
theorem dX7_group48_89 : decode cX7_group48 89 = .ok (.aload_n 0, 1) := by decide +kernel
theorem dX7_group48_90 : decode cX7_group48 90 = .ok (.getfield 13, 3) := by decide +kernel
theorem dX7_group48_93 : decode cX7_group48 93 = .ok (.iload_n 3, 1) := by decide +kernel
theorem dX7_group48_94 : decode cX7_group48 94 = .ok (.iaload, 1) := by decide +kernel
theorem dX7_group48_95 : decode cX7_group48 95 = .ok (.iload 5, 2) := by decide +kernel
theorem dX7_group48_97 : decode cX7_group48 97 = .ok (.iload 4, 2) := by decide +kernel
theorem dX7_group48_99 : decode cX7_group48 99 = .ok (.invokestatic 150, 3) := by decide +kernel
theorem dX7_group48_102 : decode cX7_group48 102 = .ok (.iastore, 1) := by decide +kernel
theorem dX7_group48_103 : decode cX7_group48 103 = .ok (.aload_n 0, 1) := by decide +kernel
theorem dX7_group48_104 : decode cX7_group48 104 = .ok (.iload 5, 2) := by decide +kernel
theorem dX7_group48_106 : decode cX7_group48 106 = .ok (.iload 4, 2) := by decide +kernel
theorem dX7_group48_108 : decode cX7_group48 108 = .ok (.invokevirtual 214, 3) := by decide +kernel
theorem dX7_group48_111 : decode cX7_group48 111 = .ok (.iconst 1, 1) := by decide +kernel
theorem dX7_group48_112 : decode cX7_group48 112 = .ok (.ireturn, 1) := by decide +kernel
theorem dX7_group48_113 : decode cX7_group48 113 = .ok (.iload_n 1, 1) := by decide +kernel
theorem dX7_group48_114 : decode cX7_group48 114 = .ok (.iconst 1, 1) := by decide +kernel
theorem dX7_group48_115 : decode cX7_group48 115 = .ok (.if_icmp .ne 45, 3) := by decide +kernel
theorem dX7_group48_118 : decode cX7_group48 118 = .ok (.iload_n 2, 1) := by decide +kernel
theorem dX7_group48_119 : decode cX7_group48 119 = .ok (.ifCond .ne 41, 3) := by decide +kernel
theorem dX7_group48_122 : decode cX7_group48 122 = .ok (.aload_n 0, 1) := by decide +kernel
theorem dX7_group48_123 : decode cX7_group48 123 = .ok (.getfield 13, 3) := by decide +kernel
theorem dX7_group48_126 : decode cX7_group48 126 = .ok (.iload_n 3, 1) := by decide +kernel
theorem dX7_group48_127 : decode cX7_group48 127 = .ok (.aload_n 0, 1) := by decide +kernel
theorem dX7_group48_128 : decode cX7_group48 128 = .ok (.getfield 13, 3) := by decide +kernel
theorem dX7_group48_131 : decode cX7_group48 131 = .ok (.iload_n 3, 1) := by decide +kernel
theorem dX7_group48_132 : decode cX7_group48 132 = .ok (.iaload, 1) := by decide +kernel
theorem dX7_group48_133 : decode cX7_group48 133 = .ok (.bipush 16, 2) := by decide +kernel
theorem dX7_group48_135 : decode cX7_group48 135 = .ok (.ishl, 1) := by decide +kernel
theorem dX7_group48_136 : decode cX7_group48 136 = .ok (.aload_n 0, 1) := by decide +kernel
theorem dX7_group48_137 : decode cX7_group48 137 = .ok (.getfield 13, 3) := by decide +kernel
theorem dX7_group48_140 : decode cX7_group48 140 = .ok (.iload_n 3, 1) := by decide +kernel
theorem dX7_group48_141 : decode cX7_group48 141 = .ok (.iaload, 1) := by decide +kernel
theorem dX7_group48_142 : decode cX7_group48 142 = .ok (.bipush 16, 2) := by decide +kernel
theorem dX7_group48_144 : decode cX7_group48 144 = .ok (.iushr, 1) := by decide +kernel
theorem dX7_group48_145 : decode cX7_group48 145 = .ok (.ior, 1) := by decide +kernel
theorem dX7_group48_146 : decode cX7_group48 146 = .ok (.iastore, 1) := by decide +kernel
theorem dX7_group48_147 : decode cX7_group48 147 = .ok (.aload_n 0, 1) := by decide +kernel
theorem dX7_group48_148 : decode cX7_group48 148 = .ok (.aload_n 0, 1) := by decide +kernel
theorem dX7_group48_149 : decode cX7_group48 149 = .ok (.getfield 13, 3) := by decide +kernel
theorem dX7_group48_152 : decode cX7_group48 152 = .ok (.iload_n 3, 1) := by decide +kernel
theorem dX7_group48_153 : decode cX7_group48 153 = .ok (.iaload, 1) := by decide +kernel
theorem dX7_group48_154 : decode cX7_group48 154 = .ok (.iconst 4, 1) := by decide +kernel
theorem dX7_group48_155 : decode cX7_group48 155 = .ok (.invokevirtual 214, 3) := by decide +kernel
theorem dX7_group48_158 : decode cX7_group48 158 = .ok (.iconst 1, 1) := by decide +kernel
theorem dX7_group48_159 : decode cX7_group48 159 = .ok (.ireturn, 1) := by decide +kernel
theorem dX7_group48_160 : decode cX7_group48 160 = .ok (.iload_n 1, 1) := by decide +kernel
theorem dX7_group48_161 : decode cX7_group48 161 = .ok (.iconst 1, 1) := by decide +kernel
theorem dX7_group48_162 : decode cX7_group48 162 = .ok (.if_icmp .ne 43, 3) := by decide +kernel
theorem dX7_group48_165 : decode cX7_group48 165 = .ok (.aload_n 0, 1) := by decide +kernel
theorem dX7_group48_166 : decode cX7_group48 166 = .ok (.getfield 174, 3) := by decide +kernel
theorem dX7_group48_169 : decode cX7_group48 169 = .ok (.bipush 63, 2) := by decide +kernel
theorem dX7_group48_171 : decode cX7_group48 171 = .ok (.iand, 1) := by decide +kernel
theorem dX7_group48_172 : decode cX7_group48 172 = .ok (.iconst 3, 1) := by decide +kernel
theorem dX7_group48_173 : decode cX7_group48 173 = .ok (.iconst 4, 1) := by decide +kernel
theorem dX7_group48_174 : decode cX7_group48 174 = .ok (.invokestatic 188, 3) := by decide +kernel
theorem dX7_group48_177 : decode cX7_group48 177 = .ok (.ifCond .ne 5, 3) := by decide +kernel
theorem dX7_group48_180 : decode cX7_group48 180 = .ok (.iconst 0, 1) := by decide +kernel
theorem dX7_group48_181 : decode cX7_group48 181 = .ok (.ireturn, 1) := by decide +kernel
theorem dX7_group48_182 : decode cX7_group48 182 = .ok (.aload_n 0, 1) := by decide +kernel
theorem dX7_group48_183 : decode cX7_group48 183 = .ok (.aload_n 0, 1) := by decide +kernel
theorem dX7_group48_184 : decode cX7_group48 184 = .ok (.getfield 174, 3) := by decide +kernel
theorem dX7_group48_187 : decode cX7_group48 187 = .ok (.bipush 63, 2) := by decide +kernel
theorem dX7_group48_189 : decode cX7_group48 189 = .ok (.iand, 1) := by decide +kernel
theorem dX7_group48_190 : decode cX7_group48 190 = .ok (.iconst 4, 1) := by decide +kernel
theorem dX7_group48_191 : decode cX7_group48 191 = .ok (.invokevirtual 192, 3) := by decide +kernel
theorem dX7_group48_194 : decode cX7_group48 194 = .ok (.aload_n 0, 1) := by decide +kernel
theorem dX7_group48_195 : decode cX7_group48 195 = .ok (.aload_n 0, 1) := by decide +kernel
theorem dX7_group48_196 : decode cX7_group48 196 = .ok (.getfield 135, 3) := by decide +kernel
theorem dX7_group48_199 : decode cX7_group48 199 = .ok (.iconst 4, 1) := by decide +kernel
theorem dX7_group48_200 : decode cX7_group48 200 = .ok (.invokevirtual 230, 3) := by decide +kernel
theorem dX7_group48_203 : decode cX7_group48 203 = .ok (.iconst 1, 1) := by decide +kernel
theorem dX7_group48_204 : decode cX7_group48 204 = .ok (.ireturn, 1) := by decide +kernel
theorem dX7_group48_205 : decode cX7_group48 205 = .ok (.aload_n 0, 1) := by decide +kernel
theorem dX7_group48_206 : decode cX7_group48 206 = .ok (.getfield 174, 3) := by decide +kernel
theorem dX7_group48_209 : decode cX7_group48 209 = .ok (.bipush 63, 2) := by decide +kernel
theorem dX7_group48_211 : decode cX7_group48 211 = .ok (.iand, 1) := by decide +kernel
theorem dX7_group48_212 : decode cX7_group48 212 = .ok (.iconst 4, 1) := by decide +kernel
theorem dX7_group48_213 : decode cX7_group48 213 = .ok (.iconst 1, 1) := by decide +kernel
theorem dX7_group48_214 : decode cX7_group48 214 = .ok (.invokestatic 188, 3) := by decide +kernel
theorem dX7_group48_217 : decode cX7_group48 217 = .ok (.ifCond .ne 5, 3) := by decide +kernel
theorem dX7_group48_220 : decode cX7_group48 220 = .ok (.iconst 0, 1) := by decide +kernel
theorem dX7_group48_221 : decode cX7_group48 221 = .ok (.ireturn, 1) := by decide +kernel
theorem dX7_group48_222 : decode cX7_group48 222 = .ok (.aload_n 0, 1) := by decide +kernel
theorem dX7_group48_223 : decode cX7_group48 223 = .ok (.aload_n 0, 1) := by decide +kernel
theorem dX7_group48_224 : decode cX7_group48 224 = .ok (.getfield 174, 3) := by decide +kernel
theorem dX7_group48_227 : decode cX7_group48 227 = .ok (.bipush 63, 2) := by decide +kernel
theorem dX7_group48_229 : decode cX7_group48 229 = .ok (.iand, 1) := by decide +kernel
theorem dX7_group48_230 : decode cX7_group48 230 = .ok (.iconst 1, 1) := by decide +kernel
theorem dX7_group48_231 : decode cX7_group48 231 = .ok (.invokevirtual 192, 3) := by decide +kernel
theorem dX7_group48_234 : decode cX7_group48 234 = .ok (.aload_n 0, 1) := by decide +kernel
theorem dX7_group48_235 : decode cX7_group48 235 = .ok (.iconst 1, 1) := by decide +kernel
theorem dX7_group48_236 : decode cX7_group48 236 = .ok (.invokevirtual 195, 3) := by decide +kernel
theorem dX7_group48_239 : decode cX7_group48 239 = .ok (.istore 4, 2) := by decide +kernel
theorem dX7_group48_241 : decode cX7_group48 241 = .ok (.aload_n 0, 1) := by decide +kernel
theorem dX7_group48_242 : decode cX7_group48 242 = .ok (.aload_n 0, 1) := by decide +kernel
theorem dX7_group48_243 : decode cX7_group48 243 = .ok (.iconst 0, 1) := by decide +kernel
theorem dX7_group48_244 : decode cX7_group48 244 = .ok (.iload 4, 2) := by decide +kernel
theorem dX7_group48_246 : decode cX7_group48 246 = .ok (.invokevirtual 233, 3) := by decide +kernel
theorem dX7_group48_249 : decode cX7_group48 249 = .ok (.iconst 1, 1) := by decide +kernel
theorem dX7_group48_250 : decode cX7_group48 250 = .ok (.invokevirtual 198, 3) := by decide +kernel
theorem dX7_group48_253 : decode cX7_group48 253 = .ok (.iconst 1, 1) := by decide +kernel
theorem dX7_group48_254 : decode cX7_group48 254 = .ok (.ireturn, 1) := by decide +kernel
theorem dX7_link_0 : decode cX7_link 0 = .ok (.aload_n 0, 1) := by decide +kernel
theorem dX7_link_1 : decode cX7_link 1 = .ok (.invokevirtual 125, 3) := by decide +kernel
theorem dX7_link_4 : decode cX7_link 4 = .ok (.i2s, 1) := by decide +kernel
theorem dX7_link_5 : decode cX7_link 5 = .ok (.istore_n 2, 1) := by decide +kernel
theorem dX7_link_6 : decode cX7_link 6 = .ok (.aload_n 0, 1) := by decide +kernel
theorem dX7_link_7 : decode cX7_link 7 = .ok (.aload_n 0, 1) := by decide +kernel
theorem dX7_link_8 : decode cX7_link 8 = .ok (.iload_n 1, 1) := by decide +kernel
theorem dX7_link_9 : decode cX7_link 9 = .ok (.invokevirtual 70, 3) := by decide +kernel
theorem dX7_link_12 : decode cX7_link 12 = .ok (.iconst 4, 1) := by decide +kernel
theorem dX7_link_13 : decode cX7_link 13 = .ok (.invokevirtual 230, 3) := by decide +kernel
theorem dX7_link_16 : decode cX7_link 16 = .ok (.aload_n 0, 1) := by decide +kernel
theorem dX7_link_17 : decode cX7_link 17 = .ok (.iload_n 1, 1) := by decide +kernel
theorem dX7_link_18 : decode cX7_link 18 = .ok (.aload_n 0, 1) := by decide +kernel
theorem dX7_link_19 : decode cX7_link 19 = .ok (.bipush 7, 2) := by decide +kernel
theorem dX7_link_21 : decode cX7_link 21 = .ok (.invokevirtual 70, 3) := by decide +kernel
theorem dX7_link_24 : decode cX7_link 24 = .ok (.invokevirtual 74, 3) := by decide +kernel
theorem dX7_link_27 : decode cX7_link 27 = .ok (.aload_n 0, 1) := by decide +kernel
theorem dX7_link_28 : decode cX7_link 28 = .ok (.bipush 7, 2) := by decide +kernel
theorem dX7_link_30 : decode cX7_link 30 = .ok (.aload_n 0, 1) := by decide +kernel
theorem dX7_link_31 : decode cX7_link 31 = .ok (.bipush 7, 2) := by decide +kernel
theorem dX7_link_33 : decode cX7_link 33 = .ok (.invokevirtual 70, 3) := by decide +kernel
theorem dX7_link_36 : decode cX7_link 36 = .ok (.iload_n 2, 1) := by decide +kernel
theorem dX7_link_37 : decode cX7_link 37 = .ok (.iadd, 1) := by decide +kernel
theorem dX7_link_38 : decode cX7_link 38 = .ok (.invokevirtual 74, 3) := by decide +kernel
theorem dX7_link_41 : decode cX7_link 41 = .ok (.return_, 1) := by decide +kernel
theorem dX7_back_0 : decode cX7_back 0 = .ok (.iload_n 1, 1) := by decide +kernel
theorem dX7_back_1 : decode cX7_back 1 = .ok (.iconst 5, 1) := by decide +kernel
theorem dX7_back_2 : decode cX7_back 2 = .ok (.if_icmp .ne 10, 3) := by decide +kernel
theorem dX7_back_5 : decode cX7_back 5 = .ok (.aload_n 0, 1) := by decide +kernel
theorem dX7_back_6 : decode cX7_back 6 = .ok (.getfield 50, 3) := by decide +kernel
theorem dX7_back_9 : decode cX7_back 9 = .ok (.goto 8, 3) := by decide +kernel
theorem dX7_back_12 : decode cX7_back 12 = .ok (.aload_n 0, 1) := by decide +kernel
theorem dX7_back_13 : decode cX7_back 13 = .ok (.iconst 2, 1) := by decide +kernel
theorem dX7_back_14 : decode cX7_back 14 = .ok (.invokevirtual 236, 3) := by decide +kernel
theorem dX7_back_17 : decode cX7_back 17 = .ok (.istore_n 2, 1) := by decide +kernel
theorem dX7_back_18 : decode cX7_back 18 = .ok (.aload_n 0, 1) := by decide +kernel
theorem dX7_back_19 : decode cX7_back 19 = .ok (.iconst 4, 1) := by decide +kernel
theorem dX7_back_20 : decode cX7_back 20 = .ok (.invokevirtual 236, 3) := by decide +kernel
theorem dX7_back_23 : decode cX7_back 23 = .ok (.istore_n 3, 1) := by decide +kernel
theorem dX7_back_24 : decode cX7_back 24 = .ok (.aload_n 0, 1) := by decide +kernel
theorem dX7_back_25 : decode cX7_back 25 = .ok (.getfield 100, 3) := by decide +kernel
theorem dX7_back_28 : decode cX7_back 28 = .ok (.ifCond .ne 50, 3) := by decide +kernel
theorem dX7_back_31 : decode cX7_back 31 = .ok (.aload_n 0, 1) := by decide +kernel
theorem dX7_back_32 : decode cX7_back 32 = .ok (.iload_n 3, 1) := by decide +kernel
theorem dX7_back_33 : decode cX7_back 33 = .ok (.putfield 47, 3) := by decide +kernel
theorem dX7_back_36 : decode cX7_back 36 = .ok (.aload_n 0, 1) := by decide +kernel
theorem dX7_back_37 : decode cX7_back 37 = .ok (.iload_n 1, 1) := by decide +kernel
theorem dX7_back_38 : decode cX7_back 38 = .ok (.iconst 3, 1) := by decide +kernel
theorem dX7_back_39 : decode cX7_back 39 = .ok (.if_icmp .ne 10, 3) := by decide +kernel
theorem dX7_back_42 : decode cX7_back 42 = .ok (.iload_n 2, 1) := by decide +kernel
theorem dX7_back_43 : decode cX7_back 43 = .ok (.ldc 78, 2) := by decide +kernel
theorem dX7_back_45 : decode cX7_back 45 = .ok (.iand, 1) := by decide +kernel
theorem dX7_back_46 : decode cX7_back 46 = .ok (.goto 29, 3) := by decide +kernel
theorem dX7_back_49 : decode cX7_back 49 = .ok (.iload_n 1, 1) := by decide +kernel
theorem dX7_back_50 : decode cX7_back 50 = .ok (.bipush 7, 2) := by decide +kernel
theorem dX7_back_52 : decode cX7_back 52 = .ok (.if_icmp .ne 19, 3) := by decide +kernel
theorem dX7_back_55 : decode cX7_back 55 = .ok (.aload_n 0, 1) := by decide +kernel
theorem dX7_back_56 : decode cX7_back 56 = .ok (.getfield 50, 3) := by decide +kernel
theorem dX7_back_59 : decode cX7_back 59 = .ok (.sipush (-256), 3) := by decide +kernel
theorem dX7_back_62 : decode cX7_back 62 = .ok (.iand, 1) := by decide +kernel
theorem dX7_back_63 : decode cX7_back 63 = .ok (.iload_n 2, 1) := by decide +kernel
theorem dX7_back_64 : decode cX7_back 64 = .ok (.bipush 31, 2) := by decide +kernel
theorem dX7_back_66 : decode cX7_back 66 = .ok (.iand, 1) := by decide +kernel
theorem dX7_back_67 : decode cX7_back 67 = .ok (.ior, 1) := by decide +kernel
theorem dX7_back_68 : decode cX7_back 68 = .ok (.goto 7, 3) := by decide +kernel
theorem dX7_back_71 : decode cX7_back 71 = .ok (.aload_n 0, 1) := by decide +kernel
theorem dX7_back_72 : decode cX7_back 72 = .ok (.getfield 50, 3) := by decide +kernel
theorem dX7_back_75 : decode cX7_back 75 = .ok (.putfield 50, 3) := by decide +kernel
theorem dX7_back_78 : decode cX7_back 78 = .ok (.return_, 1) := by decide +kernel
theorem dX7_single_0 : decode cX7_single 0 = .ok (.iload_n 1, 1) := by decide +kernel
theorem dX7_single_1 : decode cX7_single 1 = .ok (.iconst 4, 1) := by decide +kernel
theorem dX7_single_2 : decode cX7_single 2 = .ok (.if_icmp .ne 5, 3) := by decide +kernel
theorem dX7_single_5 : decode cX7_single 5 = .ok (.iconst 0, 1) := by decide +kernel
theorem dX7_single_6 : decode cX7_single 6 = .ok (.ireturn, 1) := by decide +kernel
theorem dX7_single_7 : decode cX7_single 7 = .ok (.iload_n 1, 1) := by decide +kernel
theorem dX7_single_8 : decode cX7_single 8 = .ok (.ifCond .eq 13, 3) := by decide +kernel
theorem dX7_single_11 : decode cX7_single 11 = .ok (.iload_n 1, 1) := by decide +kernel
theorem dX7_single_12 : decode cX7_single 12 = .ok (.iconst 2, 1) := by decide +kernel
theorem dX7_single_13 : decode cX7_single 13 = .ok (.if_icmp .eq 8, 3) := by decide +kernel
theorem dX7_single_16 : decode cX7_single 16 = .ok (.iload_n 1, 1) := by decide +kernel
theorem dX7_single_17 : decode cX7_single 17 = .ok (.iconst 3, 1) := by decide +kernel
theorem dX7_single_18 : decode cX7_single 18 = .ok (.if_icmp .ne 12, 3) := by decide +kernel
theorem dX7_single_21 : decode cX7_single 21 = .ok (.aload_n 0, 1) := by decide +kernel
theorem dX7_single_22 : decode cX7_single 22 = .ok (.invokevirtual 177, 3) := by decide +kernel
theorem dX7_single_25 : decode cX7_single 25 = .ok (.ifCond .eq 5, 3) := by decide +kernel
theorem dX7_single_28 : decode cX7_single 28 = .ok (.iconst 1, 1) := by decide +kernel
theorem dX7_single_29 : decode cX7_single 29 = .ok (.ireturn, 1) := by decide +kernel
theorem dX7_single_30 : decode cX7_single 30 = .ok (.iload_n 1, 1) := by decide +kernel
theorem dX7_single_31 : decode cX7_single 31 = .ok (.iconst 2, 1) := by decide +kernel
theorem dX7_single_32 : decode cX7_single 32 = .ok (.if_icmp .ne 19, 3) := by decide +kernel
theorem dX7_single_35 : decode cX7_single 35 = .ok (.aload_n 0, 1) := by decide +kernel
theorem dX7_single_36 : decode cX7_single 36 = .ok (.aload_n 0, 1) := by decide +kernel
theorem dX7_single_37 : decode cX7_single 37 = .ok (.invokevirtual 125, 3) := by decide +kernel
theorem dX7_single_40 : decode cX7_single 40 = .ok (.invokevirtual 184, 3) := by decide +kernel
theorem dX7_single_43 : decode cX7_single 43 = .ok (.aload_n 0, 1) := by decide +kernel
theorem dX7_single_44 : decode cX7_single 44 = .ok (.iconst 1, 1) := by decide +kernel
theorem dX7_single_45 : decode cX7_single 45 = .ok (.putfield 239, 3) := by decide +kernel
theorem dX7_single_48 : decode cX7_single 48 = .ok (.goto 47, 3) := by decide +kernel
theorem dX7_single_51 : decode cX7_single 51 = .ok (.iload_n 1, 1) := by decide +kernel
theorem dX7_single_52 : decode cX7_single 52 = .ok (.iconst 3, 1) := by decide +kernel
theorem dX7_single_53 : decode cX7_single 53 = .ok (.if_icmp .eq 14, 3) := by decide +kernel
theorem dX7_single_56 : decode cX7_single 56 = .ok (.iload_n 1, 1) := by decide +kernel
theorem dX7_single_57 : decode cX7_single 57 = .ok (.iconst 5, 1) := by decide +kernel
theorem dX7_single_58 : decode cX7_single 58 = .ok (.if_icmp .eq 9, 3) := by decide +kernel
theorem dX7_single_61 : decode cX7_single 61 = .ok (.iload_n 1, 1) := by decide +kernel
theorem dX7_single_62 : decode cX7_single 62 = .ok (.bipush 7, 2) := by decide +kernel
theorem dX7_single_64 : decode cX7_single 64 = .ok (.if_icmp .ne 11, 3) := by decide +kernel
theorem dX7_single_67 : decode cX7_single 67 = .ok (.aload_n 0, 1) := by decide +kernel
theorem dX7_single_68 : decode cX7_single 68 = .ok (.iload_n 1, 1) := by decide +kernel
theorem dX7_single_69 : decode cX7_single 69 = .ok (.invokevirtual 242, 3) := by decide +kernel
theorem dX7_single_72 : decode cX7_single 72 = .ok (.goto 23, 3) := by decide +kernel
theorem dX7_single_75 : decode cX7_single 75 = .ok (.iload_n 1, 1) := by decide +kernel
theorem dX7_single_76 : decode cX7_single 76 = .ok (.bipush 6, 2) := by decide +kernel
theorem dX7_single_78 : decode cX7_single 78 = .ok (.if_icmp .ne 17, 3) := by decide +kernel
theorem dX7_single_81 : decode cX7_single 81 = .ok (.aload_n 0, 1) := by decide +kernel
theorem dX7_single_82 : decode cX7_single 82 = .ok (.iconst 2, 1) := by decide +kernel
theorem dX7_single_83 : decode cX7_single 83 = .ok (.invokevirtual 154, 3) := by decide +kernel
theorem dX7_single_86 : decode cX7_single 86 = .ok (.ifCond .eq 9, 3) := by decide +kernel
theorem dX7_single_89 : decode cX7_single 89 = .ok (.aload_n 0, 1) := by decide +kernel
theorem dX7_single_90 : decode cX7_single 90 = .ok (.bipush 7, 2) := by decide +kernel
theorem dX7_single_92 : decode cX7_single 92 = .ok (.putfield 245, 3) := by decide +kernel
theorem dX7_single_95 : decode cX7_single 95 = .ok (.iconst 1, 1) := by decide +kernel
theorem dX7_single_96 : decode cX7_single 96 = .ok (.ireturn, 1) := by decide +kernel
theorem dX7_group4e_0 : decode cX7_group4e 0 = .ok (.aload_n 0, 1) := by decide +kernel
theorem dX7_group4e_1 : decode cX7_group4e 1 = .ok (.getfield 174, 3) := by decide +kernel
theorem dX7_group4e_4 : decode cX7_group4e 4 = .ok (.iconst 4, 1) := by decide +kernel
theorem dX7_group4e_5 : decode cX7_group4e 5 = .ok (.ishr, 1) := by decide +kernel
theorem dX7_group4e_6 : decode cX7_group4e 6 = .ok (.bipush 15, 2) := by decide +kernel
theorem dX7_group4e_8 : decode cX7_group4e 8 = .ok (.iand, 1) := by decide +kernel
theorem dX7_group4e_9 : decode cX7_group4e 9 = .ok (.istore_n 1, 1) := by decide +kernel
theorem dX7_group4e_10 : decode cX7_group4e 10 = .ok (.aload_n 0, 1) := by decide +kernel
theorem dX7_group4e_11 : decode cX7_group4e 11 = .ok (.getfield 174, 3) := by decide +kernel
theorem dX7_group4e_14 : decode cX7_group4e 14 = .ok (.bipush 7, 2) := by decide +kernel
theorem dX7_group4e_16 : decode cX7_group4e 16 = .ok (.iand, 1) := by decide +kernel
theorem dX7_group4e_17 : decode cX7_group4e 17 = .ok (.istore_n 2, 1) := by decide +kernel
theorem dX7_group4e_18 : decode cX7_group4e 18 = .ok (.aload_n 0, 1) := by decide +kernel
theorem dX7_group4e_19 : decode cX7_group4e 19 = .ok (.getfield 174, 3) := by decide +kernel
theorem dX7_group4e_22 : decode cX7_group4e 22 = .ok (.bipush 8, 2) := by decide +kernel
theorem dX7_group4e_24 : decode cX7_group4e 24 = .ok (.iand, 1) := by decide +kernel
theorem dX7_group4e_25 : decode cX7_group4e 25 = .ok (.ifCond .eq 7, 3) := by decide +kernel
theorem dX7_group4e_28 : decode cX7_group4e 28 = .ok (.iconst 1, 1) := by decide +kernel
theorem dX7_group4e_29 : decode cX7_group4e 29 = .ok (.goto 4, 3) := by decide +kernel
theorem dX7_group4e_32 : decode cX7_group4e 32 = .ok (.iconst 0, 1) := by decide +kernel
theorem dX7_group4e_33 : decode cX7_group4e 33 = .ok (.istore_n 3, 1) := by decide +kernel
theorem dX7_group4e_34 : decode cX7_group4e 34 = .ok (.iload_n 1, 1) := by decide +kernel
theorem dX7_group4e_35 : decode cX7_group4e 35 = .ok (.iconst 4, 1) := by decide +kernel
theorem dX7_group4e_36 : decode cX7_group4e 36 = .ok (.if_icmp .ne 20, 3) := by decide +kernel
theorem dX7_group4e_39 : decode cX7_group4e 39 = .ok (.aload_n 0, 1) := by decide +kernel
theorem dX7_group4e_40 : decode cX7_group4e 40 = .ok (.bipush 32, 2) := by decide +kernel
theorem dX7_group4e_42 : decode cX7_group4e 42 = .ok (.aload_n 0, 1) := by decide +kernel
theorem dX7_group4e_43 : decode cX7_group4e 43 = .ok (.getfield 174, 3) := by decide +kernel
theorem dX7_group4e_46 : decode cX7_group4e 46 = .ok (.bipush 15, 2) := by decide +kernel
theorem dX7_group4e_48 : decode cX7_group4e 48 = .ok (.iand, 1) := by decide +kernel
theorem dX7_group4e_49 : decode cX7_group4e 49 = .ok (.iadd, 1) := by decide +kernel
theorem dX7_group4e_50 : decode cX7_group4e 50 = .ok (.putfield 245, 3) := by decide +kernel
theorem dX7_group4e_53 : decode cX7_group4e 53 = .ok (.goto 192, 3) := by decide +kernel
theorem dX7_group4e_56 : decode cX7_group4e 56 = .ok (.iload_n 1, 1) := by decide +kernel
theorem dX7_group4e_57 : decode cX7_group4e 57 = .ok (.iconst 5, 1) := by decide +kernel
theorem dX7_group4e_58 : decode cX7_group4e 58 = .ok (.if_icmp .ne 35, 3) := by decide +kernel
theorem dX7_group4e_61 : decode cX7_group4e 61 = .ok (.iload_n 3, 1) := by decide +kernel
theorem dX7_group4e_62 : decode cX7_group4e 62 = .ok (.ifCond .eq 31, 3) := by decide +kernel
theorem dX7_group4e_65 : decode cX7_group4e 65 = .ok (.aload_n 0, 1) := by decide +kernel
theorem dX7_group4e_66 : decode cX7_group4e 66 = .ok (.bipush 7, 2) := by decide +kernel
theorem dX7_group4e_68 : decode cX7_group4e 68 = .ok (.aload_n 0, 1) := by decide +kernel
theorem dX7_group4e_69 : decode cX7_group4e 69 = .ok (.iload_n 2, 1) := by decide +kernel
theorem dX7_group4e_70 : decode cX7_group4e 70 = .ok (.invokevirtual 70, 3) := by decide +kernel
theorem dX7_group4e_73 : decode cX7_group4e 73 = .ok (.invokevirtual 74, 3) := by decide +kernel
theorem dX7_group4e_76 : decode cX7_group4e 76 = .ok (.aload_n 0, 1) := by decide +kernel
theorem dX7_group4e_77 : decode cX7_group4e 77 = .ok (.iconst 4, 1) := by decide +kernel
theorem dX7_group4e_78 : decode cX7_group4e 78 = .ok (.invokevirtual 236, 3) := by decide +kernel
theorem dX7_group4e_81 : decode cX7_group4e 81 = .ok (.istore 4, 2) := by decide +kernel
theorem dX7_group4e_83 : decode cX7_group4e 83 = .ok (.aload_n 0, 1) := by decide +kernel
theorem dX7_group4e_84 : decode cX7_group4e 84 = .ok (.iload_n 2, 1) := by decide +kernel
theorem dX7_group4e_85 : decode cX7_group4e 85 = .ok (.iload 4, 2) := by decide +kernel
theorem dX7_group4e_87 : decode cX7_group4e 87 = .ok (.invokevirtual 74, 3) := by decide +kernel
theorem dX7_group4e_90 : decode cX7_group4e 90 = .ok (.goto 155, 3) := by decide +kernel
theorem dX7_group4e_93 : decode cX7_group4e 93 = .ok (.iload_n 1, 1) := by decide +kernel
theorem dX7_group4e_94 : decode cX7_group4e 94 = .ok (.iconst 5, 1) := by decide +kernel
theorem dX7_group4e_95 : decode cX7_group4e 95 = .ok (.if_icmp .ne 11, 3) := by decide +kernel
theorem dX7_group4e_98 : decode cX7_group4e 98 = .ok (.aload_n 0, 1) := by decide +kernel
theorem dX7_group4e_99 : decode cX7_group4e 99 = .ok (.iload_n 2, 1) := by decide +kernel
theorem dX7_group4e_100 : decode cX7_group4e 100 = .ok (.invokevirtual 248, 3) := by decide +kernel
theorem dX7_group4e_103 : decode cX7_group4e 103 = .ok (.goto 142, 3) := by decide +kernel
theorem dX7_group4e_106 : decode cX7_group4e 106 = .ok (.iload_n 1, 1) := by decide +kernel
theorem dX7_group4e_107 : decode cX7_group4e 107 = .ok (.bipush 6, 2) := by decide +kernel
theorem dX7_group4e_109 : decode cX7_group4e 109 = .ok (.if_icmp .ne 49, 3) := by decide +kernel
theorem dX7_group4e_112 : decode cX7_group4e 112 = .ok (.aload_n 0, 1) := by decide +kernel
theorem dX7_group4e_113 : decode cX7_group4e 113 = .ok (.invokevirtual 177, 3) := by decide +kernel
theorem dX7_group4e_116 : decode cX7_group4e 116 = .ok (.ifCond .ne 21, 3) := by decide +kernel
theorem dX7_group4e_119 : decode cX7_group4e 119 = .ok (.iload_n 3, 1) := by decide +kernel
theorem dX7_group4e_120 : decode cX7_group4e 120 = .ok (.ifCond .eq 17, 3) := by decide +kernel
theorem dX7_group4e_123 : decode cX7_group4e 123 = .ok (.aload_n 0, 1) := by decide +kernel
theorem dX7_group4e_124 : decode cX7_group4e 124 = .ok (.iload_n 2, 1) := by decide +kernel
theorem dX7_group4e_125 : decode cX7_group4e 125 = .ok (.aload_n 0, 1) := by decide +kernel
theorem dX7_group4e_126 : decode cX7_group4e 126 = .ok (.getfield 19, 3) := by decide +kernel
theorem dX7_group4e_129 : decode cX7_group4e 129 = .ok (.iconst 0, 1) := by decide +kernel
theorem dX7_group4e_130 : decode cX7_group4e 130 = .ok (.iaload, 1) := by decide +kernel
theorem dX7_group4e_131 : decode cX7_group4e 131 = .ok (.invokevirtual 74, 3) := by decide +kernel
theorem dX7_group4e_134 : decode cX7_group4e 134 = .ok (.goto 111, 3) := by decide +kernel
theorem dX7_group4e_137 : decode cX7_group4e 137 = .ok (.aload_n 0, 1) := by decide +kernel
theorem dX7_group4e_138 : decode cX7_group4e 138 = .ok (.getfield 100, 3) := by decide +kernel
theorem dX7_group4e_141 : decode cX7_group4e 141 = .ok (.ifCond .ne 104, 3) := by decide +kernel
theorem dX7_group4e_144 : decode cX7_group4e 144 = .ok (.aload_n 0, 1) := by decide +kernel
theorem dX7_group4e_145 : decode cX7_group4e 145 = .ok (.getfield 19, 3) := by decide +kernel
theorem dX7_group4e_148 : decode cX7_group4e 148 = .ok (.iconst 0, 1) := by decide +kernel
theorem dX7_group4e_149 : decode cX7_group4e 149 = .ok (.aload_n 0, 1) := by decide +kernel
theorem dX7_group4e_150 : decode cX7_group4e 150 = .ok (.iload_n 2, 1) := by decide +kernel
theorem dX7_group4e_151 : decode cX7_group4e 151 = .ok (.invokevirtual 70, 3) := by decide +kernel
theorem dX7_group4e_154 : decode cX7_group4e 154 = .ok (.iastore, 1) := by decide +kernel
theorem dX7_group4e_155 : decode cX7_group4e 155 = .ok (.goto 90, 3) := by decide +kernel
theorem dX7_group4e_158 : decode cX7_group4e 158 = .ok (.iload_n 1, 1) := by decide +kernel
theorem dX7_group4e_159 : decode cX7_group4e 159 = .ok (.bipush 7, 2) := by decide +kernel
theorem dX7_group4e_161 : decode cX7_group4e 161 = .ok (.if_icmp .ne 21, 3) := by decide +kernel
theorem dX7_group4e_164 : decode cX7_group4e 164 = .ok (.iload_n 3, 1) := by decide +kernel
theorem dX7_group4e_165 : decode cX7_group4e 165 = .ok (.ifCond .ne 15, 3) := by decide +kernel
theorem dX7_group4e_168 : decode cX7_group4e 168 = .ok (.aload_n 0, 1) := by decide +kernel
theorem dX7_group4e_169 : decode cX7_group4e 169 = .ok (.iload_n 2, 1) := by decide +kernel
theorem dX7_group4e_170 : decode cX7_group4e 170 = .ok (.invokevirtual 251, 3) := by decide +kernel
theorem dX7_group4e_173 : decode cX7_group4e 173 = .ok (.ifCond .eq 7, 3) := by decide +kernel
theorem dX7_group4e_176 : decode cX7_group4e 176 = .ok (.iconst 1, 1) := by decide +kernel
theorem dX7_group4e_177 : decode cX7_group4e 177 = .ok (.goto 4, 3) := by decide +kernel
theorem dX7_group4e_180 : decode cX7_group4e 180 = .ok (.iconst 0, 1) := by decide +kernel
theorem dX7_group4e_181 : decode cX7_group4e 181 = .ok (.ireturn, 1) := by decide +kernel
theorem dX7_group4e_182 : decode cX7_group4e 182 = .ok (.iload_n 1, 1) := by decide +kernel
theorem dX7_group4e_183 : decode cX7_group4e 183 = .ok (.bipush 7, 2) := by decide +kernel
theorem dX7_group4e_185 : decode cX7_group4e 185 = .ok (.if_icmp .le 58, 3) := by decide +kernel
theorem dX7_group4e_188 : decode cX7_group4e 188 = .ok (.aload_n 0, 1) := by decide +kernel
theorem dX7_group4e_189 : decode cX7_group4e 189 = .ok (.getfield 174, 3) := by decide +kernel
theorem dX7_group4e_192 : decode cX7_group4e 192 = .ok (.bipush 63, 2) := by decide +kernel
theorem dX7_group4e_194 : decode cX7_group4e 194 = .ok (.iand, 1) := by decide +kernel
theorem dX7_group4e_195 : decode cX7_group4e 195 = .ok (.iconst 3, 1) := by decide +kernel
theorem dX7_group4e_196 : decode cX7_group4e 196 = .ok (.iconst 4, 1) := by decide +kernel
theorem dX7_group4e_197 : decode cX7_group4e 197 = .ok (.invokestatic 188, 3) := by decide +kernel
theorem dX7_group4e_200 : decode cX7_group4e 200 = .ok (.ifCond .ne 5, 3) := by decide +kernel
theorem dX7_group4e_203 : decode cX7_group4e 203 = .ok (.iconst 0, 1) := by decide +kernel
theorem dX7_group4e_204 : decode cX7_group4e 204 = .ok (.ireturn, 1) := by decide +kernel
theorem dX7_group4e_205 : decode cX7_group4e 205 = .ok (.aload_n 0, 1) := by decide +kernel
theorem dX7_group4e_206 : decode cX7_group4e 206 = .ok (.aload_n 0, 1) := by decide +kernel
theorem dX7_group4e_207 : decode cX7_group4e 207 = .ok (.getfield 174, 3) := by decide +kernel
theorem dX7_group4e_210 : decode cX7_group4e 210 = .ok (.bipush 63, 2) := by decide +kernel
theorem dX7_group4e_212 : decode cX7_group4e 212 = .ok (.iand, 1) := by decide +kernel
theorem dX7_group4e_213 : decode cX7_group4e 213 = .ok (.iconst 4, 1) := by decide +kernel
theorem dX7_group4e_214 : decode cX7_group4e 214 = .ok (.invokevirtual 192, 3) := by decide +kernel
theorem dX7_group4e_217 : decode cX7_group4e 217 = .ok (.iload_n 1, 1) := by decide +kernel
theorem dX7_group4e_218 : decode cX7_group4e 218 = .ok (.bipush 12, 2) := by decide +kernel
theorem dX7_group4e_220 : decode cX7_group4e 220 = .ok (.if_icmp .ge 12, 3) := by decide +kernel
theorem dX7_group4e_223 : decode cX7_group4e 223 = .ok (.aload_n 0, 1) := by decide +kernel
theorem dX7_group4e_224 : decode cX7_group4e 224 = .ok (.aload_n 0, 1) := by decide +kernel
theorem dX7_group4e_225 : decode cX7_group4e 225 = .ok (.getfield 47, 3) := by decide +kernel
theorem dX7_group4e_228 : decode cX7_group4e 228 = .ok (.iconst 4, 1) := by decide +kernel
theorem dX7_group4e_229 : decode cX7_group4e 229 = .ok (.invokevirtual 230, 3) := by decide +kernel
theorem dX7_group4e_232 : decode cX7_group4e 232 = .ok (.aload_n 0, 1) := by decide +kernel
theorem dX7_group4e_233 : decode cX7_group4e 233 = .ok (.aload_n 0, 1) := by decide +kernel
theorem dX7_group4e_234 : decode cX7_group4e 234 = .ok (.getfield 135, 3) := by decide +kernel
theorem dX7_group4e_237 : decode cX7_group4e 237 = .ok (.putfield 47, 3) := by decide +kernel
theorem dX7_group4e_240 : decode cX7_group4e 240 = .ok (.goto 5, 3) := by decide +kernel
theorem dX7_group4e_243 : decode cX7_group4e 243 = .ok (.iconst 0, 1) := by decide +kernel
theorem dX7_group4e_244 : decode cX7_group4e 244 = .ok (.ireturn, 1) := by decide +kernel
theorem dX7_group4e_245 : decode cX7_group4e 245 = .ok (.iconst 1, 1) := by decide +kernel
theorem dX7_group4e_246 : decode cX7_group4e 246 = .ok (.ireturn, 1) := by decide +kernel
theorem dX7_checkOrAddress_0 : decode cX7_checkOrAddress 0 = .ok (.aload_n 0, 1) := by decide +kernel
theorem dX7_checkOrAddress_1 : decode cX7_checkOrAddress 1 = .ok (.getfield 174, 3) := by decide +kernel
theorem dX7_checkOrAddress_4 : decode cX7_checkOrAddress 4 = .ok (.bipush 6, 2) := by decide +kernel
theorem dX7_checkOrAddress_6 : decode cX7_checkOrAddress 6 = .ok (.ishr, 1) := by decide +kernel
theorem dX7_checkOrAddress_7 : decode cX7_checkOrAddress 7 = .ok (.iconst 3, 1) := by decide +kernel
theorem dX7_checkOrAddress_8 : decode cX7_checkOrAddress 8 = .ok (.iand, 1) := by decide +kernel
theorem dX7_checkOrAddress_9 : decode cX7_checkOrAddress 9 = .ok (.istore_n 1, 1) := by decide +kernel
theorem dX7_checkOrAddress_10 : decode cX7_checkOrAddress 10 = .ok (.aload_n 0, 1) := by decide +kernel
theorem dX7_checkOrAddress_11 : decode cX7_checkOrAddress 11 = .ok (.getfield 174, 3) := by decide +kernel
theorem dX7_checkOrAddress_14 : decode cX7_checkOrAddress 14 = .ok (.bipush 9, 2) := by decide +kernel
theorem dX7_checkOrAddress_16 : decode cX7_checkOrAddress 16 = .ok (.ishr, 1) := by decide +kernel
theorem dX7_checkOrAddress_17 : decode cX7_checkOrAddress 17 = .ok (.bipush 7, 2) := by decide +kernel
theorem dX7_checkOrAddress_19 : decode cX7_checkOrAddress 19 = .ok (.iand, 1) := by decide +kernel
theorem dX7_checkOrAddress_20 : decode cX7_checkOrAddress 20 = .ok (.istore_n 2, 1) := by decide +kernel
theorem dX7_checkOrAddress_21 : decode cX7_checkOrAddress 21 = .ok (.iload_n 1, 1) := by decide +kernel
theorem dX7_checkOrAddress_22 : decode cX7_checkOrAddress 22 = .ok (.iconst 2, 1) := by decide +kernel
theorem dX7_checkOrAddress_23 : decode cX7_checkOrAddress 23 = .ok (.if_icmp .lt 27, 3) := by decide +kernel
theorem dX7_checkOrAddress_26 : decode cX7_checkOrAddress 26 = .ok (.aload_n 0, 1) := by decide +kernel
theorem dX7_checkOrAddress_27 : decode cX7_checkOrAddress 27 = .ok (.getfield 174, 3) := by decide +kernel
theorem dX7_checkOrAddress_30 : decode cX7_checkOrAddress 30 = .ok (.bipush 63, 2) := by decide +kernel
theorem dX7_checkOrAddress_32 : decode cX7_checkOrAddress 32 = .ok (.iand, 1) := by decide +kernel
theorem dX7_checkOrAddress_33 : decode cX7_checkOrAddress 33 = .ok (.iload_n 1, 1) := by decide +kernel
theorem dX7_checkOrAddress_34 : decode cX7_checkOrAddress 34 = .ok (.iconst 2, 1) := by decide +kernel
theorem dX7_checkOrAddress_35 : decode cX7_checkOrAddress 35 = .ok (.if_icmp .ne 7, 3) := by decide +kernel
theorem dX7_checkOrAddress_38 : decode cX7_checkOrAddress 38 = .ok (.iconst 1, 1) := by decide +kernel
theorem dX7_checkOrAddress_39 : decode cX7_checkOrAddress 39 = .ok (.goto 4, 3) := by decide +kernel
theorem dX7_checkOrAddress_42 : decode cX7_checkOrAddress 42 = .ok (.iconst 3, 1) := by decide +kernel
theorem dX7_checkOrAddress_43 : decode cX7_checkOrAddress 43 = .ok (.iconst 2, 1) := by decide +kernel
theorem dX7_checkOrAddress_44 : decode cX7_checkOrAddress 44 = .ok (.invokestatic 188, 3) := by decide +kernel
theorem dX7_checkOrAddress_47 : decode cX7_checkOrAddress 47 = .ok (.ifCond .ne 5, 3) := by decide +kernel
theorem dX7_checkOrAddress_50 : decode cX7_checkOrAddress 50 = .ok (.iconst 0, 1) := by decide +kernel
theorem dX7_checkOrAddress_51 : decode cX7_checkOrAddress 51 = .ok (.ireturn, 1) := by decide +kernel
theorem dX7_checkOrAddress_52 : decode cX7_checkOrAddress 52 = .ok (.aload_n 0, 1) := by decide +kernel
theorem dX7_checkOrAddress_53 : decode cX7_checkOrAddress 53 = .ok (.aload_n 0, 1) := by decide +kernel
theorem dX7_checkOrAddress_54 : decode cX7_checkOrAddress 54 = .ok (.getfield 174, 3) := by decide +kernel
theorem dX7_checkOrAddress_57 : decode cX7_checkOrAddress 57 = .ok (.bipush 63, 2) := by decide +kernel
theorem dX7_checkOrAddress_59 : decode cX7_checkOrAddress 59 = .ok (.iand, 1) := by decide +kernel
theorem dX7_checkOrAddress_60 : decode cX7_checkOrAddress 60 = .ok (.iconst 2, 1) := by decide +kernel
theorem dX7_checkOrAddress_61 : decode cX7_checkOrAddress 61 = .ok (.invokevirtual 192, 3) := by decide +kernel
theorem dX7_checkOrAddress_64 : decode cX7_checkOrAddress 64 = .ok (.iload_n 1, 1) := by decide +kernel
theorem dX7_checkOrAddress_65 : decode cX7_checkOrAddress 65 = .ok (.iconst 3, 1) := by decide +kernel
theorem dX7_checkOrAddress_66 : decode cX7_checkOrAddress 66 = .ok (.if_icmp .ne 14, 3) := by decide +kernel
theorem dX7_checkOrAddress_69 : decode cX7_checkOrAddress 69 = .ok (.aload_n 0, 1) := by decide +kernel
theorem dX7_checkOrAddress_70 : decode cX7_checkOrAddress 70 = .ok (.iload_n 2, 1) := by decide +kernel
theorem dX7_checkOrAddress_71 : decode cX7_checkOrAddress 71 = .ok (.aload_n 0, 1) := by decide +kernel
theorem dX7_checkOrAddress_72 : decode cX7_checkOrAddress 72 = .ok (.getfield 135, 3) := by decide +kernel
theorem dX7_checkOrAddress_75 : decode cX7_checkOrAddress 75 = .ok (.invokevirtual 74, 3) := by decide +kernel
theorem dX7_checkOrAddress_78 : decode cX7_checkOrAddress 78 = .ok (.iconst 1, 1) := by decide +kernel
theorem dX7_checkOrAddress_79 : decode cX7_checkOrAddress 79 = .ok (.ireturn, 1) := by decide +kernel
theorem dX7_checkOrAddress_80 : decode cX7_checkOrAddress 80 = .ok (.aload_n 0, 1) := by decide +kernel
theorem dX7_checkOrAddress_81 : decode cX7_checkOrAddress 81 = .ok (.iconst 2, 1) := by decide +kernel
theorem dX7_checkOrAddress_82 : decode cX7_checkOrAddress 82 = .ok (.invokevirtual 195, 3) := by decide +kernel
theorem dX7_checkOrAddress_85 : decode cX7_checkOrAddress 85 = .ok (.iconst 2, 1) := by decide +kernel
theorem dX7_checkOrAddress_86 : decode cX7_checkOrAddress 86 = .ok (.invokestatic 157, 3) := by decide +kernel
theorem dX7_checkOrAddress_89 : decode cX7_checkOrAddress 89 = .ok (.istore_n 3, 1) := by decide +kernel
theorem dX7_checkOrAddress_90 : decode cX7_checkOrAddress 90 = .ok (.aload_n 0, 1) := by decide +kernel
theorem dX7_checkOrAddress_91 : decode cX7_checkOrAddress 91 = .ok (.getfield 13, 3) := by decide +kernel
theorem dX7_checkOrAddress_94 : decode cX7_checkOrAddress 94 = .ok (.iload_n 2, 1) := by decide +kernel
theorem dX7_checkOrAddress_95 : decode cX7_checkOrAddress 95 = .ok (.iaload, 1) := by decide +kernel
theorem dX7_checkOrAddress_96 : decode cX7_checkOrAddress 96 = .ok (.iconst 2, 1) := by decide +kernel
theorem dX7_checkOrAddress_97 : decode cX7_checkOrAddress 97 = .ok (.invokestatic 157, 3) := by decide +kernel
theorem dX7_checkOrAddress_100 : decode cX7_checkOrAddress 100 = .ok (.istore 4, 2) := by decide +kernel
