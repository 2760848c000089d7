/-! ===== words of the law and of the constructors ===== -/
theorem tC_L_8 : Cond.classLink RL 8 RX6 ∈ wG := wG_of (inT1 (List.mem_of_getElem? (i := 17) rfl)) rfl
theorem tA_X6 : Cond.instantiable RX6 7 ∈ wG := wG_of (inT1 (List.mem_of_getElem? (i := 18) rfl)) rfl
theorem tM_L_39 : Cond.methodLink RL 39 yX6_init ∈ wG := wG_of (inT1 (List.mem_of_getElem? (i := 19) rfl)) rfl
theorem tI_X6_init : Cond.instanceMethod yX6_init ∈ wG := wG_of (inT1 (List.mem_of_getElem? (i := 20) rfl)) rfl
theorem tK_X6_init : Cond.code yX6_init cX6_init 1 none ∈ wG := wG_of (inT1 (List.mem_of_getElem? (i := 21) rfl)) rfl
theorem tO_X6 : Cond.methodLink RX6 3 objectInit ∈ wG := wG_of (inT1 (List.mem_of_getElem? (i := 22) rfl)) rfl
theorem tC_X6_9 : Cond.classLink RX6 9 RX3 ∈ wG := wG_of (inT1 (List.mem_of_getElem? (i := 25) rfl)) rfl
theorem tA_X3 : Cond.instantiable RX3 1 ∈ wG := wG_of (inT1 (List.mem_of_getElem? (i := 26) rfl)) rfl
theorem tM_X6_11 : Cond.methodLink RX6 11 yX3_init ∈ wG := wG_of (inT1 (List.mem_of_getElem? (i := 27) rfl)) rfl
theorem tI_X3_init : Cond.instanceMethod yX3_init ∈ wG := wG_of (inT1 (List.mem_of_getElem? (i := 28) rfl)) rfl
theorem tK_X3_init : Cond.code yX3_init cX3_init 1 none ∈ wG := wG_of (inT1 (List.mem_of_getElem? (i := 29) rfl)) rfl
theorem tO_X3 : Cond.methodLink RX3 1 objectInit ∈ wG := wG_of (inT1 (List.mem_of_getElem? (i := 30) rfl)) rfl
theorem tC_X6_16 : Cond.classLink RX6 16 RX4 ∈ wG := wG_of (inT1 (List.mem_of_getElem? (i := 36) rfl)) rfl
theorem tA_X4 : Cond.instantiable RX4 6 ∈ wG := wG_of (inT1 (List.mem_of_getElem? (i := 37) rfl)) rfl
theorem tM_X6_18 : Cond.methodLink RX6 18 yX4_init ∈ wG := wG_of (inT1 (List.mem_of_getElem? (i := 38) rfl)) rfl
theorem tI_X4_init : Cond.instanceMethod yX4_init ∈ wG := wG_of (inT1 (List.mem_of_getElem? (i := 39) rfl)) rfl
theorem tK_X4_init : Cond.code yX4_init cX4_init 1 none ∈ wG := wG_of (inT1 (List.mem_of_getElem? (i := 40) rfl)) rfl
theorem tO_X4 : Cond.methodLink RX4 3 objectInit ∈ wG := wG_of (inT1 (List.mem_of_getElem? (i := 41) rfl)) rfl
theorem tC_X6_23 : Cond.classLink RX6 23 RX0 ∈ wG := wG_of (inT1 (List.mem_of_getElem? (i := 68) rfl)) rfl
theorem tA_X0 : Cond.instantiable RX0 4 ∈ wG := wG_of (inT1 (List.mem_of_getElem? (i := 69) rfl)) rfl
theorem tM_X6_25 : Cond.methodLink RX6 25 yX0_init ∈ wG := wG_of (inT1 (List.mem_of_getElem? (i := 70) rfl)) rfl
theorem tI_X0_init : Cond.instanceMethod yX0_init ∈ wG := wG_of (inT1 (List.mem_of_getElem? (i := 71) rfl)) rfl
theorem tK_X0_init : Cond.code yX0_init cX0_init 3 none ∈ wG := wG_of (inT1 (List.mem_of_getElem? (i := 72) rfl)) rfl
theorem tO_X0 : Cond.methodLink RX0 3 objectInit ∈ wG := wG_of (inT1 (List.mem_of_getElem? (i := 73) rfl)) rfl
theorem tC_X6_32 : Cond.classLink RX6 32 RX2 ∈ wG := wG_of (inT1 (List.mem_of_getElem? (i := 89) rfl)) rfl
theorem tA_X2 : Cond.instantiable RX2 4 ∈ wG := wG_of (inT1 (List.mem_of_getElem? (i := 90) rfl)) rfl
theorem tM_X6_34 : Cond.methodLink RX6 34 yX2_init ∈ wG := wG_of (inT1 (List.mem_of_getElem? (i := 91) rfl)) rfl
theorem tI_X2_init : Cond.instanceMethod yX2_init ∈ wG := wG_of (inT1 (List.mem_of_getElem? (i := 92) rfl)) rfl
theorem tK_X2_init : Cond.code yX2_init cX2_init 3 none ∈ wG := wG_of (inT1 (List.mem_of_getElem? (i := 93) rfl)) rfl
theorem tO_X2 : Cond.methodLink RX2 3 objectInit ∈ wG := wG_of (inT1 (List.mem_of_getElem? (i := 94) rfl)) rfl
theorem tC_X2_19 : Cond.classLink RX2 19 RX1 ∈ wG := wG_of (inT1 (List.mem_of_getElem? (i := 95) rfl)) rfl
theorem tA_X1 : Cond.instantiable RX1 1 ∈ wG := wG_of (inT1 (List.mem_of_getElem? (i := 96) rfl)) rfl
theorem tM_X2_21 : Cond.methodLink RX2 21 yX1_init ∈ wG := wG_of (inT1 (List.mem_of_getElem? (i := 97) rfl)) rfl
theorem tI_X1_init : Cond.instanceMethod yX1_init ∈ wG := wG_of (inT1 (List.mem_of_getElem? (i := 98) rfl)) rfl
theorem tK_X1_init : Cond.code yX1_init cX1_init 2 none ∈ wG := wG_of (inT1 (List.mem_of_getElem? (i := 99) rfl)) rfl
theorem tO_X1 : Cond.methodLink RX1 3 objectInit ∈ wG := wG_of (inT1 (List.mem_of_getElem? (i := 100) rfl)) rfl
theorem tM_L_43 : Cond.methodLink RL 43 yX6_reset ∈ wG := wG_of (inT1 (List.mem_of_getElem? (i := 140) rfl)) rfl
theorem tM_L_76 : Cond.methodLink RL 76 yX6_state ∈ wG := wG_of (inT1 (List.mem_of_getElem? (i := 152) rfl)) rfl
theorem tM_L_83 : Cond.methodLink RL 83 yX6_sum ∈ wG := wG_of (inT1 (List.mem_of_getElem? (i := 156) rfl)) rfl
theorem tM_L_47 : Cond.methodLink RL 47 yL_register ∈ wG := wG_of (inT1 (List.mem_of_getElem? (i := 164) rfl)) rfl
theorem tT_L_register : Cond.static yL_register ∈ wG := wG_of (inT1 (List.mem_of_getElem? (i := 165) rfl)) rfl
theorem tC_L_13 : Cond.classLink RL 13 "java/lang/IndexOutOfBoundsException" ∈ wG := wG_of (inT1 (List.mem_of_getElem? (i := 167) rfl)) rfl
theorem tM_L_7 : Cond.methodLink RL 7 yX6_register ∈ wG := wG_of (inT1 (List.mem_of_getElem? (i := 168) rfl)) rfl
theorem tC_X6_61 : Cond.classLink RX6 61 "java/lang/IndexOutOfBoundsException" ∈ wG := wG_of (inT1 (List.mem_of_getElem? (i := 172) rfl)) rfl
theorem tM_L_57 : Cond.methodLink RL 57 yL_put ∈ wG := wG_of (inT2 (List.mem_of_getElem? (i := 2) rfl)) rfl
theorem tT_L_put : Cond.static yL_put ∈ wG := wG_of (inT2 (List.mem_of_getElem? (i := 3) rfl)) rfl
theorem tM_L_15 : Cond.methodLink RL 15 yX6_put ∈ wG := wG_of (inT2 (List.mem_of_getElem? (i := 5) rfl)) rfl
theorem tM_L_61 : Cond.methodLink RL 61 yL_write ∈ wG := wG_of (inT2 (List.mem_of_getElem? (i := 22) rfl)) rfl
theorem tT_L_write : Cond.static yL_write ∈ wG := wG_of (inT2 (List.mem_of_getElem? (i := 23) rfl)) rfl
theorem tC_L_23 : Cond.classLink RL 23 "java/lang/IllegalArgumentException" ∈ wG := wG_of (inT2 (List.mem_of_getElem? (i := 25) rfl)) rfl
theorem tM_L_19 : Cond.methodLink RL 19 yX6_write ∈ wG := wG_of (inT2 (List.mem_of_getElem? (i := 26) rfl)) rfl
theorem tC_X6_88 : Cond.classLink RX6 88 "java/lang/IllegalArgumentException" ∈ wG := wG_of (inT2 (List.mem_of_getElem? (i := 30) rfl)) rfl
theorem tM_L_65 : Cond.methodLink RL 65 yL_read ∈ wG := wG_of (inT2 (List.mem_of_getElem? (i := 49) rfl)) rfl
theorem tT_L_read : Cond.static yL_read ∈ wG := wG_of (inT2 (List.mem_of_getElem? (i := 50) rfl)) rfl
theorem tM_L_25 : Cond.methodLink RL 25 yX6_read ∈ wG := wG_of (inT2 (List.mem_of_getElem? (i := 52) rfl)) rfl
theorem tM_L_69 : Cond.methodLink RL 69 yL_want ∈ wG := wG_of (inT2 (List.mem_of_getElem? (i := 60) rfl)) rfl
theorem tT_L_want : Cond.static yL_want ∈ wG := wG_of (inT2 (List.mem_of_getElem? (i := 61) rfl)) rfl
theorem tM_L_29 : Cond.methodLink RL 29 yX6_want ∈ wG := wG_of (inT2 (List.mem_of_getElem? (i := 63) rfl)) rfl
theorem tM_L_73 : Cond.methodLink RL 73 yL_step ∈ wG := wG_of (inT2 (List.mem_of_getElem? (i := 67) rfl)) rfl
theorem tT_L_step : Cond.static yL_step ∈ wG := wG_of (inT2 (List.mem_of_getElem? (i := 68) rfl)) rfl
theorem tM_L_33 : Cond.methodLink RL 33 yX6_step ∈ wG := wG_of (inT2 (List.mem_of_getElem? (i := 70) rfl)) rfl
theorem tM_L_80 : Cond.methodLink RL 80 yL_exceptions ∈ wG := wG_of (inT4 (List.mem_of_getElem? (i := 48) rfl)) rfl
theorem tT_L_exceptions : Cond.static yL_exceptions ∈ wG := wG_of (inT4 (List.mem_of_getElem? (i := 49) rfl)) rfl
theorem tM_L_36 : Cond.methodLink RL 36 yX6_exceptions ∈ wG := wG_of (inT4 (List.mem_of_getElem? (i := 51) rfl)) rfl
theorem tC_L_40 : Cond.classLink RL 40 RX7 ∈ wG := wG_of (inT4 (List.mem_of_getElem? (i := 55) rfl)) rfl
theorem tA_X7 : Cond.instantiable RX7 28 ∈ wG := wG_of (inT4 (List.mem_of_getElem? (i := 56) rfl)) rfl
theorem tM_L_42 : Cond.methodLink RL 42 yX7_init ∈ wG := wG_of (inT4 (List.mem_of_getElem? (i := 57) rfl)) rfl
theorem tI_X7_init : Cond.instanceMethod yX7_init ∈ wG := wG_of (inT4 (List.mem_of_getElem? (i := 58) rfl)) rfl
theorem tK_X7_init : Cond.code yX7_init cX7_init 1 none ∈ wG := wG_of (inT4 (List.mem_of_getElem? (i := 59) rfl)) rfl
theorem tO_X7 : Cond.methodLink RX7 1 objectInit ∈ wG := wG_of (inT4 (List.mem_of_getElem? (i := 60) rfl)) rfl
theorem tM_L_53 : Cond.methodLink RL 53 yX7_thrown ∈ wG := wG_of (inT4 (List.mem_of_getElem? (i := 150) rfl)) rfl
theorem tM_L_46 : Cond.methodLink RL 46 yX7_reset ∈ wG := wG_of (inT4 (List.mem_of_getElem? (i := 154) rfl)) rfl
theorem tM_L_52 : Cond.methodLink RL 52 yX7_register ∈ wG := wG_of (inT4 (List.mem_of_getElem? (i := 158) rfl)) rfl
theorem tM_L_60 : Cond.methodLink RL 60 yX7_put ∈ wG := wG_of (inT4 (List.mem_of_getElem? (i := 170) rfl)) rfl
theorem tM_L_64 : Cond.methodLink RL 64 yX7_write ∈ wG := wG_of (inT4 (List.mem_of_getElem? (i := 179) rfl)) rfl
theorem tM_L_68 : Cond.methodLink RL 68 yX7_read ∈ wG := wG_of (inT4 (List.mem_of_getElem? (i := 194) rfl)) rfl
theorem tM_L_86 : Cond.methodLink RL 86 yX7_sum ∈ wG := wG_of (inT4 (List.mem_of_getElem? (i := 206) rfl)) rfl
theorem tM_L_72 : Cond.methodLink RL 72 yX7_want ∈ wG := wG_of (inT4 (List.mem_of_getElem? (i := 210) rfl)) rfl
theorem tM_L_75 : Cond.methodLink RL 75 yX7_step ∈ wG := wG_of (inT4 (List.mem_of_getElem? (i := 214) rfl)) rfl
theorem tM_L_79 : Cond.methodLink RL 79 yX7_state ∈ wG := wG_of (inT6 (List.mem_of_getElem? (i := 4) rfl)) rfl
theorem tM_L_82 : Cond.methodLink RL 82 yX7_exceptions ∈ wG := wG_of (inT6 (List.mem_of_getElem? (i := 8) rfl)) rfl
theorem tI_obj : Cond.instanceMethod objectInit ∈ wG := wG_of (inT1 (List.mem_of_getElem? (i := 23) rfl)) rfl
theorem tK_obj : Cond.code objectInit ⟨#[0xb1]⟩ 1 none ∈ wG := wG_of (inT1 (List.mem_of_getElem? (i := 24) rfl)) rfl
theorem tN_L : Cond.initialized RL ∈ wG := wG_of (inT1 (List.mem_of_getElem? (i := 0) rfl)) rfl
theorem tW_L_register : Cond.codeWith yL_register cL_register 4 (some .int) [(0, 9, 12, 13)] ∈ wG := wG_of (inT1 (List.mem_of_getElem? (i := 166) rfl)) rfl
theorem tW_L_put : Cond.codeWith yL_put cL_put 4 (some .int) [(0, 6, 9, 13)] ∈ wG := wG_of (inT2 (List.mem_of_getElem? (i := 4) rfl)) rfl
theorem tW_L_write : Cond.codeWith yL_write cL_write 5 (some .int) [(0, 7, 10, 23)] ∈ wG := wG_of (inT2 (List.mem_of_getElem? (i := 24) rfl)) rfl
theorem tW_L_read : Cond.codeWith yL_read cL_read 5 (some .int) [(0, 10, 13, 23)] ∈ wG := wG_of (inT2 (List.mem_of_getElem? (i := 51) rfl)) rfl
theorem tW_L_want : Cond.codeWith yL_want cL_want 3 (some .int) [(0, 5, 8, 23)] ∈ wG := wG_of (inT2 (List.mem_of_getElem? (i := 62) rfl)) rfl
theorem tW_L_step : Cond.codeWith yL_step cL_step 4 (some .int) [(0, 9, 12, 23)] ∈ wG := wG_of (inT2 (List.mem_of_getElem? (i := 69) rfl)) rfl
theorem tW_L_exceptions : Cond.codeWith yL_exceptions cL_exceptions 4 (some .int) [(0, 9, 12, 23)] ∈ wG := wG_of (inT4 (List.mem_of_getElem? (i := 50) rfl)) rfl
theorem tc_nIB : Cond.castable nIB nIB ∈ lw_tbl := inT1 (List.mem_of_getElem? (i := 174) rfl)
theorem tc_nIA : Cond.castable nIA nIA ∈ lw_tbl := inT2 (List.mem_of_getElem? (i := 32) rfl)
theorem td_R : Cond.declares (yI0 "java/lang/RuntimeException") ∈ lw_tbl := inT1 (List.mem_of_getElem? (i := 175) rfl)
theorem td_E : Cond.declares (yI0 "java/lang/Exception") ∈ lw_tbl := inT1 (List.mem_of_getElem? (i := 177) rfl)
theorem td_T : Cond.declares (yI0 "java/lang/Throwable") ∈ lw_tbl := inT1 (List.mem_of_getElem? (i := 179) rfl)
theorem tl_U : Cond.laysStatic Bundle.tN "UNASSIGNED_STACK" Bundle.steD ∈ lw_tbl := inT1 (List.mem_of_getElem? (i := 199) rfl)
theorem tl_N : Cond.laysStatic Bundle.tN "SUPPRESSED_SENTINEL" Bundle.listD ∈ lw_tbl := inT1 (List.mem_of_getElem? (i := 201) rfl)
theorem tl_BYTE : Cond.laysStatic "BoardCore$Size" "BYTE" "LBoardCore$Size;" ∈ lw_tbl := inT2 (List.mem_of_getElem? (i := 100) rfl)
theorem tl_WORD : Cond.laysStatic "BoardCore$Size" "WORD" "LBoardCore$Size;" ∈ lw_tbl := inT2 (List.mem_of_getElem? (i := 103) rfl)
theorem tl_LONG : Cond.laysStatic "BoardCore$Size" "LONG" "LBoardCore$Size;" ∈ lw_tbl := inT2 (List.mem_of_getElem? (i := 88) rfl)
theorem tn_T : Cond.initialized Bundle.tN ∈ lw_tbl := inT1 (List.mem_of_getElem? (i := 9) rfl)
theorem tn_S : Cond.initialized "BoardCore$Size" ∈ lw_tbl := inT1 (List.mem_of_getElem? (i := 15) rfl)
theorem ta_byte : Cond.arrayClass .byte ∈ wG := wG_of (by decide +kernel) rfl
theorem ta_int : Cond.arrayClass .int ∈ wG := wG_of (by decide +kernel) rfl
theorem ta_long : Cond.arrayClass .long ∈ wG := wG_of (by decide +kernel) rfl
