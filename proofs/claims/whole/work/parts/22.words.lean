theorem inP1 {q : MethodName × Nat} (h : q ∈ lw_privs_1) : Cond.selects q.1.cls q.1 q.1 ∈ lw_tbl := List.mem_append_left _ (List.mem_map.mpr ⟨q, List.mem_append_left _ (h), rfl⟩)
theorem inP2 {q : MethodName × Nat} (h : q ∈ lw_privs_2) : Cond.selects q.1.cls q.1 q.1 ∈ lw_tbl := List.mem_append_left _ (List.mem_map.mpr ⟨q, List.mem_append_right _ (List.mem_append_left _ (h)), rfl⟩)
theorem inP3 {q : MethodName × Nat} (h : q ∈ lw_privs_3) : Cond.selects q.1.cls q.1 q.1 ∈ lw_tbl := List.mem_append_left _ (List.mem_map.mpr ⟨q, List.mem_append_right _ (List.mem_append_right _ (List.mem_append_left _ (h))), rfl⟩)
theorem inP4 {q : MethodName × Nat} (h : q ∈ lw_privs_4) : Cond.selects q.1.cls q.1 q.1 ∈ lw_tbl := List.mem_append_left _ (List.mem_map.mpr ⟨q, List.mem_append_right _ (List.mem_append_right _ (List.mem_append_right _ (List.mem_append_left _ (h)))), rfl⟩)
theorem inP5 {q : MethodName × Nat} (h : q ∈ lw_privs_5) : Cond.selects q.1.cls q.1 q.1 ∈ lw_tbl := List.mem_append_left _ (List.mem_map.mpr ⟨q, List.mem_append_right _ (List.mem_append_right _ (List.mem_append_right _ (List.mem_append_right _ (List.mem_append_left _ (h))))), rfl⟩)
theorem inP6 {q : MethodName × Nat} (h : q ∈ lw_privs_6) : Cond.selects q.1.cls q.1 q.1 ∈ lw_tbl := List.mem_append_left _ (List.mem_map.mpr ⟨q, List.mem_append_right _ (List.mem_append_right _ (List.mem_append_right _ (List.mem_append_right _ (List.mem_append_right _ (List.mem_append_left _ (h)))))), rfl⟩)
theorem inP7 {q : MethodName × Nat} (h : q ∈ lw_privs_7) : Cond.selects q.1.cls q.1 q.1 ∈ lw_tbl := List.mem_append_left _ (List.mem_map.mpr ⟨q, List.mem_append_right _ (List.mem_append_right _ (List.mem_append_right _ (List.mem_append_right _ (List.mem_append_right _ (List.mem_append_right _ (List.mem_append_left _ (h))))))), rfl⟩)
theorem inP8 {q : MethodName × Nat} (h : q ∈ lw_privs_8) : Cond.selects q.1.cls q.1 q.1 ∈ lw_tbl := List.mem_append_left _ (List.mem_map.mpr ⟨q, List.mem_append_right _ (List.mem_append_right _ (List.mem_append_right _ (List.mem_append_right _ (List.mem_append_right _ (List.mem_append_right _ (List.mem_append_right _ (List.mem_append_left _ (h)))))))), rfl⟩)
theorem inP9 {q : MethodName × Nat} (h : q ∈ lw_privs_9) : Cond.selects q.1.cls q.1 q.1 ∈ lw_tbl := List.mem_append_left _ (List.mem_map.mpr ⟨q, List.mem_append_right _ (List.mem_append_right _ (List.mem_append_right _ (List.mem_append_right _ (List.mem_append_right _ (List.mem_append_right _ (List.mem_append_right _ (List.mem_append_right _ (h)))))))), rfl⟩)
theorem inT1 {w : Cond} (h : w ∈ tables_1_1) : w ∈ lw_tbl := List.mem_append_right _ (List.mem_append_left _ (h))
theorem inT2 {w : Cond} (h : w ∈ tables_1_2) : w ∈ lw_tbl := List.mem_append_right _ (List.mem_append_right _ (List.mem_append_left _ (h)))
theorem inT3 {w : Cond} (h : w ∈ tables_1_3) : w ∈ lw_tbl := List.mem_append_right _ (List.mem_append_right _ (List.mem_append_right _ (List.mem_append_left _ (h))))
theorem inT4 {w : Cond} (h : w ∈ tables_1_4) : w ∈ lw_tbl := List.mem_append_right _ (List.mem_append_right _ (List.mem_append_right _ (List.mem_append_right _ (List.mem_append_left _ (h)))))
theorem inT5 {w : Cond} (h : w ∈ tables_1_5) : w ∈ lw_tbl := List.mem_append_right _ (List.mem_append_right _ (List.mem_append_right _ (List.mem_append_right _ (List.mem_append_right _ (List.mem_append_left _ (h))))))
theorem inT6 {w : Cond} (h : w ∈ tables_1_6) : w ∈ lw_tbl := List.mem_append_right _ (List.mem_append_right _ (List.mem_append_right _ (List.mem_append_right _ (List.mem_append_right _ (List.mem_append_right _ (h))))))
theorem tK_J7_fill7 : Cond.code yJ7_fill_53178 cJ7_fill_53178 4 none ∈ wG := wG_of (inT1 (List.mem_of_getElem? (i := 150) rfl)) rfl
theorem tI_J7_fill7 : Cond.static yJ7_fill_53178 ∈ wG := wG_of (inT1 (List.mem_of_getElem? (i := 149) rfl)) rfl
theorem tN_J7 : Cond.initialized RJ7 ∈ wG := wG_of (inT1 (List.mem_of_getElem? (i := 8) rfl)) rfl
theorem tK_J7_fill9 : Cond.code yJ7_fill_53178 cJ7_fill_53178 4 none ∈ wG := wG_of (inT1 (List.mem_of_getElem? (i := 150) rfl)) rfl
theorem tI_J7_fill9 : Cond.static yJ7_fill_53178 ∈ wG := wG_of (inT1 (List.mem_of_getElem? (i := 149) rfl)) rfl
theorem tF_X4_9 : Cond.fieldLink RX4 9 "BoardCore$Registers" "now" "[I" ∈ wG := wG_of (inT1 (List.mem_of_getElem? (i := 42) rfl)) rfl
theorem tM_X4_25 : Cond.methodLink RX4 25 yJ7_fill_53178 ∈ wG := wG_of (inT1 (List.mem_of_getElem? (i := 148) rfl)) rfl
theorem tF_X4_18 : Cond.fieldLink RX4 18 "BoardCore$Registers" "pc" "I" ∈ wG := wG_of (inT1 (List.mem_of_getElem? (i := 44) rfl)) rfl
theorem tF_X4_22 : Cond.fieldLink RX4 22 "BoardCore$Registers" "sr" "I" ∈ wG := wG_of (inT1 (List.mem_of_getElem? (i := 48) rfl)) rfl
theorem tK_X4_clear : Cond.code yX4_clear cX4_clear 1 none ∈ wG := wG_of (inT1 (List.mem_of_getElem? (i := 147) rfl)) rfl
theorem tI_X4_clear : Cond.instanceMethod yX4_clear ∈ wG := wG_of (inT1 (List.mem_of_getElem? (i := 145) rfl)) rfl
theorem tN_X4 : Cond.initialized RX4 ∈ wG := wG_of (inT1 (List.mem_of_getElem? (i := 3) rfl)) rfl
theorem tS_X4_clear : Cond.selects RX4 yX4_clear yX4_clear ∈ wG := wG_of (inT1 (List.mem_of_getElem? (i := 146) rfl)) rfl
theorem tF_X6_19 : Cond.fieldLink RX6 19 "BoardCore" "registers" "LBoardCore$Registers;" ∈ wG := wG_of (inT1 (List.mem_of_getElem? (i := 119) rfl)) rfl
theorem tM_X6_52 : Cond.methodLink RX6 52 yX4_clear ∈ wG := wG_of (inT1 (List.mem_of_getElem? (i := 144) rfl)) rfl
theorem tF_X6_41 : Cond.fieldLink RX6 41 "BoardCore" "counts" "[I" ∈ wG := wG_of (inT1 (List.mem_of_getElem? (i := 122) rfl)) rfl
theorem tM_X6_55 : Cond.methodLink RX6 55 yJ7_fill_53178 ∈ wG := wG_of (inT1 (List.mem_of_getElem? (i := 151) rfl)) rfl
theorem tF_X6_45 : Cond.fieldLink RX6 45 "BoardCore" "wanted" "I" ∈ wG := wG_of (inT1 (List.mem_of_getElem? (i := 123) rfl)) rfl
theorem tF_X6_49 : Cond.fieldLink RX6 49 "BoardCore" "phase" "I" ∈ wG := wG_of (inT1 (List.mem_of_getElem? (i := 124) rfl)) rfl
theorem tK_X6_reset : Cond.code yX6_reset cX6_reset 1 none ∈ wG := wG_of (inT1 (List.mem_of_getElem? (i := 143) rfl)) rfl
theorem tI_X6_reset : Cond.instanceMethod yX6_reset ∈ wG := wG_of (inT1 (List.mem_of_getElem? (i := 141) rfl)) rfl
theorem tN_X6 : Cond.initialized RX6 ∈ wG := wG_of (inT1 (List.mem_of_getElem? (i := 1) rfl)) rfl
theorem tS_X6_reset : Cond.selects RX6 yX6_reset yX6_reset ∈ wG := wG_of (inT1 (List.mem_of_getElem? (i := 142) rfl)) rfl
theorem tK_X4_stackOf : Cond.code yX4_stackOf cX4_stackOf 2 (some .int) ∈ wG := wG_of (inT1 (List.mem_of_getElem? (i := 237) rfl)) rfl
theorem tI_X4_stackOf : Cond.instanceMethod yX4_stackOf ∈ wG := wG_of (inT1 (List.mem_of_getElem? (i := 235) rfl)) rfl
theorem tS_X4_stackOf : Cond.selects RX4 yX4_stackOf yX4_stackOf ∈ wG := wG_of (inT1 (List.mem_of_getElem? (i := 236) rfl)) rfl
theorem tK_X4_get : Cond.code yX4_get cX4_get 2 (some .int) ∈ wG := wG_of (inT2 (List.mem_of_getElem? (i := 1) rfl)) rfl
theorem tI_X4_get : Cond.instanceMethod yX4_get ∈ wG := wG_of (inT1 (List.mem_of_getElem? (i := 239) rfl)) rfl
theorem tS_X4_get : Cond.selects RX4 yX4_get yX4_get ∈ wG := wG_of (inT2 (List.mem_of_getElem? (i := 0) rfl)) rfl
theorem tF_X6_64 : Cond.fieldLink RX6 64 "BoardCore$Registers" "pc" "I" ∈ wG := wG_of (inT1 (List.mem_of_getElem? (i := 45) rfl)) rfl
theorem tF_X6_67 : Cond.fieldLink RX6 67 "BoardCore$Registers" "sr" "I" ∈ wG := wG_of (inT1 (List.mem_of_getElem? (i := 50) rfl)) rfl
theorem tM_X6_70 : Cond.methodLink RX6 70 yX4_stackOf ∈ wG := wG_of (inT1 (List.mem_of_getElem? (i := 234) rfl)) rfl
theorem tM_X6_74 : Cond.methodLink RX6 74 yX4_get ∈ wG := wG_of (inT1 (List.mem_of_getElem? (i := 238) rfl)) rfl
theorem tK_X6_register : Cond.code yX6_register cX6_register 2 (some .int) ∈ wG := wG_of (inT1 (List.mem_of_getElem? (i := 171) rfl)) rfl
theorem tI_X6_register : Cond.instanceMethod yX6_register ∈ wG := wG_of (inT1 (List.mem_of_getElem? (i := 169) rfl)) rfl
theorem tS_X6_register : Cond.selects RX6 yX6_register yX6_register ∈ wG := wG_of (inT1 (List.mem_of_getElem? (i := 170) rfl)) rfl
theorem tC_X4_43 : Cond.constant RX4 43 42783 ∈ wG := wG_of (inT2 (List.mem_of_getElem? (i := 13) rfl)) rfl
theorem tK_X4_setStatus : Cond.code yX4_setStatus cX4_setStatus 3 none ∈ wG := wG_of (inT2 (List.mem_of_getElem? (i := 12) rfl)) rfl
theorem tI_X4_setStatus : Cond.instanceMethod yX4_setStatus ∈ wG := wG_of (inT2 (List.mem_of_getElem? (i := 10) rfl)) rfl
theorem tS_X4_setStatus : Cond.selects RX4 yX4_setStatus yX4_setStatus ∈ wG := wG_of (inT2 (List.mem_of_getElem? (i := 11) rfl)) rfl
theorem tK_X4_setStackOf : Cond.code yX4_setStackOf cX4_setStackOf 3 none ∈ wG := wG_of (inT2 (List.mem_of_getElem? (i := 17) rfl)) rfl
theorem tI_X4_setStackOf : Cond.instanceMethod yX4_setStackOf ∈ wG := wG_of (inT2 (List.mem_of_getElem? (i := 15) rfl)) rfl
theorem tS_X4_setStackOf : Cond.selects RX4 yX4_setStackOf yX4_setStackOf ∈ wG := wG_of (inT2 (List.mem_of_getElem? (i := 16) rfl)) rfl
theorem tK_X4_set : Cond.code yX4_set cX4_set 3 none ∈ wG := wG_of (inT2 (List.mem_of_getElem? (i := 21) rfl)) rfl
theorem tI_X4_set : Cond.instanceMethod yX4_set ∈ wG := wG_of (inT2 (List.mem_of_getElem? (i := 19) rfl)) rfl
theorem tS_X4_set : Cond.selects RX4 yX4_set yX4_set ∈ wG := wG_of (inT2 (List.mem_of_getElem? (i := 20) rfl)) rfl
theorem tM_X6_77 : Cond.methodLink RX6 77 yX4_setStatus ∈ wG := wG_of (inT2 (List.mem_of_getElem? (i := 9) rfl)) rfl
theorem tM_X6_81 : Cond.methodLink RX6 81 yX4_setStackOf ∈ wG := wG_of (inT2 (List.mem_of_getElem? (i := 14) rfl)) rfl
theorem tM_X6_85 : Cond.methodLink RX6 85 yX4_set ∈ wG := wG_of (inT2 (List.mem_of_getElem? (i := 18) rfl)) rfl
theorem tK_X6_put : Cond.code yX6_put cX6_put 3 none ∈ wG := wG_of (inT2 (List.mem_of_getElem? (i := 8) rfl)) rfl
theorem tI_X6_put : Cond.instanceMethod yX6_put ∈ wG := wG_of (inT2 (List.mem_of_getElem? (i := 6) rfl)) rfl
theorem tS_X6_put : Cond.selects RX6 yX6_put yX6_put ∈ wG := wG_of (inT2 (List.mem_of_getElem? (i := 7) rfl)) rfl
theorem tF_X3_9 : Cond.fieldLink RX3 9 "BoardCore$Memory" "cells" "[B" ∈ wG := wG_of (inT1 (List.mem_of_getElem? (i := 31) rfl)) rfl
theorem tK_X3_store : Cond.code yX3_store cX3_store 6 none ∈ wG := wG_of (inT2 (List.mem_of_getElem? (i := 48) rfl)) rfl
theorem tI_X3_store : Cond.instanceMethod yX3_store ∈ wG := wG_of (inT2 (List.mem_of_getElem? (i := 46) rfl)) rfl
theorem tN_X3 : Cond.initialized RX3 ∈ wG := wG_of (inT1 (List.mem_of_getElem? (i := 2) rfl)) rfl
theorem tS_X3_store : Cond.selects RX3 yX3_store yX3_store ∈ wG := wG_of (inT2 (List.mem_of_getElem? (i := 47) rfl)) rfl
theorem tF_X6_12 : Cond.fieldLink RX6 12 "BoardCore" "memory" "LBoardCore$Memory;" ∈ wG := wG_of (inT1 (List.mem_of_getElem? (i := 118) rfl)) rfl
theorem tM_X6_91 : Cond.methodLink RX6 91 yX3_store ∈ wG := wG_of (inT2 (List.mem_of_getElem? (i := 45) rfl)) rfl
theorem tK_X6_write : Cond.code yX6_write cX6_write 4 none ∈ wG := wG_of (inT2 (List.mem_of_getElem? (i := 29) rfl)) rfl
theorem tI_X6_write : Cond.instanceMethod yX6_write ∈ wG := wG_of (inT2 (List.mem_of_getElem? (i := 27) rfl)) rfl
theorem tS_X6_write : Cond.selects RX6 yX6_write yX6_write ∈ wG := wG_of (inT2 (List.mem_of_getElem? (i := 28) rfl)) rfl
theorem tK_X3_load : Cond.code yX3_load cX3_load 5 (some .int) ∈ wG := wG_of (inT2 (List.mem_of_getElem? (i := 59) rfl)) rfl
theorem tI_X3_load : Cond.instanceMethod yX3_load ∈ wG := wG_of (inT2 (List.mem_of_getElem? (i := 57) rfl)) rfl
theorem tS_X3_load : Cond.selects RX3 yX3_load yX3_load ∈ wG := wG_of (inT2 (List.mem_of_getElem? (i := 58) rfl)) rfl
theorem tM_X6_95 : Cond.methodLink RX6 95 yX3_load ∈ wG := wG_of (inT2 (List.mem_of_getElem? (i := 56) rfl)) rfl
theorem tK_X6_read : Cond.code yX6_read cX6_read 3 (some .int) ∈ wG := wG_of (inT2 (List.mem_of_getElem? (i := 55) rfl)) rfl
theorem tI_X6_read : Cond.instanceMethod yX6_read ∈ wG := wG_of (inT2 (List.mem_of_getElem? (i := 53) rfl)) rfl
theorem tS_X6_read : Cond.selects RX6 yX6_read yX6_read ∈ wG := wG_of (inT2 (List.mem_of_getElem? (i := 54) rfl)) rfl
theorem tK_X6_want : Cond.code yX6_want cX6_want 2 none ∈ wG := wG_of (inT2 (List.mem_of_getElem? (i := 66) rfl)) rfl
theorem tI_X6_want : Cond.instanceMethod yX6_want ∈ wG := wG_of (inT2 (List.mem_of_getElem? (i := 64) rfl)) rfl
theorem tS_X6_want : Cond.selects RX6 yX6_want yX6_want ∈ wG := wG_of (inT2 (List.mem_of_getElem? (i := 65) rfl)) rfl
theorem tF_X0_19 : Cond.fieldLink RX0 19 "BoardCore$Access" "raised" "I" ∈ wG := wG_of (inT1 (List.mem_of_getElem? (i := 76) rfl)) rfl
theorem tF_X0_26 : Cond.fieldLink RX0 26 "BoardCore$Size" "BYTE" "LBoardCore$Size;" ∈ wG := wG_of (inT2 (List.mem_of_getElem? (i := 99) rfl)) rfl
theorem tF_X0_23 : Cond.fieldLink RX0 23 "BoardCore$Access" "oddAddress" "I" ∈ wG := wG_of (inT1 (List.mem_of_getElem? (i := 78) rfl)) rfl
theorem tK_X0_refuses : Cond.code yX0_refuses cX0_refuses 3 (some .boolean) ∈ wG := wG_of (inT2 (List.mem_of_getElem? (i := 98) rfl)) rfl
theorem tI_X0_refuses : Cond.instanceMethod yX0_refuses ∈ wG := wG_of (inT2 (List.mem_of_getElem? (i := 97) rfl)) rfl
theorem tN_X0 : Cond.initialized RX0 ∈ wG := wG_of (inT1 (List.mem_of_getElem? (i := 4) rfl)) rfl
theorem tS_X0_refuses : Cond.selects RX0 yX0_refuses yX0_refuses ∈ wG := wG_of (inP1 (q := (⟨"BoardCore$Access", "refuses", "(LBoardCore$Size;I)Z"⟩, 4)) (List.mem_of_getElem? (i := 4) rfl)) rfl
theorem tF_X0_15 : Cond.fieldLink RX0 15 "BoardCore$Access" "registers" "LBoardCore$Registers;" ∈ wG := wG_of (inT1 (List.mem_of_getElem? (i := 75) rfl)) rfl
theorem tM_X0_67 : Cond.methodLink RX0 67 yX4_get ∈ wG := wG_of (inT2 (List.mem_of_getElem? (i := 93) rfl)) rfl
theorem tF_X0_92 : Cond.fieldLink RX0 92 "BoardCore$Size" "bytes" "I" ∈ wG := wG_of (inT6 (List.mem_of_getElem? (i := 14) rfl)) rfl
theorem tM_X0_85 : Cond.methodLink RX0 85 yX4_set ∈ wG := wG_of (inT2 (List.mem_of_getElem? (i := 94) rfl)) rfl
theorem tM_X0_40 : Cond.methodLink RX0 40 yX0_refuses ∈ wG := wG_of (inT2 (List.mem_of_getElem? (i := 95) rfl)) rfl
theorem tF_X0_9 : Cond.fieldLink RX0 9 "BoardCore$Access" "memory" "LBoardCore$Memory;" ∈ wG := wG_of (inT1 (List.mem_of_getElem? (i := 74) rfl)) rfl
theorem tM_X0_102 : Cond.methodLink RX0 102 yX3_store ∈ wG := wG_of (inT2 (List.mem_of_getElem? (i := 101) rfl)) rfl
theorem tK_X0_push : Cond.code yX0_push cX0_push 4 none ∈ wG := wG_of (inT2 (List.mem_of_getElem? (i := 92) rfl)) rfl
theorem tI_X0_push : Cond.instanceMethod yX0_push ∈ wG := wG_of (inT2 (List.mem_of_getElem? (i := 90) rfl)) rfl
theorem tS_X0_push : Cond.selects RX0 yX0_push yX0_push ∈ wG := wG_of (inT2 (List.mem_of_getElem? (i := 91) rfl)) rfl
theorem tC_X6_155 : Cond.constant RX6 155 (-32769 : Int32) ∈ wG := wG_of (inT2 (List.mem_of_getElem? (i := 86) rfl)) rfl
theorem tF_X6_28 : Cond.fieldLink RX6 28 "BoardCore" "access" "LBoardCore$Access;" ∈ wG := wG_of (inT1 (List.mem_of_getElem? (i := 120) rfl)) rfl
theorem tF_X6_156 : Cond.fieldLink RX6 156 "BoardCore$Size" "LONG" "LBoardCore$Size;" ∈ wG := wG_of (inT2 (List.mem_of_getElem? (i := 87) rfl)) rfl
theorem tM_X6_162 : Cond.methodLink RX6 162 yX0_push ∈ wG := wG_of (inT2 (List.mem_of_getElem? (i := 89) rfl)) rfl
theorem tF_X6_166 : Cond.fieldLink RX6 166 "BoardCore$Size" "WORD" "LBoardCore$Size;" ∈ wG := wG_of (inT2 (List.mem_of_getElem? (i := 102) rfl)) rfl
theorem tK_X6_enter : Cond.code yX6_enter cX6_enter 3 (some .boolean) ∈ wG := wG_of (inT2 (List.mem_of_getElem? (i := 85) rfl)) rfl
theorem tI_X6_enter : Cond.instanceMethod yX6_enter ∈ wG := wG_of (inT2 (List.mem_of_getElem? (i := 84) rfl)) rfl
theorem tS_X6_enter : Cond.selects RX6 yX6_enter yX6_enter ∈ wG := wG_of (inP1 (q := (⟨"BoardCore", "enter", "(I)Z"⟩, 7)) (List.mem_of_getElem? (i := 3) rfl)) rfl
theorem tK_X6_leaveFor : Cond.code yX6_leaveFor cX6_leaveFor 2 none ∈ wG := wG_of (inT2 (List.mem_of_getElem? (i := 107) rfl)) rfl
theorem tI_X6_leaveFor : Cond.instanceMethod yX6_leaveFor ∈ wG := wG_of (inT2 (List.mem_of_getElem? (i := 106) rfl)) rfl
theorem tS_X6_leaveFor : Cond.selects RX6 yX6_leaveFor yX6_leaveFor ∈ wG := wG_of (inP1 (q := (⟨"BoardCore", "leaveFor", "(I)V"⟩, 7)) (List.mem_of_getElem? (i := 5) rfl)) rfl
theorem tM_X6_131 : Cond.methodLink RX6 131 yX6_enter ∈ wG := wG_of (inT2 (List.mem_of_getElem? (i := 82) rfl)) rfl
theorem tM_X6_134 : Cond.methodLink RX6 134 yX6_leaveFor ∈ wG := wG_of (inT2 (List.mem_of_getElem? (i := 104) rfl)) rfl
theorem tK_X6_interrupt : Cond.code yX6_interrupt cX6_interrupt 2 none ∈ wG := wG_of (inT2 (List.mem_of_getElem? (i := 81) rfl)) rfl
theorem tI_X6_interrupt : Cond.instanceMethod yX6_interrupt ∈ wG := wG_of (inT2 (List.mem_of_getElem? (i := 80) rfl)) rfl
theorem tS_X6_interrupt : Cond.selects RX6 yX6_interrupt yX6_interrupt ∈ wG := wG_of (inP1 (q := (⟨"BoardCore", "interrupt", "()V"⟩, 7)) (List.mem_of_getElem? (i := 2) rfl)) rfl
theorem tK_X4_has : Cond.code yX4_has cX4_has 2 (some .boolean) ∈ wG := wG_of (inT2 (List.mem_of_getElem? (i := 112) rfl)) rfl
theorem tI_X4_has : Cond.instanceMethod yX4_has ∈ wG := wG_of (inT2 (List.mem_of_getElem? (i := 110) rfl)) rfl
theorem tS_X4_has : Cond.selects RX4 yX4_has yX4_has ∈ wG := wG_of (inT2 (List.mem_of_getElem? (i := 111) rfl)) rfl
theorem tF_X4_15 : Cond.fieldLink RX4 15 "BoardCore$Registers" "kept" "[I" ∈ wG := wG_of (inT1 (List.mem_of_getElem? (i := 43) rfl)) rfl
theorem tM_X4_31 : Cond.methodLink RX4 31 arraycopyName ∈ wG := wG_of (inT2 (List.mem_of_getElem? (i := 117) rfl)) rfl
theorem tNat_copy : Cond.native arraycopyName ∈ wG := wG_of (inT2 (List.mem_of_getElem? (i := 119) rfl)) rfl
theorem tSt_copy : Cond.static arraycopyName ∈ wG := wG_of (inT2 (List.mem_of_getElem? (i := 118) rfl)) rfl
theorem tN_System : Cond.initialized "java/lang/System" ∈ wG := wG_of (inT1 (List.mem_of_getElem? (i := 16) rfl)) rfl
theorem tF_X4_37 : Cond.fieldLink RX4 37 "BoardCore$Registers" "keptPc" "I" ∈ wG := wG_of (inT1 (List.mem_of_getElem? (i := 52) rfl)) rfl
theorem tF_X4_40 : Cond.fieldLink RX4 40 "BoardCore$Registers" "keptSr" "I" ∈ wG := wG_of (inT1 (List.mem_of_getElem? (i := 53) rfl)) rfl
theorem tK_X4_keep : Cond.code yX4_keep cX4_keep 1 none ∈ wG := wG_of (inT2 (List.mem_of_getElem? (i := 116) rfl)) rfl
theorem tI_X4_keep : Cond.instanceMethod yX4_keep ∈ wG := wG_of (inT2 (List.mem_of_getElem? (i := 114) rfl)) rfl
theorem tS_X4_keep : Cond.selects RX4 yX4_keep yX4_keep ∈ wG := wG_of (inT2 (List.mem_of_getElem? (i := 115) rfl)) rfl
theorem tF_X0_35 : Cond.fieldLink RX0 35 "BoardCore$Registers" "pc" "I" ∈ wG := wG_of (inT1 (List.mem_of_getElem? (i := 46) rfl)) rfl
theorem tM_X0_48 : Cond.methodLink RX0 48 yX3_load ∈ wG := wG_of (inT2 (List.mem_of_getElem? (i := 129) rfl)) rfl
theorem tK_X0_nextWord : Cond.code yX0_nextWord cX0_nextWord 2 (some .int) ∈ wG := wG_of (inT2 (List.mem_of_getElem? (i := 128) rfl)) rfl
theorem tI_X0_nextWord : Cond.instanceMethod yX0_nextWord ∈ wG := wG_of (inT2 (List.mem_of_getElem? (i := 126) rfl)) rfl
theorem tS_X0_nextWord : Cond.selects RX0 yX0_nextWord yX0_nextWord ∈ wG := wG_of (inT2 (List.mem_of_getElem? (i := 127) rfl)) rfl
theorem tF_X0_32 : Cond.fieldLink RX0 32 "BoardCore$Size" "WORD" "LBoardCore$Size;" ∈ wG := wG_of (inT2 (List.mem_of_getElem? (i := 124) rfl)) rfl
theorem tM_X0_44 : Cond.methodLink RX0 44 yX0_nextWord ∈ wG := wG_of (inT2 (List.mem_of_getElem? (i := 125) rfl)) rfl
theorem tK_X0_firstWord : Cond.code yX0_firstWord cX0_firstWord 1 (some .int) ∈ wG := wG_of (inT2 (List.mem_of_getElem? (i := 123) rfl)) rfl
theorem tI_X0_firstWord : Cond.instanceMethod yX0_firstWord ∈ wG := wG_of (inT2 (List.mem_of_getElem? (i := 121) rfl)) rfl
theorem tS_X0_firstWord : Cond.selects RX0 yX0_firstWord yX0_firstWord ∈ wG := wG_of (inT2 (List.mem_of_getElem? (i := 122) rfl)) rfl
theorem tK_X2_operand : Cond.code yX2_operand cX2_operand 1 (some .int) ∈ wG := wG_of (inT2 (List.mem_of_getElem? (i := 140) rfl)) rfl
theorem tI_X2_operand : Cond.static yX2_operand ∈ wG := wG_of (inT2 (List.mem_of_getElem? (i := 139) rfl)) rfl
theorem tN_X2 : Cond.initialized RX2 ∈ wG := wG_of (inT1 (List.mem_of_getElem? (i := 5) rfl)) rfl
theorem tK_X2_sizeBits : Cond.code yX2_sizeBits cX2_sizeBits 1 (some .int) ∈ wG := wG_of (inT2 (List.mem_of_getElem? (i := 143) rfl)) rfl
theorem tI_X2_sizeBits : Cond.static yX2_sizeBits ∈ wG := wG_of (inT2 (List.mem_of_getElem? (i := 142) rfl)) rfl
theorem tK_X2_upper : Cond.code yX2_upper cX2_upper 1 (some .int) ∈ wG := wG_of (inT2 (List.mem_of_getElem? (i := 146) rfl)) rfl
theorem tI_X2_upper : Cond.static yX2_upper ∈ wG := wG_of (inT2 (List.mem_of_getElem? (i := 145) rfl)) rfl
theorem tK_X2_lower : Cond.code yX2_lower cX2_lower 1 (some .int) ∈ wG := wG_of (inT2 (List.mem_of_getElem? (i := 153) rfl)) rfl
theorem tI_X2_lower : Cond.static yX2_lower ∈ wG := wG_of (inT2 (List.mem_of_getElem? (i := 152) rfl)) rfl
theorem tK_X0_storeAt : Cond.code yX0_storeAt cX0_storeAt 4 none ∈ wG := wG_of (inT2 (List.mem_of_getElem? (i := 162) rfl)) rfl
theorem tI_X0_storeAt : Cond.instanceMethod yX0_storeAt ∈ wG := wG_of (inT2 (List.mem_of_getElem? (i := 160) rfl)) rfl
theorem tS_X0_storeAt : Cond.selects RX0 yX0_storeAt yX0_storeAt ∈ wG := wG_of (inT2 (List.mem_of_getElem? (i := 161) rfl)) rfl
theorem tK_X0_loadAt : Cond.code yX0_loadAt cX0_loadAt 3 (some .int) ∈ wG := wG_of (inT2 (List.mem_of_getElem? (i := 166) rfl)) rfl
theorem tI_X0_loadAt : Cond.instanceMethod yX0_loadAt ∈ wG := wG_of (inT2 (List.mem_of_getElem? (i := 164) rfl)) rfl
theorem tS_X0_loadAt : Cond.selects RX0 yX0_loadAt yX0_loadAt ∈ wG := wG_of (inT2 (List.mem_of_getElem? (i := 165) rfl)) rfl
theorem tF_X2_9 : Cond.fieldLink RX2 9 "BoardCore$Instructions" "registers" "LBoardCore$Registers;" ∈ wG := wG_of (inT1 (List.mem_of_getElem? (i := 105) rfl)) rfl
theorem tM_X2_121 : Cond.methodLink RX2 121 yX2_lower ∈ wG := wG_of (inT2 (List.mem_of_getElem? (i := 151) rfl)) rfl
theorem tM_X2_124 : Cond.methodLink RX2 124 yX4_get ∈ wG := wG_of (inT2 (List.mem_of_getElem? (i := 154) rfl)) rfl
theorem tF_X2_15 : Cond.fieldLink RX2 15 "BoardCore$Instructions" "access" "LBoardCore$Access;" ∈ wG := wG_of (inT1 (List.mem_of_getElem? (i := 106) rfl)) rfl
theorem tM_X2_127 : Cond.methodLink RX2 127 yX0_nextWord ∈ wG := wG_of (inT2 (List.mem_of_getElem? (i := 155) rfl)) rfl
theorem tM_X2_101 : Cond.methodLink RX2 101 yX2_upper ∈ wG := wG_of (inT2 (List.mem_of_getElem? (i := 144) rfl)) rfl
theorem tF_X2_46 : Cond.fieldLink RX2 46 "BoardCore$Size" "LONG" "LBoardCore$Size;" ∈ wG := wG_of (inT2 (List.mem_of_getElem? (i := 157) rfl)) rfl
theorem tF_X2_49 : Cond.fieldLink RX2 49 "BoardCore$Size" "WORD" "LBoardCore$Size;" ∈ wG := wG_of (inT2 (List.mem_of_getElem? (i := 156) rfl)) rfl
theorem tF_X2_131 : Cond.fieldLink RX2 131 "BoardCore$Size" "bytes" "I" ∈ wG := wG_of (inT6 (List.mem_of_getElem? (i := 15) rfl)) rfl
theorem tF_X2_36 : Cond.fieldLink RX2 36 "BoardCore$Size" "BYTE" "LBoardCore$Size;" ∈ wG := wG_of (inT2 (List.mem_of_getElem? (i := 158) rfl)) rfl
theorem tM_X2_139 : Cond.methodLink RX2 139 yX0_loadAt ∈ wG := wG_of (inT2 (List.mem_of_getElem? (i := 163) rfl)) rfl
theorem tM_X2_135 : Cond.methodLink RX2 135 yX0_storeAt ∈ wG := wG_of (inT2 (List.mem_of_getElem? (i := 159) rfl)) rfl
theorem tM_X2_143 : Cond.methodLink RX2 143 yX4_set ∈ wG := wG_of (inT2 (List.mem_of_getElem? (i := 167) rfl)) rfl
theorem tK_X2_movePeripheral : Cond.code yX2_movePeripheral cX2_movePeripheral 8 none ∈ wG := wG_of (inT2 (List.mem_of_getElem? (i := 150) rfl)) rfl
theorem tI_X2_movePeripheral : Cond.instanceMethod yX2_movePeripheral ∈ wG := wG_of (inT2 (List.mem_of_getElem? (i := 149) rfl)) rfl
theorem tS_X2_movePeripheral : Cond.selects RX2 yX2_movePeripheral yX2_movePeripheral ∈ wG := wG_of (inP1 (q := (⟨"BoardCore$Instructions", "movePeripheral", "(I)V"⟩, 4)) (List.mem_of_getElem? (i := 7) rfl)) rfl
theorem tK_X2_isTo : Cond.code yX2_isTo cX2_isTo 1 (some .boolean) ∈ wG := wG_of (inT2 (List.mem_of_getElem? (i := 170) rfl)) rfl
theorem tI_X2_isTo : Cond.static yX2_isTo ∈ wG := wG_of (inT2 (List.mem_of_getElem? (i := 169) rfl)) rfl
theorem tK_X0_kind : Cond.code yX0_kind cX0_kind 2 (some .int) ∈ wG := wG_of (inT2 (List.mem_of_getElem? (i := 181) rfl)) rfl
theorem tI_X0_kind : Cond.static yX0_kind ∈ wG := wG_of (inT2 (List.mem_of_getElem? (i := 180) rfl)) rfl
theorem tK_X0_raise : Cond.code yX0_raise cX0_raise 2 none ∈ wG := wG_of (inT2 (List.mem_of_getElem? (i := 185) rfl)) rfl
theorem tI_X0_raise : Cond.instanceMethod yX0_raise ∈ wG := wG_of (inT2 (List.mem_of_getElem? (i := 183) rfl)) rfl
theorem tS_X0_raise : Cond.selects RX0 yX0_raise yX0_raise ∈ wG := wG_of (inT2 (List.mem_of_getElem? (i := 184) rfl)) rfl
theorem tM_X2_85 : Cond.methodLink RX2 85 yX0_kind ∈ wG := wG_of (inT2 (List.mem_of_getElem? (i := 179) rfl)) rfl
theorem tM_X2_71 : Cond.methodLink RX2 71 yX0_raise ∈ wG := wG_of (inT2 (List.mem_of_getElem? (i := 182) rfl)) rfl
theorem tK_X2_misfits : Cond.code yX2_misfits cX2_misfits 3 (some .boolean) ∈ wG := wG_of (inT2 (List.mem_of_getElem? (i := 178) rfl)) rfl
theorem tI_X2_misfits : Cond.instanceMethod yX2_misfits ∈ wG := wG_of (inT2 (List.mem_of_getElem? (i := 177) rfl)) rfl
theorem tS_X2_misfits : Cond.selects RX2 yX2_misfits yX2_misfits ∈ wG := wG_of (inP1 (q := (⟨"BoardCore$Instructions", "misfits", "(II)Z"⟩, 4)) (List.mem_of_getElem? (i := 9) rfl)) rfl
theorem tC_X0_63 : Cond.constantLong RX0 63 (-1 : Int64) ∈ wG := wG_of (inT2 (List.mem_of_getElem? (i := 194) rfl)) rfl
theorem tK_X0_inRegister : Cond.code yX0_inRegister cX0_inRegister 1 (some .long) ∈ wG := wG_of (inT2 (List.mem_of_getElem? (i := 193) rfl)) rfl
theorem tI_X0_inRegister : Cond.static yX0_inRegister ∈ wG := wG_of (inT2 (List.mem_of_getElem? (i := 192) rfl)) rfl
theorem tC_X0_65 : Cond.constantLong RX0 65 4294967295 ∈ wG := wG_of (inT2 (List.mem_of_getElem? (i := 198) rfl)) rfl
theorem tK_X0_at : Cond.code yX0_at cX0_at 1 (some .long) ∈ wG := wG_of (inT2 (List.mem_of_getElem? (i := 197) rfl)) rfl
theorem tI_X0_at : Cond.static yX0_at ∈ wG := wG_of (inT2 (List.mem_of_getElem? (i := 196) rfl)) rfl
theorem tK_X0_stride : Cond.code yX0_stride cX0_stride 2 (some .int) ∈ wG := wG_of (inT2 (List.mem_of_getElem? (i := 201) rfl)) rfl
theorem tI_X0_stride : Cond.static yX0_stride ∈ wG := wG_of (inT2 (List.mem_of_getElem? (i := 200) rfl)) rfl
theorem tK_X0_indexed : Cond.code yX0_indexed cX0_indexed 4 (some .int) ∈ wG := wG_of (inT2 (List.mem_of_getElem? (i := 205) rfl)) rfl
theorem tI_X0_indexed : Cond.instanceMethod yX0_indexed ∈ wG := wG_of (inT2 (List.mem_of_getElem? (i := 204) rfl)) rfl
theorem tS_X0_indexed : Cond.selects RX0 yX0_indexed yX0_indexed ∈ wG := wG_of (inP1 (q := (⟨"BoardCore$Access", "indexed", "(II)I"⟩, 4)) (List.mem_of_getElem? (i := 10) rfl)) rfl
theorem tK_X0_nextLong : Cond.code yX0_nextLong cX0_nextLong 2 (some .int) ∈ wG := wG_of (inT2 (List.mem_of_getElem? (i := 209) rfl)) rfl
theorem tI_X0_nextLong : Cond.instanceMethod yX0_nextLong ∈ wG := wG_of (inT2 (List.mem_of_getElem? (i := 208) rfl)) rfl
theorem tS_X0_nextLong : Cond.selects RX0 yX0_nextLong yX0_nextLong ∈ wG := wG_of (inP1 (q := (⟨"BoardCore$Access", "nextLong", "()I"⟩, 4)) (List.mem_of_getElem? (i := 11) rfl)) rfl
theorem tM_X0_71 : Cond.methodLink RX0 71 yX0_kind ∈ wG := wG_of (inT2 (List.mem_of_getElem? (i := 190) rfl)) rfl
theorem tM_X0_74 : Cond.methodLink RX0 74 yX0_inRegister ∈ wG := wG_of (inT2 (List.mem_of_getElem? (i := 191) rfl)) rfl
theorem tM_X0_78 : Cond.methodLink RX0 78 yX0_at ∈ wG := wG_of (inT2 (List.mem_of_getElem? (i := 195) rfl)) rfl
theorem tM_X0_81 : Cond.methodLink RX0 81 yX0_stride ∈ wG := wG_of (inT2 (List.mem_of_getElem? (i := 199) rfl)) rfl
theorem tM_X0_89 : Cond.methodLink RX0 89 yX0_indexed ∈ wG := wG_of (inT2 (List.mem_of_getElem? (i := 202) rfl)) rfl
theorem tM_X0_57 : Cond.methodLink RX0 57 yX0_nextLong ∈ wG := wG_of (inT2 (List.mem_of_getElem? (i := 206) rfl)) rfl
theorem tF_X0_54 : Cond.fieldLink RX0 54 "BoardCore$Size" "LONG" "LBoardCore$Size;" ∈ wG := wG_of (inT2 (List.mem_of_getElem? (i := 210) rfl)) rfl
theorem tK_X0_locate : Cond.code yX0_locate cX0_locate 6 (some .long) ∈ wG := wG_of (inT2 (List.mem_of_getElem? (i := 189) rfl)) rfl
theorem tI_X0_locate : Cond.instanceMethod yX0_locate ∈ wG := wG_of (inT2 (List.mem_of_getElem? (i := 187) rfl)) rfl
theorem tS_X0_locate : Cond.selects RX0 yX0_locate yX0_locate ∈ wG := wG_of (inT2 (List.mem_of_getElem? (i := 188) rfl)) rfl
theorem tM_X0_95 : Cond.methodLink RX0 95 yX0_loadAt ∈ wG := wG_of (inT2 (List.mem_of_getElem? (i := 215) rfl)) rfl
theorem tF_X0_60 : Cond.fieldLink RX0 60 "BoardCore$Size" "mask" "I" ∈ wG := wG_of (inT6 (List.mem_of_getElem? (i := 16) rfl)) rfl
theorem tK_X0_load : Cond.code yX0_load cX0_load 4 (some .int) ∈ wG := wG_of (inT2 (List.mem_of_getElem? (i := 214) rfl)) rfl
theorem tI_X0_load : Cond.instanceMethod yX0_load ∈ wG := wG_of (inT2 (List.mem_of_getElem? (i := 212) rfl)) rfl
theorem tS_X0_load : Cond.selects RX0 yX0_load yX0_load ∈ wG := wG_of (inT2 (List.mem_of_getElem? (i := 213) rfl)) rfl
theorem tK_X4_mark : Cond.code yX4_mark cX4_mark 3 none ∈ wG := wG_of (inT2 (List.mem_of_getElem? (i := 219) rfl)) rfl
theorem tI_X4_mark : Cond.instanceMethod yX4_mark ∈ wG := wG_of (inT2 (List.mem_of_getElem? (i := 217) rfl)) rfl
theorem tS_X4_mark : Cond.selects RX4 yX4_mark yX4_mark ∈ wG := wG_of (inT2 (List.mem_of_getElem? (i := 218) rfl)) rfl
theorem tM_X0_98 : Cond.methodLink RX0 98 yX0_storeAt ∈ wG := wG_of (inT2 (List.mem_of_getElem? (i := 224) rfl)) rfl
theorem tK_X0_store : Cond.code yX0_store cX0_store 6 none ∈ wG := wG_of (inT2 (List.mem_of_getElem? (i := 223) rfl)) rfl
theorem tI_X0_store : Cond.instanceMethod yX0_store ∈ wG := wG_of (inT2 (List.mem_of_getElem? (i := 221) rfl)) rfl
theorem tS_X0_store : Cond.selects RX0 yX0_store yX0_store ∈ wG := wG_of (inT2 (List.mem_of_getElem? (i := 222) rfl)) rfl
theorem tM_X2_95 : Cond.methodLink RX2 95 yX2_operand ∈ wG := wG_of (inT2 (List.mem_of_getElem? (i := 138) rfl)) rfl
theorem tM_X2_146 : Cond.methodLink RX2 146 yX2_misfits ∈ wG := wG_of (inT2 (List.mem_of_getElem? (i := 175) rfl)) rfl
theorem tM_X2_150 : Cond.methodLink RX2 150 yX0_locate ∈ wG := wG_of (inT2 (List.mem_of_getElem? (i := 186) rfl)) rfl
theorem tM_X2_154 : Cond.methodLink RX2 154 yX0_load ∈ wG := wG_of (inT2 (List.mem_of_getElem? (i := 211) rfl)) rfl
theorem tM_X2_158 : Cond.methodLink RX2 158 yX4_mark ∈ wG := wG_of (inT2 (List.mem_of_getElem? (i := 216) rfl)) rfl
theorem tM_X2_98 : Cond.methodLink RX2 98 yX2_sizeBits ∈ wG := wG_of (inT2 (List.mem_of_getElem? (i := 141) rfl)) rfl
theorem tM_X2_161 : Cond.methodLink RX2 161 yX0_store ∈ wG := wG_of (inT2 (List.mem_of_getElem? (i := 220) rfl)) rfl
theorem tK_X2_bit : Cond.code yX2_bit cX2_bit 10 none ∈ wG := wG_of (inT2 (List.mem_of_getElem? (i := 174) rfl)) rfl
theorem tI_X2_bit : Cond.instanceMethod yX2_bit ∈ wG := wG_of (inT2 (List.mem_of_getElem? (i := 173) rfl)) rfl
theorem tS_X2_bit : Cond.selects RX2 yX2_bit yX2_bit ∈ wG := wG_of (inP1 (q := (⟨"BoardCore$Instructions", "bit", "(IIZ)V"⟩, 4)) (List.mem_of_getElem? (i := 8) rfl)) rfl
theorem tM_X2_89 : Cond.methodLink RX2 89 yX4_has ∈ wG := wG_of (inT2 (List.mem_of_getElem? (i := 233) rfl)) rfl
theorem tK_X2_permitted : Cond.code yX2_permitted cX2_permitted 1 (some .boolean) ∈ wG := wG_of (inT2 (List.mem_of_getElem? (i := 232) rfl)) rfl
theorem tI_X2_permitted : Cond.instanceMethod yX2_permitted ∈ wG := wG_of (inT2 (List.mem_of_getElem? (i := 231) rfl)) rfl
theorem tS_X2_permitted : Cond.selects RX2 yX2_permitted yX2_permitted ∈ wG := wG_of (inP1 (q := (⟨"BoardCore$Instructions", "permitted", "()Z"⟩, 4)) (List.mem_of_getElem? (i := 13) rfl)) rfl
theorem tK_X4_setFlags : Cond.code yX4_setFlags cX4_setFlags 2 none ∈ wG := wG_of (inT2 (List.mem_of_getElem? (i := 238) rfl)) rfl
theorem tI_X4_setFlags : Cond.instanceMethod yX4_setFlags ∈ wG := wG_of (inT2 (List.mem_of_getElem? (i := 236) rfl)) rfl
theorem tS_X4_setFlags : Cond.selects RX4 yX4_setFlags yX4_setFlags ∈ wG := wG_of (inT2 (List.mem_of_getElem? (i := 237) rfl)) rfl
theorem tF_X2_169 : Cond.fieldLink RX2 169 "BoardCore$Registers" "sr" "I" ∈ wG := wG_of (inT1 (List.mem_of_getElem? (i := 51) rfl)) rfl
theorem tM_X2_175 : Cond.methodLink RX2 175 yX4_setFlags ∈ wG := wG_of (inT2 (List.mem_of_getElem? (i := 235) rfl)) rfl
theorem tM_X2_172 : Cond.methodLink RX2 172 yX4_setStatus ∈ wG := wG_of (inT2 (List.mem_of_getElem? (i := 234) rfl)) rfl
theorem tM_X2_165 : Cond.methodLink RX2 165 yX2_permitted ∈ wG := wG_of (inT2 (List.mem_of_getElem? (i := 229) rfl)) rfl
theorem tK_X2_joinStatus : Cond.code yX2_joinStatus cX2_joinStatus 6 none ∈ wG := wG_of (inT2 (List.mem_of_getElem? (i := 228) rfl)) rfl
theorem tI_X2_joinStatus : Cond.instanceMethod yX2_joinStatus ∈ wG := wG_of (inT2 (List.mem_of_getElem? (i := 227) rfl)) rfl
theorem tS_X2_joinStatus : Cond.selects RX2 yX2_joinStatus yX2_joinStatus ∈ wG := wG_of (inP1 (q := (⟨"BoardCore$Instructions", "joinStatus", "(IZ)V"⟩, 4)) (List.mem_of_getElem? (i := 12) rfl)) rfl
theorem tK_X2_illegal : Cond.code yX2_illegal cX2_illegal 1 none ∈ wG := wG_of (inT3 (List.mem_of_getElem? (i := 6) rfl)) rfl
theorem tI_X2_illegal : Cond.instanceMethod yX2_illegal ∈ wG := wG_of (inT3 (List.mem_of_getElem? (i := 5) rfl)) rfl
theorem tS_X2_illegal : Cond.selects RX2 yX2_illegal yX2_illegal ∈ wG := wG_of (inP1 (q := (⟨"BoardCore$Instructions", "illegal", "()V"⟩, 4)) (List.mem_of_getElem? (i := 15) rfl)) rfl
theorem tF_X5_10 : Cond.fieldLink RX5 10 "BoardCore$Size" "LONG" "LBoardCore$Size;" ∈ wG := wG_of (inT3 (List.mem_of_getElem? (i := 12) rfl)) rfl
theorem tF_X5_7 : Cond.fieldLink RX5 7 "BoardCore$Size" "WORD" "LBoardCore$Size;" ∈ wG := wG_of (inT3 (List.mem_of_getElem? (i := 11) rfl)) rfl
theorem tF_X5_3 : Cond.fieldLink RX5 3 "BoardCore$Size" "BYTE" "LBoardCore$Size;" ∈ wG := wG_of (inT3 (List.mem_of_getElem? (i := 10) rfl)) rfl
theorem tK_X5_of : Cond.code yX5_of cX5_of 1 (some (.object "BoardCore$Size")) ∈ wG := wG_of (inT3 (List.mem_of_getElem? (i := 9) rfl)) rfl
theorem tI_X5_of : Cond.static yX5_of ∈ wG := wG_of (inT3 (List.mem_of_getElem? (i := 8) rfl)) rfl
theorem tN_X5 : Cond.initialized RX5 ∈ wG := wG_of (inT1 (List.mem_of_getElem? (i := 15) rfl)) rfl
theorem tK_X0_immediate : Cond.code yX0_immediate cX0_immediate 2 (some .int) ∈ wG := wG_of (inT3 (List.mem_of_getElem? (i := 16) rfl)) rfl
theorem tI_X0_immediate : Cond.instanceMethod yX0_immediate ∈ wG := wG_of (inT3 (List.mem_of_getElem? (i := 14) rfl)) rfl
theorem tS_X0_immediate : Cond.selects RX0 yX0_immediate yX0_immediate ∈ wG := wG_of (inT3 (List.mem_of_getElem? (i := 15) rfl)) rfl
theorem tF_X5_36 : Cond.fieldLink RX5 36 "BoardCore$Size" "mask" "I" ∈ wG := wG_of (inT6 (List.mem_of_getElem? (i := 17) rfl)) rfl
theorem tC_X5_42 : Cond.constantLong RX5 42 4294967295 ∈ wG := wG_of (inT3 (List.mem_of_getElem? (i := 29) rfl)) rfl
theorem tK_X5_unsigned : Cond.code yX5_unsigned cX5_unsigned 2 (some .long) ∈ wG := wG_of (inT3 (List.mem_of_getElem? (i := 28) rfl)) rfl
theorem tI_X5_unsigned : Cond.instanceMethod yX5_unsigned ∈ wG := wG_of (inT3 (List.mem_of_getElem? (i := 26) rfl)) rfl
theorem tS_X5_unsigned : Cond.selects RX5 yX5_unsigned yX5_unsigned ∈ wG := wG_of (inT3 (List.mem_of_getElem? (i := 27) rfl)) rfl
theorem tF_X1_15 : Cond.fieldLink RX1 15 "BoardCore$Size" "top" "I" ∈ wG := wG_of (inT6 (List.mem_of_getElem? (i := 19) rfl)) rfl
theorem tF_X1_21 : Cond.fieldLink RX1 21 "BoardCore$Size" "mask" "I" ∈ wG := wG_of (inT6 (List.mem_of_getElem? (i := 18) rfl)) rfl
theorem tF_X1_9 : Cond.fieldLink RX1 9 "BoardCore$Arithmetic" "registers" "LBoardCore$Registers;" ∈ wG := wG_of (inT1 (List.mem_of_getElem? (i := 101) rfl)) rfl
theorem tF_X1_24 : Cond.fieldLink RX1 24 "BoardCore$Registers" "sr" "I" ∈ wG := wG_of (inT1 (List.mem_of_getElem? (i := 49) rfl)) rfl
theorem tK_X1_note : Cond.code yX1_note cX1_note 6 none ∈ wG := wG_of (inT3 (List.mem_of_getElem? (i := 33) rfl)) rfl
theorem tI_X1_note : Cond.instanceMethod yX1_note ∈ wG := wG_of (inT3 (List.mem_of_getElem? (i := 32) rfl)) rfl
theorem tN_X1 : Cond.initialized RX1 ∈ wG := wG_of (inT1 (List.mem_of_getElem? (i := 6) rfl)) rfl
theorem tS_X1_note : Cond.selects RX1 yX1_note yX1_note ∈ wG := wG_of (inP2 (q := (⟨"BoardCore$Arithmetic", "note", "(LBoardCore$Size;IZZ)V"⟩, 1)) (List.mem_of_getElem? (i := 1) rfl)) rfl
theorem tM_X1_33 : Cond.methodLink RX1 33 yX5_unsigned ∈ wG := wG_of (inT3 (List.mem_of_getElem? (i := 25) rfl)) rfl
theorem tM_X1_29 : Cond.methodLink RX1 29 yX1_note ∈ wG := wG_of (inT3 (List.mem_of_getElem? (i := 30) rfl)) rfl
theorem tK_X1_subtracted : Cond.code yX1_subtracted cX1_subtracted 8 (some .int) ∈ wG := wG_of (inT3 (List.mem_of_getElem? (i := 24) rfl)) rfl
theorem tI_X1_subtracted : Cond.instanceMethod yX1_subtracted ∈ wG := wG_of (inT3 (List.mem_of_getElem? (i := 23) rfl)) rfl
theorem tS_X1_subtracted : Cond.selects RX1 yX1_subtracted yX1_subtracted ∈ wG := wG_of (inP2 (q := (⟨"BoardCore$Arithmetic", "subtracted", "(LBoardCore$Size;III)I"⟩, 1)) (List.mem_of_getElem? (i := 0) rfl)) rfl
theorem tM_X1_45 : Cond.methodLink RX1 45 yX1_subtracted ∈ wG := wG_of (inT3 (List.mem_of_getElem? (i := 21) rfl)) rfl
theorem tK_X1_compare : Cond.code yX1_compare cX1_compare 4 none ∈ wG := wG_of (inT3 (List.mem_of_getElem? (i := 20) rfl)) rfl
theorem tI_X1_compare : Cond.instanceMethod yX1_compare ∈ wG := wG_of (inT3 (List.mem_of_getElem? (i := 18) rfl)) rfl
theorem tS_X1_compare : Cond.selects RX1 yX1_compare yX1_compare ∈ wG := wG_of (inT3 (List.mem_of_getElem? (i := 19) rfl)) rfl
theorem tK_X1_logic : Cond.code yX1_logic cX1_logic 3 (some .int) ∈ wG := wG_of (inT3 (List.mem_of_getElem? (i := 41) rfl)) rfl
theorem tI_X1_logic : Cond.instanceMethod yX1_logic ∈ wG := wG_of (inT3 (List.mem_of_getElem? (i := 39) rfl)) rfl
theorem tS_X1_logic : Cond.selects RX1 yX1_logic yX1_logic ∈ wG := wG_of (inT3 (List.mem_of_getElem? (i := 40) rfl)) rfl
theorem tM_X1_37 : Cond.methodLink RX1 37 yX4_has ∈ wG := wG_of (inT3 (List.mem_of_getElem? (i := 46) rfl)) rfl
theorem tM_X1_41 : Cond.methodLink RX1 41 yX4_mark ∈ wG := wG_of (inT3 (List.mem_of_getElem? (i := 47) rfl)) rfl
theorem tK_X1_withCarryToX : Cond.code yX1_withCarryToX cX1_withCarryToX 2 (some .int) ∈ wG := wG_of (inT3 (List.mem_of_getElem? (i := 45) rfl)) rfl
theorem tI_X1_withCarryToX : Cond.instanceMethod yX1_withCarryToX ∈ wG := wG_of (inT3 (List.mem_of_getElem? (i := 44) rfl)) rfl
theorem tS_X1_withCarryToX : Cond.selects RX1 yX1_withCarryToX yX1_withCarryToX ∈ wG := wG_of (inP2 (q := (⟨"BoardCore$Arithmetic", "withCarryToX", "(I)I"⟩, 1)) (List.mem_of_getElem? (i := 2) rfl)) rfl
theorem tK_X1_added : Cond.code yX1_added cX1_added 8 (some .int) ∈ wG := wG_of (inT3 (List.mem_of_getElem? (i := 51) rfl)) rfl
theorem tI_X1_added : Cond.instanceMethod yX1_added ∈ wG := wG_of (inT3 (List.mem_of_getElem? (i := 50) rfl)) rfl
theorem tS_X1_added : Cond.selects RX1 yX1_added yX1_added ∈ wG := wG_of (inP2 (q := (⟨"BoardCore$Arithmetic", "added", "(LBoardCore$Size;III)I"⟩, 1)) (List.mem_of_getElem? (i := 3) rfl)) rfl
theorem tM_X1_49 : Cond.methodLink RX1 49 yX1_logic ∈ wG := wG_of (inT3 (List.mem_of_getElem? (i := 38) rfl)) rfl
theorem tM_X1_53 : Cond.methodLink RX1 53 yX1_withCarryToX ∈ wG := wG_of (inT3 (List.mem_of_getElem? (i := 42) rfl)) rfl
theorem tM_X1_57 : Cond.methodLink RX1 57 yX1_added ∈ wG := wG_of (inT3 (List.mem_of_getElem? (i := 48) rfl)) rfl
theorem tK_X1_joined : Cond.code yX1_joined cX1_joined 5 (some .int) ∈ wG := wG_of (inT3 (List.mem_of_getElem? (i := 37) rfl)) rfl
theorem tI_X1_joined : Cond.instanceMethod yX1_joined ∈ wG := wG_of (inT3 (List.mem_of_getElem? (i := 35) rfl)) rfl
theorem tS_X1_joined : Cond.selects RX1 yX1_joined yX1_joined ∈ wG := wG_of (inT3 (List.mem_of_getElem? (i := 36) rfl)) rfl
theorem tM_X2_178 : Cond.methodLink RX2 178 yX2_illegal ∈ wG := wG_of (inT3 (List.mem_of_getElem? (i := 3) rfl)) rfl
theorem tM_X2_181 : Cond.methodLink RX2 181 yX5_of ∈ wG := wG_of (inT3 (List.mem_of_getElem? (i := 7) rfl)) rfl
theorem tM_X2_185 : Cond.methodLink RX2 185 yX0_immediate ∈ wG := wG_of (inT3 (List.mem_of_getElem? (i := 13) rfl)) rfl
theorem tF_X2_24 : Cond.fieldLink RX2 24 "BoardCore$Instructions" "arithmetic" "LBoardCore$Arithmetic;" ∈ wG := wG_of (inT1 (List.mem_of_getElem? (i := 107) rfl)) rfl
theorem tM_X2_192 : Cond.methodLink RX2 192 yX1_joined ∈ wG := wG_of (inT3 (List.mem_of_getElem? (i := 34) rfl)) rfl
theorem tM_X2_189 : Cond.methodLink RX2 189 yX1_compare ∈ wG := wG_of (inT3 (List.mem_of_getElem? (i := 17) rfl)) rfl
theorem tK_X2_joinImmediate : Cond.code yX2_joinImmediate cX2_joinImmediate 8 none ∈ wG := wG_of (inT3 (List.mem_of_getElem? (i := 2) rfl)) rfl
theorem tI_X2_joinImmediate : Cond.instanceMethod yX2_joinImmediate ∈ wG := wG_of (inT3 (List.mem_of_getElem? (i := 1) rfl)) rfl
theorem tS_X2_joinImmediate : Cond.selects RX2 yX2_joinImmediate yX2_joinImmediate ∈ wG := wG_of (inP1 (q := (⟨"BoardCore$Instructions", "joinImmediate", "(I)V"⟩, 4)) (List.mem_of_getElem? (i := 14) rfl)) rfl
theorem tM_X2_107 : Cond.methodLink RX2 107 yX2_isTo ∈ wG := wG_of (inT2 (List.mem_of_getElem? (i := 168) rfl)) rfl
theorem tM_X2_118 : Cond.methodLink RX2 118 yX2_joinImmediate ∈ wG := wG_of (inT2 (List.mem_of_getElem? (i := 239) rfl)) rfl
theorem tM_X2_114 : Cond.methodLink RX2 114 yX2_joinStatus ∈ wG := wG_of (inT2 (List.mem_of_getElem? (i := 225) rfl)) rfl
theorem tM_X2_110 : Cond.methodLink RX2 110 yX2_bit ∈ wG := wG_of (inT2 (List.mem_of_getElem? (i := 171) rfl)) rfl
theorem tM_X2_104 : Cond.methodLink RX2 104 yX2_movePeripheral ∈ wG := wG_of (inT2 (List.mem_of_getElem? (i := 147) rfl)) rfl
theorem tK_X2_lineZero : Cond.code yX2_lineZero cX2_lineZero 4 none ∈ wG := wG_of (inT2 (List.mem_of_getElem? (i := 137) rfl)) rfl
theorem tI_X2_lineZero : Cond.instanceMethod yX2_lineZero ∈ wG := wG_of (inT2 (List.mem_of_getElem? (i := 136) rfl)) rfl
theorem tS_X2_lineZero : Cond.selects RX2 yX2_lineZero yX2_lineZero ∈ wG := wG_of (inP1 (q := (⟨"BoardCore$Instructions", "lineZero", "(I)V"⟩, 4)) (List.mem_of_getElem? (i := 6) rfl)) rfl
theorem tK_X2_ofSize : Cond.code yX2_ofSize cX2_ofSize 2 (some .int) ∈ wG := wG_of (inT3 (List.mem_of_getElem? (i := 58) rfl)) rfl
theorem tI_X2_ofSize : Cond.static yX2_ofSize ∈ wG := wG_of (inT3 (List.mem_of_getElem? (i := 57) rfl)) rfl
theorem tK_X5_extend : Cond.code yX5_extend cX5_extend 2 (some .int) ∈ wG := wG_of (inT3 (List.mem_of_getElem? (i := 62) rfl)) rfl
theorem tI_X5_extend : Cond.instanceMethod yX5_extend ∈ wG := wG_of (inT3 (List.mem_of_getElem? (i := 60) rfl)) rfl
theorem tS_X5_extend : Cond.selects RX5 yX5_extend yX5_extend ∈ wG := wG_of (inT3 (List.mem_of_getElem? (i := 61) rfl)) rfl
theorem tM_X2_196 : Cond.methodLink RX2 196 yX2_ofSize ∈ wG := wG_of (inT3 (List.mem_of_getElem? (i := 56) rfl)) rfl
theorem tM_X2_203 : Cond.methodLink RX2 203 yX1_logic ∈ wG := wG_of (inT3 (List.mem_of_getElem? (i := 63) rfl)) rfl
theorem tM_X2_200 : Cond.methodLink RX2 200 yX5_extend ∈ wG := wG_of (inT3 (List.mem_of_getElem? (i := 59) rfl)) rfl
theorem tK_X2_move : Cond.code yX2_move cX2_move 10 none ∈ wG := wG_of (inT3 (List.mem_of_getElem? (i := 55) rfl)) rfl
theorem tI_X2_move : Cond.instanceMethod yX2_move ∈ wG := wG_of (inT3 (List.mem_of_getElem? (i := 54) rfl)) rfl
theorem tS_X2_move : Cond.selects RX2 yX2_move yX2_move ∈ wG := wG_of (inP2 (q := (⟨"BoardCore$Instructions", "move", "(ILBoardCore$Size;)V"⟩, 4)) (List.mem_of_getElem? (i := 4) rfl)) rfl
theorem tK_X2_check : Cond.code yX2_check cX2_check 4 none ∈ wG := wG_of (inT3 (List.mem_of_getElem? (i := 71) rfl)) rfl
theorem tI_X2_check : Cond.instanceMethod yX2_check ∈ wG := wG_of (inT3 (List.mem_of_getElem? (i := 70) rfl)) rfl
theorem tS_X2_check : Cond.selects RX2 yX2_check yX2_check ∈ wG := wG_of (inP2 (q := (⟨"BoardCore$Instructions", "check", "(I)V"⟩, 4)) (List.mem_of_getElem? (i := 6) rfl)) rfl
theorem tK_X2_loadAddress : Cond.code yX2_loadAddress cX2_loadAddress 2 none ∈ wG := wG_of (inT3 (List.mem_of_getElem? (i := 75) rfl)) rfl
theorem tI_X2_loadAddress : Cond.instanceMethod yX2_loadAddress ∈ wG := wG_of (inT3 (List.mem_of_getElem? (i := 74) rfl)) rfl
theorem tS_X2_loadAddress : Cond.selects RX2 yX2_loadAddress yX2_loadAddress ∈ wG := wG_of (inP2 (q := (⟨"BoardCore$Instructions", "loadAddress", "(I)V"⟩, 4)) (List.mem_of_getElem? (i := 7) rfl)) rfl
theorem tK_X2_moveFromStatus : Cond.code yX2_moveFromStatus cX2_moveFromStatus 2 none ∈ wG := wG_of (inT3 (List.mem_of_getElem? (i := 79) rfl)) rfl
theorem tI_X2_moveFromStatus : Cond.instanceMethod yX2_moveFromStatus ∈ wG := wG_of (inT3 (List.mem_of_getElem? (i := 78) rfl)) rfl
theorem tS_X2_moveFromStatus : Cond.selects RX2 yX2_moveFromStatus yX2_moveFromStatus ∈ wG := wG_of (inP2 (q := (⟨"BoardCore$Instructions", "moveFromStatus", "(I)V"⟩, 4)) (List.mem_of_getElem? (i := 8) rfl)) rfl
theorem tK_X2_moveToStatus : Cond.code yX2_moveToStatus cX2_moveToStatus 4 none ∈ wG := wG_of (inT3 (List.mem_of_getElem? (i := 83) rfl)) rfl
theorem tI_X2_moveToStatus : Cond.instanceMethod yX2_moveToStatus ∈ wG := wG_of (inT3 (List.mem_of_getElem? (i := 82) rfl)) rfl
theorem tS_X2_moveToStatus : Cond.selects RX2 yX2_moveToStatus yX2_moveToStatus ∈ wG := wG_of (inP2 (q := (⟨"BoardCore$Instructions", "moveToStatus", "(I)V"⟩, 4)) (List.mem_of_getElem? (i := 9) rfl)) rfl
theorem tK_X1_xAsNumber : Cond.code yX1_xAsNumber cX1_xAsNumber 1 (some .int) ∈ wG := wG_of (inT3 (List.mem_of_getElem? (i := 95) rfl)) rfl
theorem tI_X1_xAsNumber : Cond.instanceMethod yX1_xAsNumber ∈ wG := wG_of (inT3 (List.mem_of_getElem? (i := 94) rfl)) rfl
theorem tS_X1_xAsNumber : Cond.selects RX1 yX1_xAsNumber yX1_xAsNumber ∈ wG := wG_of (inP2 (q := (⟨"BoardCore$Arithmetic", "xAsNumber", "()I"⟩, 1)) (List.mem_of_getElem? (i := 11) rfl)) rfl
theorem tK_X1_decimal : Cond.code yX1_decimal cX1_decimal 4 (some .int) ∈ wG := wG_of (inT3 (List.mem_of_getElem? (i := 99) rfl)) rfl
theorem tI_X1_decimal : Cond.instanceMethod yX1_decimal ∈ wG := wG_of (inT3 (List.mem_of_getElem? (i := 98) rfl)) rfl
theorem tS_X1_decimal : Cond.selects RX1 yX1_decimal yX1_decimal ∈ wG := wG_of (inP2 (q := (⟨"BoardCore$Arithmetic", "decimal", "(IZ)I"⟩, 1)) (List.mem_of_getElem? (i := 12) rfl)) rfl
theorem tM_X1_60 : Cond.methodLink RX1 60 yX1_xAsNumber ∈ wG := wG_of (inT3 (List.mem_of_getElem? (i := 92) rfl)) rfl
theorem tM_X1_64 : Cond.methodLink RX1 64 yX1_decimal ∈ wG := wG_of (inT3 (List.mem_of_getElem? (i := 96) rfl)) rfl
theorem tK_X1_decimalMinus : Cond.code yX1_decimalMinus cX1_decimalMinus 5 (some .int) ∈ wG := wG_of (inT3 (List.mem_of_getElem? (i := 91) rfl)) rfl
theorem tI_X1_decimalMinus : Cond.instanceMethod yX1_decimalMinus ∈ wG := wG_of (inT3 (List.mem_of_getElem? (i := 89) rfl)) rfl
theorem tS_X1_decimalMinus : Cond.selects RX1 yX1_decimalMinus yX1_decimalMinus ∈ wG := wG_of (inT3 (List.mem_of_getElem? (i := 90) rfl)) rfl
theorem tM_X2_245 : Cond.methodLink RX2 245 yX1_decimalMinus ∈ wG := wG_of (inT3 (List.mem_of_getElem? (i := 88) rfl)) rfl
theorem tK_X2_negateDecimal : Cond.code yX2_negateDecimal cX2_negateDecimal 4 none ∈ wG := wG_of (inT3 (List.mem_of_getElem? (i := 87) rfl)) rfl
theorem tI_X2_negateDecimal : Cond.instanceMethod yX2_negateDecimal ∈ wG := wG_of (inT3 (List.mem_of_getElem? (i := 86) rfl)) rfl
theorem tS_X2_negateDecimal : Cond.selects RX2 yX2_negateDecimal yX2_negateDecimal ∈ wG := wG_of (inP2 (q := (⟨"BoardCore$Instructions", "negateDecimal", "(I)V"⟩, 4)) (List.mem_of_getElem? (i := 10) rfl)) rfl
theorem tM_X2_249 : Cond.methodLink RX2 249 yX0_push ∈ wG := wG_of (inT3 (List.mem_of_getElem? (i := 104) rfl)) rfl
theorem tK_X2_swapOrPushAddress : Cond.code yX2_swapOrPushAddress cX2_swapOrPushAddress 4 none ∈ wG := wG_of (inT3 (List.mem_of_getElem? (i := 103) rfl)) rfl
theorem tI_X2_swapOrPushAddress : Cond.instanceMethod yX2_swapOrPushAddress ∈ wG := wG_of (inT3 (List.mem_of_getElem? (i := 102) rfl)) rfl
theorem tS_X2_swapOrPushAddress : Cond.selects RX2 yX2_swapOrPushAddress yX2_swapOrPushAddress ∈ wG := wG_of (inP2 (q := (⟨"BoardCore$Instructions", "swapOrPushAddress", "(I)V"⟩, 4)) (List.mem_of_getElem? (i := 13) rfl)) rfl
theorem tK_X2_manySize : Cond.code yX2_manySize cX2_manySize 1 (some (.object "BoardCore$Size")) ∈ wG := wG_of (inT3 (List.mem_of_getElem? (i := 111) rfl)) rfl
theorem tI_X2_manySize : Cond.static yX2_manySize ∈ wG := wG_of (inT3 (List.mem_of_getElem? (i := 110) rfl)) rfl
theorem tK_X2_storeDownward : Cond.code yX2_storeDownward cX2_storeDownward 6 none ∈ wG := wG_of (inT3 (List.mem_of_getElem? (i := 116) rfl)) rfl
theorem tI_X2_storeDownward : Cond.instanceMethod yX2_storeDownward ∈ wG := wG_of (inT3 (List.mem_of_getElem? (i := 115) rfl)) rfl
theorem tS_X2_storeDownward : Cond.selects RX2 yX2_storeDownward yX2_storeDownward ∈ wG := wG_of (inP2 (q := (⟨"BoardCore$Instructions", "storeDownward", "(LBoardCore$Size;II)V"⟩, 4)) (List.mem_of_getElem? (i := 15) rfl)) rfl
theorem tK_X2_storeUpward : Cond.code yX2_storeUpward cX2_storeUpward 6 none ∈ wG := wG_of (inT3 (List.mem_of_getElem? (i := 120) rfl)) rfl
theorem tI_X2_storeUpward : Cond.instanceMethod yX2_storeUpward ∈ wG := wG_of (inT3 (List.mem_of_getElem? (i := 119) rfl)) rfl
theorem tS_X2_storeUpward : Cond.selects RX2 yX2_storeUpward yX2_storeUpward ∈ wG := wG_of (inP3 (q := (⟨"BoardCore$Instructions", "storeUpward", "(LBoardCore$Size;II)V"⟩, 4)) (List.mem_of_getElem? (i := 0) rfl)) rfl
theorem tM_X2_253 : Cond.methodLink RX2 253 yX2_manySize ∈ wG := wG_of (inT3 (List.mem_of_getElem? (i := 109) rfl)) rfl
theorem tM_X2_263 : Cond.methodLink RX2 263 yX2_storeUpward ∈ wG := wG_of (inT3 (List.mem_of_getElem? (i := 117) rfl)) rfl
theorem tM_X2_260 : Cond.methodLink RX2 260 yX2_storeDownward ∈ wG := wG_of (inT3 (List.mem_of_getElem? (i := 113) rfl)) rfl
theorem tM_X2_256 : Cond.methodLink RX2 256 yX0_inRegister ∈ wG := wG_of (inT3 (List.mem_of_getElem? (i := 112) rfl)) rfl
theorem tK_X2_extendOrStoreMany : Cond.code yX2_extendOrStoreMany cX2_extendOrStoreMany 5 none ∈ wG := wG_of (inT3 (List.mem_of_getElem? (i := 108) rfl)) rfl
theorem tI_X2_extendOrStoreMany : Cond.instanceMethod yX2_extendOrStoreMany ∈ wG := wG_of (inT3 (List.mem_of_getElem? (i := 107) rfl)) rfl
theorem tS_X2_extendOrStoreMany : Cond.selects RX2 yX2_extendOrStoreMany yX2_extendOrStoreMany ∈ wG := wG_of (inP2 (q := (⟨"BoardCore$Instructions", "extendOrStoreMany", "(I)V"⟩, 4)) (List.mem_of_getElem? (i := 14) rfl)) rfl
theorem tK_X2_testAndSet : Cond.code yX2_testAndSet cX2_testAndSet 5 none ∈ wG := wG_of (inT3 (List.mem_of_getElem? (i := 124) rfl)) rfl
theorem tI_X2_testAndSet : Cond.instanceMethod yX2_testAndSet ∈ wG := wG_of (inT3 (List.mem_of_getElem? (i := 123) rfl)) rfl
theorem tS_X2_testAndSet : Cond.selects RX2 yX2_testAndSet yX2_testAndSet ∈ wG := wG_of (inP3 (q := (⟨"BoardCore$Instructions", "testAndSet", "(I)V"⟩, 4)) (List.mem_of_getElem? (i := 1) rfl)) rfl
theorem tK_X2_loadMany : Cond.code yX2_loadMany cX2_loadMany 8 none ∈ wG := wG_of (inT3 (List.mem_of_getElem? (i := 128) rfl)) rfl
theorem tI_X2_loadMany : Cond.instanceMethod yX2_loadMany ∈ wG := wG_of (inT3 (List.mem_of_getElem? (i := 127) rfl)) rfl
theorem tS_X2_loadMany : Cond.selects RX2 yX2_loadMany yX2_loadMany ∈ wG := wG_of (inP3 (q := (⟨"BoardCore$Instructions", "loadMany", "(I)V"⟩, 4)) (List.mem_of_getElem? (i := 2) rfl)) rfl
theorem tK_X2_link : Cond.code yX2_link cX2_link 3 none ∈ wG := wG_of (inT3 (List.mem_of_getElem? (i := 136) rfl)) rfl
theorem tI_X2_link : Cond.instanceMethod yX2_link ∈ wG := wG_of (inT3 (List.mem_of_getElem? (i := 135) rfl)) rfl
theorem tS_X2_link : Cond.selects RX2 yX2_link yX2_link ∈ wG := wG_of (inP3 (q := (⟨"BoardCore$Instructions", "link", "(I)V"⟩, 4)) (List.mem_of_getElem? (i := 4) rfl)) rfl
theorem tK_X0_pop : Cond.code yX0_pop cX0_pop 3 (some .int) ∈ wG := wG_of (inT3 (List.mem_of_getElem? (i := 144) rfl)) rfl
theorem tI_X0_pop : Cond.instanceMethod yX0_pop ∈ wG := wG_of (inT3 (List.mem_of_getElem? (i := 142) rfl)) rfl
theorem tS_X0_pop : Cond.selects RX0 yX0_pop yX0_pop ∈ wG := wG_of (inT3 (List.mem_of_getElem? (i := 143) rfl)) rfl
theorem tM_X2_281 : Cond.methodLink RX2 281 yX0_pop ∈ wG := wG_of (inT3 (List.mem_of_getElem? (i := 141) rfl)) rfl
theorem tK_X2_unlink : Cond.code yX2_unlink cX2_unlink 2 none ∈ wG := wG_of (inT3 (List.mem_of_getElem? (i := 140) rfl)) rfl
theorem tI_X2_unlink : Cond.instanceMethod yX2_unlink ∈ wG := wG_of (inT3 (List.mem_of_getElem? (i := 139) rfl)) rfl
theorem tS_X2_unlink : Cond.selects RX2 yX2_unlink yX2_unlink ∈ wG := wG_of (inP3 (q := (⟨"BoardCore$Instructions", "unlink", "(I)V"⟩, 4)) (List.mem_of_getElem? (i := 5) rfl)) rfl
theorem tF_X2_28 : Cond.fieldLink RX2 28 "BoardCore$Instructions" "stopping" "Z" ∈ wG := wG_of (inT1 (List.mem_of_getElem? (i := 108) rfl)) rfl
theorem tF_X2_284 : Cond.fieldLink RX2 284 "BoardCore$Registers" "pc" "I" ∈ wG := wG_of (inT1 (List.mem_of_getElem? (i := 47) rfl)) rfl
theorem tK_X2_alone : Cond.code yX2_alone cX2_alone 3 none ∈ wG := wG_of (inT3 (List.mem_of_getElem? (i := 150) rfl)) rfl
theorem tI_X2_alone : Cond.instanceMethod yX2_alone ∈ wG := wG_of (inT3 (List.mem_of_getElem? (i := 149) rfl)) rfl
theorem tS_X2_alone : Cond.selects RX2 yX2_alone yX2_alone ∈ wG := wG_of (inP3 (q := (⟨"BoardCore$Instructions", "alone", "(I)V"⟩, 4)) (List.mem_of_getElem? (i := 6) rfl)) rfl
theorem tM_X2_266 : Cond.methodLink RX2 266 yX2_link ∈ wG := wG_of (inT3 (List.mem_of_getElem? (i := 133) rfl)) rfl
theorem tM_X2_269 : Cond.methodLink RX2 269 yX2_unlink ∈ wG := wG_of (inT3 (List.mem_of_getElem? (i := 137) rfl)) rfl
theorem tM_X2_272 : Cond.methodLink RX2 272 yX4_setStackOf ∈ wG := wG_of (inT3 (List.mem_of_getElem? (i := 145) rfl)) rfl
theorem tM_X2_275 : Cond.methodLink RX2 275 yX4_stackOf ∈ wG := wG_of (inT3 (List.mem_of_getElem? (i := 146) rfl)) rfl
theorem tM_X2_278 : Cond.methodLink RX2 278 yX2_alone ∈ wG := wG_of (inT3 (List.mem_of_getElem? (i := 147) rfl)) rfl
theorem tK_X2_special : Cond.code yX2_special cX2_special 3 none ∈ wG := wG_of (inT3 (List.mem_of_getElem? (i := 132) rfl)) rfl
theorem tI_X2_special : Cond.instanceMethod yX2_special ∈ wG := wG_of (inT3 (List.mem_of_getElem? (i := 131) rfl)) rfl
theorem tS_X2_special : Cond.selects RX2 yX2_special yX2_special ∈ wG := wG_of (inP3 (q := (⟨"BoardCore$Instructions", "special", "(I)V"⟩, 4)) (List.mem_of_getElem? (i := 3) rfl)) rfl
theorem tK_X2_jump : Cond.code yX2_jump cX2_jump 3 none ∈ wG := wG_of (inT3 (List.mem_of_getElem? (i := 154) rfl)) rfl
theorem tI_X2_jump : Cond.instanceMethod yX2_jump ∈ wG := wG_of (inT3 (List.mem_of_getElem? (i := 153) rfl)) rfl
theorem tS_X2_jump : Cond.selects RX2 yX2_jump yX2_jump ∈ wG := wG_of (inP3 (q := (⟨"BoardCore$Instructions", "jump", "(I)V"⟩, 4)) (List.mem_of_getElem? (i := 7) rfl)) rfl
theorem tK_X1_joinedWithX : Cond.code yX1_joinedWithX cX1_joinedWithX 7 (some .int) ∈ wG := wG_of (inT3 (List.mem_of_getElem? (i := 162) rfl)) rfl
theorem tI_X1_joinedWithX : Cond.instanceMethod yX1_joinedWithX ∈ wG := wG_of (inT3 (List.mem_of_getElem? (i := 160) rfl)) rfl
theorem tS_X1_joinedWithX : Cond.selects RX1 yX1_joinedWithX yX1_joinedWithX ∈ wG := wG_of (inT3 (List.mem_of_getElem? (i := 161) rfl)) rfl
theorem tM_X2_242 : Cond.methodLink RX2 242 yX1_joinedWithX ∈ wG := wG_of (inT3 (List.mem_of_getElem? (i := 159) rfl)) rfl
theorem tK_X2_single : Cond.code yX2_single cX2_single 7 none ∈ wG := wG_of (inT3 (List.mem_of_getElem? (i := 158) rfl)) rfl
theorem tI_X2_single : Cond.instanceMethod yX2_single ∈ wG := wG_of (inT3 (List.mem_of_getElem? (i := 157) rfl)) rfl
theorem tS_X2_single : Cond.selects RX2 yX2_single yX2_single ∈ wG := wG_of (inP3 (q := (⟨"BoardCore$Instructions", "single", "(I)V"⟩, 4)) (List.mem_of_getElem? (i := 8) rfl)) rfl
theorem tM_X2_212 : Cond.methodLink RX2 212 yX2_moveFromStatus ∈ wG := wG_of (inT3 (List.mem_of_getElem? (i := 76) rfl)) rfl
theorem tM_X2_206 : Cond.methodLink RX2 206 yX2_check ∈ wG := wG_of (inT3 (List.mem_of_getElem? (i := 68) rfl)) rfl
theorem tM_X2_209 : Cond.methodLink RX2 209 yX2_loadAddress ∈ wG := wG_of (inT3 (List.mem_of_getElem? (i := 72) rfl)) rfl
theorem tM_X2_215 : Cond.methodLink RX2 215 yX2_moveToStatus ∈ wG := wG_of (inT3 (List.mem_of_getElem? (i := 80) rfl)) rfl
theorem tM_X2_218 : Cond.methodLink RX2 218 yX2_negateDecimal ∈ wG := wG_of (inT3 (List.mem_of_getElem? (i := 84) rfl)) rfl
theorem tM_X2_221 : Cond.methodLink RX2 221 yX2_swapOrPushAddress ∈ wG := wG_of (inT3 (List.mem_of_getElem? (i := 100) rfl)) rfl
theorem tM_X2_224 : Cond.methodLink RX2 224 yX2_extendOrStoreMany ∈ wG := wG_of (inT3 (List.mem_of_getElem? (i := 105) rfl)) rfl
theorem tM_X2_227 : Cond.methodLink RX2 227 yX2_testAndSet ∈ wG := wG_of (inT3 (List.mem_of_getElem? (i := 121) rfl)) rfl
theorem tM_X2_230 : Cond.methodLink RX2 230 yX2_loadMany ∈ wG := wG_of (inT3 (List.mem_of_getElem? (i := 125) rfl)) rfl
theorem tM_X2_233 : Cond.methodLink RX2 233 yX2_special ∈ wG := wG_of (inT3 (List.mem_of_getElem? (i := 129) rfl)) rfl
theorem tM_X2_236 : Cond.methodLink RX2 236 yX2_jump ∈ wG := wG_of (inT3 (List.mem_of_getElem? (i := 151) rfl)) rfl
theorem tM_X2_239 : Cond.methodLink RX2 239 yX2_single ∈ wG := wG_of (inT3 (List.mem_of_getElem? (i := 155) rfl)) rfl
theorem tK_X2_lineFour : Cond.code yX2_lineFour cX2_lineFour 2 none ∈ wG := wG_of (inT3 (List.mem_of_getElem? (i := 67) rfl)) rfl
theorem tI_X2_lineFour : Cond.instanceMethod yX2_lineFour ∈ wG := wG_of (inT3 (List.mem_of_getElem? (i := 66) rfl)) rfl
theorem tS_X2_lineFour : Cond.selects RX2 yX2_lineFour yX2_lineFour ∈ wG := wG_of (inP2 (q := (⟨"BoardCore$Instructions", "lineFour", "(I)V"⟩, 4)) (List.mem_of_getElem? (i := 5) rfl)) rfl
theorem tK_X2_quick : Cond.code yX2_quick cX2_quick 7 none ∈ wG := wG_of (inT3 (List.mem_of_getElem? (i := 170) rfl)) rfl
theorem tI_X2_quick : Cond.instanceMethod yX2_quick ∈ wG := wG_of (inT3 (List.mem_of_getElem? (i := 169) rfl)) rfl
theorem tS_X2_quick : Cond.selects RX2 yX2_quick yX2_quick ∈ wG := wG_of (inP3 (q := (⟨"BoardCore$Instructions", "quick", "(I)V"⟩, 4)) (List.mem_of_getElem? (i := 10) rfl)) rfl
theorem tM_X4_44 : Cond.methodLink RX4 44 yX4_has ∈ wG := wG_of (inT3 (List.mem_of_getElem? (i := 179) rfl)) rfl
theorem tK_X4_holds : Cond.code yX4_holds cX4_holds 3 (some .boolean) ∈ wG := wG_of (inT3 (List.mem_of_getElem? (i := 178) rfl)) rfl
theorem tI_X4_holds : Cond.instanceMethod yX4_holds ∈ wG := wG_of (inT3 (List.mem_of_getElem? (i := 176) rfl)) rfl
theorem tS_X4_holds : Cond.selects RX4 yX4_holds yX4_holds ∈ wG := wG_of (inT3 (List.mem_of_getElem? (i := 177) rfl)) rfl
theorem tM_X2_293 : Cond.methodLink RX2 293 yX4_holds ∈ wG := wG_of (inT3 (List.mem_of_getElem? (i := 175) rfl)) rfl
theorem tK_X2_countDown : Cond.code yX2_countDown cX2_countDown 7 none ∈ wG := wG_of (inT3 (List.mem_of_getElem? (i := 174) rfl)) rfl
theorem tI_X2_countDown : Cond.instanceMethod yX2_countDown ∈ wG := wG_of (inT3 (List.mem_of_getElem? (i := 173) rfl)) rfl
theorem tS_X2_countDown : Cond.selects RX2 yX2_countDown yX2_countDown ∈ wG := wG_of (inP3 (q := (⟨"BoardCore$Instructions", "countDown", "(I)V"⟩, 4)) (List.mem_of_getElem? (i := 11) rfl)) rfl
theorem tM_X2_290 : Cond.methodLink RX2 290 yX2_countDown ∈ wG := wG_of (inT3 (List.mem_of_getElem? (i := 171) rfl)) rfl
theorem tM_X2_287 : Cond.methodLink RX2 287 yX2_quick ∈ wG := wG_of (inT3 (List.mem_of_getElem? (i := 167) rfl)) rfl
theorem tK_X2_lineFive : Cond.code yX2_lineFive cX2_lineFive 3 none ∈ wG := wG_of (inT3 (List.mem_of_getElem? (i := 166) rfl)) rfl
theorem tI_X2_lineFive : Cond.instanceMethod yX2_lineFive ∈ wG := wG_of (inT3 (List.mem_of_getElem? (i := 165) rfl)) rfl
theorem tS_X2_lineFive : Cond.selects RX2 yX2_lineFive yX2_lineFive ∈ wG := wG_of (inP3 (q := (⟨"BoardCore$Instructions", "lineFive", "(I)V"⟩, 4)) (List.mem_of_getElem? (i := 9) rfl)) rfl
theorem tK_X2_branch : Cond.code yX2_branch cX2_branch 5 none ∈ wG := wG_of (inT3 (List.mem_of_getElem? (i := 183) rfl)) rfl
theorem tI_X2_branch : Cond.instanceMethod yX2_branch ∈ wG := wG_of (inT3 (List.mem_of_getElem? (i := 182) rfl)) rfl
theorem tS_X2_branch : Cond.selects RX2 yX2_branch yX2_branch ∈ wG := wG_of (inP3 (q := (⟨"BoardCore$Instructions", "branch", "(I)V"⟩, 4)) (List.mem_of_getElem? (i := 12) rfl)) rfl
theorem tK_X2_moveQuick : Cond.code yX2_moveQuick cX2_moveQuick 2 none ∈ wG := wG_of (inT3 (List.mem_of_getElem? (i := 187) rfl)) rfl
theorem tI_X2_moveQuick : Cond.instanceMethod yX2_moveQuick ∈ wG := wG_of (inT3 (List.mem_of_getElem? (i := 186) rfl)) rfl
theorem tS_X2_moveQuick : Cond.selects RX2 yX2_moveQuick yX2_moveQuick ∈ wG := wG_of (inP3 (q := (⟨"BoardCore$Instructions", "moveQuick", "(I)V"⟩, 4)) (List.mem_of_getElem? (i := 13) rfl)) rfl
theorem tM_X2_330 : Cond.methodLink RX2 330 yX5_unsigned ∈ wG := wG_of (inT3 (List.mem_of_getElem? (i := 196) rfl)) rfl
theorem tC_X2_333 : Cond.constantLong RX2 333 65535 ∈ wG := wG_of (inT3 (List.mem_of_getElem? (i := 197) rfl)) rfl
theorem tK_X2_divide : Cond.code yX2_divide cX2_divide 12 none ∈ wG := wG_of (inT3 (List.mem_of_getElem? (i := 195) rfl)) rfl
theorem tI_X2_divide : Cond.instanceMethod yX2_divide ∈ wG := wG_of (inT3 (List.mem_of_getElem? (i := 194) rfl)) rfl
theorem tS_X2_divide : Cond.selects RX2 yX2_divide yX2_divide ∈ wG := wG_of (inP3 (q := (⟨"BoardCore$Instructions", "divide", "(IZ)V"⟩, 4)) (List.mem_of_getElem? (i := 15) rfl)) rfl
theorem tK_X2_pairMode : Cond.code yX2_pairMode cX2_pairMode 1 (some .int) ∈ wG := wG_of (inT3 (List.mem_of_getElem? (i := 204) rfl)) rfl
theorem tI_X2_pairMode : Cond.static yX2_pairMode ∈ wG := wG_of (inT3 (List.mem_of_getElem? (i := 203) rfl)) rfl
theorem tK_X1_decimalPlus : Cond.code yX1_decimalPlus cX1_decimalPlus 5 (some .int) ∈ wG := wG_of (inT3 (List.mem_of_getElem? (i := 208) rfl)) rfl
theorem tI_X1_decimalPlus : Cond.instanceMethod yX1_decimalPlus ∈ wG := wG_of (inT3 (List.mem_of_getElem? (i := 206) rfl)) rfl
theorem tS_X1_decimalPlus : Cond.selects RX1 yX1_decimalPlus yX1_decimalPlus ∈ wG := wG_of (inT3 (List.mem_of_getElem? (i := 207) rfl)) rfl
theorem tM_X2_323 : Cond.methodLink RX2 323 yX2_pairMode ∈ wG := wG_of (inT3 (List.mem_of_getElem? (i := 202) rfl)) rfl
theorem tM_X2_326 : Cond.methodLink RX2 326 yX1_decimalPlus ∈ wG := wG_of (inT3 (List.mem_of_getElem? (i := 205) rfl)) rfl
theorem tK_X2_decimalPair : Cond.code yX2_decimalPair cX2_decimalPair 8 none ∈ wG := wG_of (inT3 (List.mem_of_getElem? (i := 201) rfl)) rfl
theorem tI_X2_decimalPair : Cond.instanceMethod yX2_decimalPair ∈ wG := wG_of (inT3 (List.mem_of_getElem? (i := 200) rfl)) rfl
theorem tS_X2_decimalPair : Cond.selects RX2 yX2_decimalPair yX2_decimalPair ∈ wG := wG_of (inP4 (q := (⟨"BoardCore$Instructions", "decimalPair", "(II)V"⟩, 4)) (List.mem_of_getElem? (i := 0) rfl)) rfl
theorem tK_X2_combine : Cond.code yX2_combine cX2_combine 11 none ∈ wG := wG_of (inT3 (List.mem_of_getElem? (i := 212) rfl)) rfl
theorem tI_X2_combine : Cond.instanceMethod yX2_combine ∈ wG := wG_of (inT3 (List.mem_of_getElem? (i := 211) rfl)) rfl
theorem tS_X2_combine : Cond.selects RX2 yX2_combine yX2_combine ∈ wG := wG_of (inP4 (q := (⟨"BoardCore$Instructions", "combine", "(III)V"⟩, 4)) (List.mem_of_getElem? (i := 1) rfl)) rfl
theorem tM_X2_302 : Cond.methodLink RX2 302 yX2_combine ∈ wG := wG_of (inT3 (List.mem_of_getElem? (i := 209) rfl)) rfl
theorem tM_X2_299 : Cond.methodLink RX2 299 yX2_decimalPair ∈ wG := wG_of (inT3 (List.mem_of_getElem? (i := 198) rfl)) rfl
theorem tM_X2_296 : Cond.methodLink RX2 296 yX2_divide ∈ wG := wG_of (inT3 (List.mem_of_getElem? (i := 192) rfl)) rfl
theorem tK_X2_lineEight : Cond.code yX2_lineEight cX2_lineEight 2 none ∈ wG := wG_of (inT3 (List.mem_of_getElem? (i := 191) rfl)) rfl
theorem tI_X2_lineEight : Cond.instanceMethod yX2_lineEight ∈ wG := wG_of (inT3 (List.mem_of_getElem? (i := 190) rfl)) rfl
theorem tS_X2_lineEight : Cond.selects RX2 yX2_lineEight yX2_lineEight ∈ wG := wG_of (inP3 (q := (⟨"BoardCore$Instructions", "lineEight", "(I)V"⟩, 4)) (List.mem_of_getElem? (i := 14) rfl)) rfl
theorem tK_X2_addressWork : Cond.code yX2_addressWork cX2_addressWork 6 none ∈ wG := wG_of (inT3 (List.mem_of_getElem? (i := 220) rfl)) rfl
theorem tI_X2_addressWork : Cond.instanceMethod yX2_addressWork ∈ wG := wG_of (inT3 (List.mem_of_getElem? (i := 219) rfl)) rfl
theorem tS_X2_addressWork : Cond.selects RX2 yX2_addressWork yX2_addressWork ∈ wG := wG_of (inP4 (q := (⟨"BoardCore$Instructions", "addressWork", "(II)V"⟩, 4)) (List.mem_of_getElem? (i := 3) rfl)) rfl
theorem tK_X2_pairWithX : Cond.code yX2_pairWithX cX2_pairWithX 8 none ∈ wG := wG_of (inT3 (List.mem_of_getElem? (i := 224) rfl)) rfl
theorem tI_X2_pairWithX : Cond.instanceMethod yX2_pairWithX ∈ wG := wG_of (inT3 (List.mem_of_getElem? (i := 223) rfl)) rfl
theorem tS_X2_pairWithX : Cond.selects RX2 yX2_pairWithX yX2_pairWithX ∈ wG := wG_of (inP4 (q := (⟨"BoardCore$Instructions", "pairWithX", "(II)V"⟩, 4)) (List.mem_of_getElem? (i := 4) rfl)) rfl
theorem tM_X2_320 : Cond.methodLink RX2 320 yX2_pairWithX ∈ wG := wG_of (inT3 (List.mem_of_getElem? (i := 221) rfl)) rfl
theorem tM_X2_306 : Cond.methodLink RX2 306 yX2_addressWork ∈ wG := wG_of (inT3 (List.mem_of_getElem? (i := 217) rfl)) rfl
theorem tK_X2_sums : Cond.code yX2_sums cX2_sums 3 none ∈ wG := wG_of (inT3 (List.mem_of_getElem? (i := 216) rfl)) rfl
theorem tI_X2_sums : Cond.instanceMethod yX2_sums ∈ wG := wG_of (inT3 (List.mem_of_getElem? (i := 215) rfl)) rfl
theorem tS_X2_sums : Cond.selects RX2 yX2_sums yX2_sums ∈ wG := wG_of (inP4 (q := (⟨"BoardCore$Instructions", "sums", "(II)V"⟩, 4)) (List.mem_of_getElem? (i := 2) rfl)) rfl
theorem tK_X2_compare : Cond.code yX2_compare cX2_compare 4 none ∈ wG := wG_of (inT3 (List.mem_of_getElem? (i := 232) rfl)) rfl
theorem tI_X2_compare : Cond.instanceMethod yX2_compare ∈ wG := wG_of (inT3 (List.mem_of_getElem? (i := 231) rfl)) rfl
theorem tS_X2_compare : Cond.selects RX2 yX2_compare yX2_compare ∈ wG := wG_of (inP4 (q := (⟨"BoardCore$Instructions", "compare", "(I)V"⟩, 4)) (List.mem_of_getElem? (i := 6) rfl)) rfl
theorem tK_X2_comparePair : Cond.code yX2_comparePair cX2_comparePair 5 none ∈ wG := wG_of (inT3 (List.mem_of_getElem? (i := 236) rfl)) rfl
theorem tI_X2_comparePair : Cond.instanceMethod yX2_comparePair ∈ wG := wG_of (inT3 (List.mem_of_getElem? (i := 235) rfl)) rfl
theorem tS_X2_comparePair : Cond.selects RX2 yX2_comparePair yX2_comparePair ∈ wG := wG_of (inP4 (q := (⟨"BoardCore$Instructions", "comparePair", "(I)V"⟩, 4)) (List.mem_of_getElem? (i := 7) rfl)) rfl
theorem tM_X2_311 : Cond.methodLink RX2 311 yX2_comparePair ∈ wG := wG_of (inT3 (List.mem_of_getElem? (i := 233) rfl)) rfl
theorem tM_X2_309 : Cond.methodLink RX2 309 yX2_compare ∈ wG := wG_of (inT3 (List.mem_of_getElem? (i := 229) rfl)) rfl
theorem tK_X2_lineEleven : Cond.code yX2_lineEleven cX2_lineEleven 2 none ∈ wG := wG_of (inT3 (List.mem_of_getElem? (i := 228) rfl)) rfl
theorem tI_X2_lineEleven : Cond.instanceMethod yX2_lineEleven ∈ wG := wG_of (inT3 (List.mem_of_getElem? (i := 227) rfl)) rfl
theorem tS_X2_lineEleven : Cond.selects RX2 yX2_lineEleven yX2_lineEleven ∈ wG := wG_of (inP4 (q := (⟨"BoardCore$Instructions", "lineEleven", "(I)V"⟩, 4)) (List.mem_of_getElem? (i := 5) rfl)) rfl
theorem tC_X2_329 : Cond.constant RX2 329 65535 ∈ wG := wG_of (inT4 (List.mem_of_getElem? (i := 5) rfl)) rfl
theorem tK_X2_multiply : Cond.code yX2_multiply cX2_multiply 7 none ∈ wG := wG_of (inT4 (List.mem_of_getElem? (i := 4) rfl)) rfl
theorem tI_X2_multiply : Cond.instanceMethod yX2_multiply ∈ wG := wG_of (inT4 (List.mem_of_getElem? (i := 3) rfl)) rfl
theorem tS_X2_multiply : Cond.selects RX2 yX2_multiply yX2_multiply ∈ wG := wG_of (inP4 (q := (⟨"BoardCore$Instructions", "multiply", "(IZ)V"⟩, 4)) (List.mem_of_getElem? (i := 9) rfl)) rfl
theorem tK_X2_exchange : Cond.code yX2_exchange cX2_exchange 4 none ∈ wG := wG_of (inT4 (List.mem_of_getElem? (i := 9) rfl)) rfl
theorem tI_X2_exchange : Cond.instanceMethod yX2_exchange ∈ wG := wG_of (inT4 (List.mem_of_getElem? (i := 8) rfl)) rfl
theorem tS_X2_exchange : Cond.selects RX2 yX2_exchange yX2_exchange ∈ wG := wG_of (inP4 (q := (⟨"BoardCore$Instructions", "exchange", "(II)V"⟩, 4)) (List.mem_of_getElem? (i := 10) rfl)) rfl
theorem tM_X2_317 : Cond.methodLink RX2 317 yX2_exchange ∈ wG := wG_of (inT4 (List.mem_of_getElem? (i := 6) rfl)) rfl
theorem tM_X2_314 : Cond.methodLink RX2 314 yX2_multiply ∈ wG := wG_of (inT4 (List.mem_of_getElem? (i := 1) rfl)) rfl
theorem tK_X2_lineTwelve : Cond.code yX2_lineTwelve cX2_lineTwelve 2 none ∈ wG := wG_of (inT4 (List.mem_of_getElem? (i := 0) rfl)) rfl
theorem tI_X2_lineTwelve : Cond.instanceMethod yX2_lineTwelve ∈ wG := wG_of (inT3 (List.mem_of_getElem? (i := 239) rfl)) rfl
theorem tS_X2_lineTwelve : Cond.selects RX2 yX2_lineTwelve yX2_lineTwelve ∈ wG := wG_of (inP4 (q := (⟨"BoardCore$Instructions", "lineTwelve", "(I)V"⟩, 4)) (List.mem_of_getElem? (i := 8) rfl)) rfl
theorem tK_X2_times : Cond.code yX2_times cX2_times 2 (some .int) ∈ wG := wG_of (inT4 (List.mem_of_getElem? (i := 17) rfl)) rfl
theorem tI_X2_times : Cond.instanceMethod yX2_times ∈ wG := wG_of (inT4 (List.mem_of_getElem? (i := 16) rfl)) rfl
theorem tS_X2_times : Cond.selects RX2 yX2_times yX2_times ∈ wG := wG_of (inP4 (q := (⟨"BoardCore$Instructions", "times", "(I)I"⟩, 4)) (List.mem_of_getElem? (i := 12) rfl)) rfl
theorem tK_X1_comingIn : Cond.code yX1_comingIn cX1_comingIn 4 (some .boolean) ∈ wG := wG_of (inT4 (List.mem_of_getElem? (i := 24) rfl)) rfl
theorem tI_X1_comingIn : Cond.static yX1_comingIn ∈ wG := wG_of (inT4 (List.mem_of_getElem? (i := 23) rfl)) rfl
theorem tM_X1_68 : Cond.methodLink RX1 68 yX1_comingIn ∈ wG := wG_of (inT4 (List.mem_of_getElem? (i := 22) rfl)) rfl
theorem tK_X1_shifted : Cond.code yX1_shifted cX1_shifted 13 (some .int) ∈ wG := wG_of (inT4 (List.mem_of_getElem? (i := 21) rfl)) rfl
theorem tI_X1_shifted : Cond.instanceMethod yX1_shifted ∈ wG := wG_of (inT4 (List.mem_of_getElem? (i := 19) rfl)) rfl
theorem tS_X1_shifted : Cond.selects RX1 yX1_shifted yX1_shifted ∈ wG := wG_of (inT4 (List.mem_of_getElem? (i := 20) rfl)) rfl
theorem tM_X2_338 : Cond.methodLink RX2 338 yX1_shifted ∈ wG := wG_of (inT4 (List.mem_of_getElem? (i := 18) rfl)) rfl
theorem tM_X2_335 : Cond.methodLink RX2 335 yX2_times ∈ wG := wG_of (inT4 (List.mem_of_getElem? (i := 14) rfl)) rfl
theorem tK_X2_shift : Cond.code yX2_shift cX2_shift 7 none ∈ wG := wG_of (inT4 (List.mem_of_getElem? (i := 13) rfl)) rfl
theorem tI_X2_shift : Cond.instanceMethod yX2_shift ∈ wG := wG_of (inT4 (List.mem_of_getElem? (i := 12) rfl)) rfl
theorem tS_X2_shift : Cond.selects RX2 yX2_shift yX2_shift ∈ wG := wG_of (inP4 (q := (⟨"BoardCore$Instructions", "shift", "(I)V"⟩, 4)) (List.mem_of_getElem? (i := 11) rfl)) rfl
theorem tM_X2_32 : Cond.methodLink RX2 32 yX2_lineZero ∈ wG := wG_of (inT2 (List.mem_of_getElem? (i := 134) rfl)) rfl
theorem tM_X2_42 : Cond.methodLink RX2 42 yX2_move ∈ wG := wG_of (inT3 (List.mem_of_getElem? (i := 52) rfl)) rfl
theorem tM_X2_52 : Cond.methodLink RX2 52 yX2_lineFour ∈ wG := wG_of (inT3 (List.mem_of_getElem? (i := 64) rfl)) rfl
theorem tM_X2_55 : Cond.methodLink RX2 55 yX2_lineFive ∈ wG := wG_of (inT3 (List.mem_of_getElem? (i := 163) rfl)) rfl
theorem tM_X2_58 : Cond.methodLink RX2 58 yX2_branch ∈ wG := wG_of (inT3 (List.mem_of_getElem? (i := 180) rfl)) rfl
theorem tM_X2_61 : Cond.methodLink RX2 61 yX2_moveQuick ∈ wG := wG_of (inT3 (List.mem_of_getElem? (i := 184) rfl)) rfl
theorem tM_X2_64 : Cond.methodLink RX2 64 yX2_lineEight ∈ wG := wG_of (inT3 (List.mem_of_getElem? (i := 188) rfl)) rfl
theorem tM_X2_67 : Cond.methodLink RX2 67 yX2_sums ∈ wG := wG_of (inT3 (List.mem_of_getElem? (i := 213) rfl)) rfl
theorem tM_X2_76 : Cond.methodLink RX2 76 yX2_lineEleven ∈ wG := wG_of (inT3 (List.mem_of_getElem? (i := 225) rfl)) rfl
theorem tM_X2_79 : Cond.methodLink RX2 79 yX2_lineTwelve ∈ wG := wG_of (inT3 (List.mem_of_getElem? (i := 237) rfl)) rfl
theorem tM_X2_82 : Cond.methodLink RX2 82 yX2_shift ∈ wG := wG_of (inT4 (List.mem_of_getElem? (i := 10) rfl)) rfl
theorem tK_X2_obey : Cond.code yX2_obey cX2_obey 2 none ∈ wG := wG_of (inT2 (List.mem_of_getElem? (i := 133) rfl)) rfl
theorem tI_X2_obey : Cond.instanceMethod yX2_obey ∈ wG := wG_of (inT2 (List.mem_of_getElem? (i := 131) rfl)) rfl
theorem tS_X2_obey : Cond.selects RX2 yX2_obey yX2_obey ∈ wG := wG_of (inT2 (List.mem_of_getElem? (i := 132) rfl)) rfl
theorem tK_X0_forget : Cond.code yX0_forget cX0_forget 1 none ∈ wG := wG_of (inT4 (List.mem_of_getElem? (i := 32) rfl)) rfl
theorem tI_X0_forget : Cond.instanceMethod yX0_forget ∈ wG := wG_of (inT4 (List.mem_of_getElem? (i := 30) rfl)) rfl
theorem tS_X0_forget : Cond.selects RX0 yX0_forget yX0_forget ∈ wG := wG_of (inT4 (List.mem_of_getElem? (i := 31) rfl)) rfl
theorem tK_X6_undoes : Cond.code yX6_undoes cX6_undoes 1 (some .boolean) ∈ wG := wG_of (inT4 (List.mem_of_getElem? (i := 35) rfl)) rfl
theorem tI_X6_undoes : Cond.static yX6_undoes ∈ wG := wG_of (inT4 (List.mem_of_getElem? (i := 34) rfl)) rfl
theorem tK_X4_bringBack : Cond.code yX4_bringBack cX4_bringBack 1 none ∈ wG := wG_of (inT4 (List.mem_of_getElem? (i := 39) rfl)) rfl
theorem tI_X4_bringBack : Cond.instanceMethod yX4_bringBack ∈ wG := wG_of (inT4 (List.mem_of_getElem? (i := 37) rfl)) rfl
theorem tS_X4_bringBack : Cond.selects RX4 yX4_bringBack yX4_bringBack ∈ wG := wG_of (inT4 (List.mem_of_getElem? (i := 38) rfl)) rfl
theorem tK_X6_pushFault : Cond.code yX6_pushFault cX6_pushFault 4 none ∈ wG := wG_of (inT4 (List.mem_of_getElem? (i := 43) rfl)) rfl
theorem tI_X6_pushFault : Cond.instanceMethod yX6_pushFault ∈ wG := wG_of (inT4 (List.mem_of_getElem? (i := 42) rfl)) rfl
theorem tS_X6_pushFault : Cond.selects RX6 yX6_pushFault yX6_pushFault ∈ wG := wG_of (inP4 (q := (⟨"BoardCore", "pushFault", "(III)V"⟩, 7)) (List.mem_of_getElem? (i := 14) rfl)) rfl
theorem tK_X2_stops : Cond.code yX2_stops cX2_stops 1 (some .boolean) ∈ wG := wG_of (inT4 (List.mem_of_getElem? (i := 47) rfl)) rfl
theorem tI_X2_stops : Cond.instanceMethod yX2_stops ∈ wG := wG_of (inT4 (List.mem_of_getElem? (i := 45) rfl)) rfl
theorem tS_X2_stops : Cond.selects RX2 yX2_stops yX2_stops ∈ wG := wG_of (inT4 (List.mem_of_getElem? (i := 46) rfl)) rfl
theorem tF_X6_121 : Cond.fieldLink RX6 121 "BoardCore$Access" "raised" "I" ∈ wG := wG_of (inT1 (List.mem_of_getElem? (i := 77) rfl)) rfl
theorem tF_X6_137 : Cond.fieldLink RX6 137 "BoardCore$Access" "oddAddress" "I" ∈ wG := wG_of (inT1 (List.mem_of_getElem? (i := 79) rfl)) rfl
theorem tM_X6_140 : Cond.methodLink RX6 140 yX0_forget ∈ wG := wG_of (inT4 (List.mem_of_getElem? (i := 29) rfl)) rfl
theorem tM_X6_143 : Cond.methodLink RX6 143 yX6_undoes ∈ wG := wG_of (inT4 (List.mem_of_getElem? (i := 33) rfl)) rfl
theorem tF_X6_37 : Cond.fieldLink RX6 37 "BoardCore" "instructions" "LBoardCore$Instructions;" ∈ wG := wG_of (inT1 (List.mem_of_getElem? (i := 121) rfl)) rfl
theorem tM_X6_152 : Cond.methodLink RX6 152 yX2_stops ∈ wG := wG_of (inT4 (List.mem_of_getElem? (i := 44) rfl)) rfl
theorem tM_X6_146 : Cond.methodLink RX6 146 yX4_bringBack ∈ wG := wG_of (inT4 (List.mem_of_getElem? (i := 36) rfl)) rfl
theorem tM_X6_149 : Cond.methodLink RX6 149 yX6_pushFault ∈ wG := wG_of (inT4 (List.mem_of_getElem? (i := 40) rfl)) rfl
theorem tK_X6_finish : Cond.code yX6_finish cX6_finish 5 none ∈ wG := wG_of (inT4 (List.mem_of_getElem? (i := 28) rfl)) rfl
theorem tI_X6_finish : Cond.instanceMethod yX6_finish ∈ wG := wG_of (inT4 (List.mem_of_getElem? (i := 27) rfl)) rfl
theorem tS_X6_finish : Cond.selects RX6 yX6_finish yX6_finish ∈ wG := wG_of (inP4 (q := (⟨"BoardCore", "finish", "(IZ)V"⟩, 7)) (List.mem_of_getElem? (i := 13) rfl)) rfl
theorem tM_X6_107 : Cond.methodLink RX6 107 yX6_interrupt ∈ wG := wG_of (inT2 (List.mem_of_getElem? (i := 78) rfl)) rfl
theorem tC_X6_110 : Cond.constant RX6 110 32768 ∈ wG := wG_of (inT2 (List.mem_of_getElem? (i := 108) rfl)) rfl
theorem tM_X6_111 : Cond.methodLink RX6 111 yX4_has ∈ wG := wG_of (inT2 (List.mem_of_getElem? (i := 109) rfl)) rfl
theorem tM_X6_115 : Cond.methodLink RX6 115 yX4_keep ∈ wG := wG_of (inT2 (List.mem_of_getElem? (i := 113) rfl)) rfl
theorem tM_X6_118 : Cond.methodLink RX6 118 yX0_firstWord ∈ wG := wG_of (inT2 (List.mem_of_getElem? (i := 120) rfl)) rfl
theorem tM_X6_124 : Cond.methodLink RX6 124 yX2_obey ∈ wG := wG_of (inT2 (List.mem_of_getElem? (i := 130) rfl)) rfl
theorem tM_X6_127 : Cond.methodLink RX6 127 yX6_finish ∈ wG := wG_of (inT4 (List.mem_of_getElem? (i := 25) rfl)) rfl
theorem tK_X6_advance : Cond.code yX6_advance cX6_advance 3 (some .boolean) ∈ wG := wG_of (inT2 (List.mem_of_getElem? (i := 77) rfl)) rfl
theorem tI_X6_advance : Cond.instanceMethod yX6_advance ∈ wG := wG_of (inT2 (List.mem_of_getElem? (i := 76) rfl)) rfl
theorem tS_X6_advance : Cond.selects RX6 yX6_advance yX6_advance ∈ wG := wG_of (inP1 (q := (⟨"BoardCore", "advance", "()Z"⟩, 7)) (List.mem_of_getElem? (i := 1) rfl)) rfl
theorem tM_X6_99 : Cond.methodLink RX6 99 yX6_advance ∈ wG := wG_of (inT2 (List.mem_of_getElem? (i := 74) rfl)) rfl
theorem tK_X6_step : Cond.code yX6_step cX6_step 3 (some .int) ∈ wG := wG_of (inT2 (List.mem_of_getElem? (i := 73) rfl)) rfl
theorem tI_X6_step : Cond.instanceMethod yX6_step ∈ wG := wG_of (inT2 (List.mem_of_getElem? (i := 71) rfl)) rfl
theorem tS_X6_step : Cond.selects RX6 yX6_step yX6_step ∈ wG := wG_of (inT2 (List.mem_of_getElem? (i := 72) rfl)) rfl
theorem tK_X6_state : Cond.code yX6_state cX6_state 1 (some .int) ∈ wG := wG_of (inT1 (List.mem_of_getElem? (i := 155) rfl)) rfl
theorem tI_X6_state : Cond.instanceMethod yX6_state ∈ wG := wG_of (inT1 (List.mem_of_getElem? (i := 153) rfl)) rfl
theorem tS_X6_state : Cond.selects RX6 yX6_state yX6_state ∈ wG := wG_of (inT1 (List.mem_of_getElem? (i := 154) rfl)) rfl
theorem tK_X6_exceptions : Cond.code yX6_exceptions cX6_exceptions 2 (some .int) ∈ wG := wG_of (inT4 (List.mem_of_getElem? (i := 54) rfl)) rfl
theorem tI_X6_exceptions : Cond.instanceMethod yX6_exceptions ∈ wG := wG_of (inT4 (List.mem_of_getElem? (i := 52) rfl)) rfl
theorem tS_X6_exceptions : Cond.selects RX6 yX6_exceptions yX6_exceptions ∈ wG := wG_of (inT4 (List.mem_of_getElem? (i := 53) rfl)) rfl
theorem tK_X3_weighted : Cond.code yX3_weighted cX3_weighted 3 (some .int) ∈ wG := wG_of (inT1 (List.mem_of_getElem? (i := 163) rfl)) rfl
theorem tI_X3_weighted : Cond.instanceMethod yX3_weighted ∈ wG := wG_of (inT1 (List.mem_of_getElem? (i := 161) rfl)) rfl
theorem tS_X3_weighted : Cond.selects RX3 yX3_weighted yX3_weighted ∈ wG := wG_of (inT1 (List.mem_of_getElem? (i := 162) rfl)) rfl
theorem tM_X6_103 : Cond.methodLink RX6 103 yX3_weighted ∈ wG := wG_of (inT1 (List.mem_of_getElem? (i := 160) rfl)) rfl
theorem tK_X6_sum : Cond.code yX6_sum cX6_sum 1 (some .int) ∈ wG := wG_of (inT1 (List.mem_of_getElem? (i := 159) rfl)) rfl
theorem tI_X6_sum : Cond.instanceMethod yX6_sum ∈ wG := wG_of (inT1 (List.mem_of_getElem? (i := 157) rfl)) rfl
theorem tS_X6_sum : Cond.selects RX6 yX6_sum yX6_sum ∈ wG := wG_of (inT1 (List.mem_of_getElem? (i := 158) rfl)) rfl
theorem tF_X7_43 : Cond.fieldLink RX7 43 "BoardCoreModel" "thrown" "I" ∈ wG := wG_of (inT4 (List.mem_of_getElem? (i := 65) rfl)) rfl
theorem tK_X7_thrown : Cond.code yX7_thrown cX7_thrown 1 (some .int) ∈ wG := wG_of (inT4 (List.mem_of_getElem? (i := 153) rfl)) rfl
theorem tI_X7_thrown : Cond.instanceMethod yX7_thrown ∈ wG := wG_of (inT4 (List.mem_of_getElem? (i := 151) rfl)) rfl
theorem tN_X7 : Cond.initialized RX7 ∈ wG := wG_of (inT1 (List.mem_of_getElem? (i := 7) rfl)) rfl
theorem tS_X7_thrown : Cond.selects RX7 yX7_thrown yX7_thrown ∈ wG := wG_of (inT4 (List.mem_of_getElem? (i := 152) rfl)) rfl
theorem tF_X7_13 : Cond.fieldLink RX7 13 "BoardCoreModel" "d" "[I" ∈ wG := wG_of (inT4 (List.mem_of_getElem? (i := 67) rfl)) rfl
theorem tF_X7_16 : Cond.fieldLink RX7 16 "BoardCoreModel" "a" "[I" ∈ wG := wG_of (inT4 (List.mem_of_getElem? (i := 68) rfl)) rfl
theorem tF_X7_19 : Cond.fieldLink RX7 19 "BoardCoreModel" "stack" "[I" ∈ wG := wG_of (inT4 (List.mem_of_getElem? (i := 69) rfl)) rfl
theorem tF_X7_47 : Cond.fieldLink RX7 47 "BoardCoreModel" "pc" "I" ∈ wG := wG_of (inT4 (List.mem_of_getElem? (i := 70) rfl)) rfl
theorem tF_X7_50 : Cond.fieldLink RX7 50 "BoardCoreModel" "sr" "I" ∈ wG := wG_of (inT4 (List.mem_of_getElem? (i := 71) rfl)) rfl
theorem tF_X7_53 : Cond.fieldLink RX7 53 "BoardCoreModel" "waits" "Z" ∈ wG := wG_of (inT4 (List.mem_of_getElem? (i := 72) rfl)) rfl
theorem tF_X7_57 : Cond.fieldLink RX7 57 "BoardCoreModel" "halted" "Z" ∈ wG := wG_of (inT4 (List.mem_of_getElem? (i := 73) rfl)) rfl
theorem tF_X7_60 : Cond.fieldLink RX7 60 "BoardCoreModel" "wanted" "I" ∈ wG := wG_of (inT4 (List.mem_of_getElem? (i := 74) rfl)) rfl
theorem tF_X7_63 : Cond.fieldLink RX7 63 "BoardCoreModel" "all" "I" ∈ wG := wG_of (inT4 (List.mem_of_getElem? (i := 76) rfl)) rfl
theorem tF_X7_22 : Cond.fieldLink RX7 22 "BoardCoreModel" "counts" "[I" ∈ wG := wG_of (inT4 (List.mem_of_getElem? (i := 75) rfl)) rfl
theorem tK_X7_clear : Cond.code yX7_clear cX7_clear 2 none ∈ wG := wG_of (inT4 (List.mem_of_getElem? (i := 64) rfl)) rfl
theorem tI_X7_clear : Cond.instanceMethod yX7_clear ∈ wG := wG_of (inT4 (List.mem_of_getElem? (i := 63) rfl)) rfl
theorem tS_X7_clear : Cond.selects RX7 yX7_clear yX7_clear ∈ wG := wG_of (inP4 (q := (⟨"BoardCoreModel", "clear", "()V"⟩, 28)) (List.mem_of_getElem? (i := 15) rfl)) rfl
theorem tM_X7_40 : Cond.methodLink RX7 40 yX7_clear ∈ wG := wG_of (inT4 (List.mem_of_getElem? (i := 61) rfl)) rfl
theorem tK_X7_reset : Cond.code yX7_reset cX7_reset 1 none ∈ wG := wG_of (inT4 (List.mem_of_getElem? (i := 157) rfl)) rfl
theorem tI_X7_reset : Cond.instanceMethod yX7_reset ∈ wG := wG_of (inT4 (List.mem_of_getElem? (i := 155) rfl)) rfl
theorem tS_X7_reset : Cond.selects RX7 yX7_reset yX7_reset ∈ wG := wG_of (inT4 (List.mem_of_getElem? (i := 156) rfl)) rfl
theorem tK_X7_mode : Cond.code yX7_mode cX7_mode 1 (some .int) ∈ wG := wG_of (inT4 (List.mem_of_getElem? (i := 169) rfl)) rfl
theorem tI_X7_mode : Cond.instanceMethod yX7_mode ∈ wG := wG_of (inT4 (List.mem_of_getElem? (i := 168) rfl)) rfl
theorem tS_X7_mode : Cond.selects RX7 yX7_mode yX7_mode ∈ wG := wG_of (inP5 (q := (⟨"BoardCoreModel", "mode", "()I"⟩, 28)) (List.mem_of_getElem? (i := 1) rfl)) rfl
theorem tM_X7_66 : Cond.methodLink RX7 66 yX7_mode ∈ wG := wG_of (inT4 (List.mem_of_getElem? (i := 166) rfl)) rfl
theorem tK_X7_getA : Cond.code yX7_getA cX7_getA 2 (some .int) ∈ wG := wG_of (inT4 (List.mem_of_getElem? (i := 165) rfl)) rfl
theorem tI_X7_getA : Cond.instanceMethod yX7_getA ∈ wG := wG_of (inT4 (List.mem_of_getElem? (i := 164) rfl)) rfl
theorem tS_X7_getA : Cond.selects RX7 yX7_getA yX7_getA ∈ wG := wG_of (inP5 (q := (⟨"BoardCoreModel", "getA", "(I)I"⟩, 28)) (List.mem_of_getElem? (i := 0) rfl)) rfl
theorem tK_X7_setA : Cond.code yX7_setA cX7_setA 3 none ∈ wG := wG_of (inT4 (List.mem_of_getElem? (i := 177) rfl)) rfl
theorem tI_X7_setA : Cond.instanceMethod yX7_setA ∈ wG := wG_of (inT4 (List.mem_of_getElem? (i := 176) rfl)) rfl
theorem tS_X7_setA : Cond.selects RX7 yX7_setA yX7_setA ∈ wG := wG_of (inP5 (q := (⟨"BoardCoreModel", "setA", "(II)V"⟩, 28)) (List.mem_of_getElem? (i := 2) rfl)) rfl
theorem tM_X7_70 : Cond.methodLink RX7 70 yX7_getA ∈ wG := wG_of (inT4 (List.mem_of_getElem? (i := 162) rfl)) rfl
theorem tK_X7_register : Cond.code yX7_register cX7_register 2 (some .int) ∈ wG := wG_of (inT4 (List.mem_of_getElem? (i := 161) rfl)) rfl
theorem tI_X7_register : Cond.instanceMethod yX7_register ∈ wG := wG_of (inT4 (List.mem_of_getElem? (i := 159) rfl)) rfl
theorem tS_X7_register : Cond.selects RX7 yX7_register yX7_register ∈ wG := wG_of (inT4 (List.mem_of_getElem? (i := 160) rfl)) rfl
theorem tC_X7_78 : Cond.constant RX7 78 42783 ∈ wG := wG_of (inT4 (List.mem_of_getElem? (i := 178) rfl)) rfl
theorem tM_X7_74 : Cond.methodLink RX7 74 yX7_setA ∈ wG := wG_of (inT4 (List.mem_of_getElem? (i := 174) rfl)) rfl
theorem tK_X7_put : Cond.code yX7_put cX7_put 3 none ∈ wG := wG_of (inT4 (List.mem_of_getElem? (i := 173) rfl)) rfl
theorem tI_X7_put : Cond.instanceMethod yX7_put ∈ wG := wG_of (inT4 (List.mem_of_getElem? (i := 171) rfl)) rfl
theorem tS_X7_put : Cond.selects RX7 yX7_put yX7_put ∈ wG := wG_of (inT4 (List.mem_of_getElem? (i := 172) rfl)) rfl
theorem tF_X7_7 : Cond.fieldLink RX7 7 "BoardCoreModel" "memory" "[I" ∈ wG := wG_of (inT4 (List.mem_of_getElem? (i := 66) rfl)) rfl
theorem tK_X7_byteAt : Cond.code yX7_byteAt cX7_byteAt 2 (some .int) ∈ wG := wG_of (inT4 (List.mem_of_getElem? (i := 205) rfl)) rfl
theorem tI_X7_byteAt : Cond.instanceMethod yX7_byteAt ∈ wG := wG_of (inT4 (List.mem_of_getElem? (i := 204) rfl)) rfl
theorem tS_X7_byteAt : Cond.selects RX7 yX7_byteAt yX7_byteAt ∈ wG := wG_of (inP5 (q := (⟨"BoardCoreModel", "byteAt", "(I)I"⟩, 28)) (List.mem_of_getElem? (i := 6) rfl)) rfl
theorem tF_X7_79 : Cond.fieldLink RX7 79 "BoardCoreModel" "changes" "I" ∈ wG := wG_of (inT4 (List.mem_of_getElem? (i := 89) rfl)) rfl
theorem tF_X7_34 : Cond.fieldLink RX7 34 "BoardCoreModel" "changedAt" "[I" ∈ wG := wG_of (inT4 (List.mem_of_getElem? (i := 87) rfl)) rfl
theorem tF_X7_37 : Cond.fieldLink RX7 37 "BoardCoreModel" "changedFrom" "[I" ∈ wG := wG_of (inT4 (List.mem_of_getElem? (i := 88) rfl)) rfl
theorem tK_X7_setByte : Cond.code yX7_setByte cX7_setByte 3 none ∈ wG := wG_of (inT4 (List.mem_of_getElem? (i := 193) rfl)) rfl
theorem tI_X7_setByte : Cond.instanceMethod yX7_setByte ∈ wG := wG_of (inT4 (List.mem_of_getElem? (i := 192) rfl)) rfl
theorem tS_X7_setByte : Cond.selects RX7 yX7_setByte yX7_setByte ∈ wG := wG_of (inP5 (q := (⟨"BoardCoreModel", "setByte", "(II)V"⟩, 28)) (List.mem_of_getElem? (i := 4) rfl)) rfl
theorem tM_X7_82 : Cond.methodLink RX7 82 yX7_byteAt ∈ wG := wG_of (inT4 (List.mem_of_getElem? (i := 202) rfl)) rfl
theorem tK_X7_fetch : Cond.code yX7_fetch cX7_fetch 5 (some .int) ∈ wG := wG_of (inT4 (List.mem_of_getElem? (i := 201) rfl)) rfl
theorem tI_X7_fetch : Cond.instanceMethod yX7_fetch ∈ wG := wG_of (inT4 (List.mem_of_getElem? (i := 200) rfl)) rfl
theorem tS_X7_fetch : Cond.selects RX7 yX7_fetch yX7_fetch ∈ wG := wG_of (inP5 (q := (⟨"BoardCoreModel", "fetch", "(II)I"⟩, 28)) (List.mem_of_getElem? (i := 5) rfl)) rfl
theorem tM_X7_85 : Cond.methodLink RX7 85 yX7_setByte ∈ wG := wG_of (inT4 (List.mem_of_getElem? (i := 190) rfl)) rfl
theorem tK_X7_store : Cond.code yX7_store cX7_store 5 none ∈ wG := wG_of (inT4 (List.mem_of_getElem? (i := 189) rfl)) rfl
theorem tI_X7_store : Cond.instanceMethod yX7_store ∈ wG := wG_of (inT4 (List.mem_of_getElem? (i := 188) rfl)) rfl
theorem tS_X7_store : Cond.selects RX7 yX7_store yX7_store ∈ wG := wG_of (inP5 (q := (⟨"BoardCoreModel", "store", "(III)V"⟩, 28)) (List.mem_of_getElem? (i := 3) rfl)) rfl
theorem tK_X7_isNumber : Cond.code yX7_isNumber cX7_isNumber 1 (some .boolean) ∈ wG := wG_of (inT4 (List.mem_of_getElem? (i := 185) rfl)) rfl
theorem tI_X7_isNumber : Cond.static yX7_isNumber ∈ wG := wG_of (inT4 (List.mem_of_getElem? (i := 184) rfl)) rfl
theorem tM_X7_88 : Cond.methodLink RX7 88 yX7_isNumber ∈ wG := wG_of (inT4 (List.mem_of_getElem? (i := 183) rfl)) rfl
theorem tM_X7_92 : Cond.methodLink RX7 92 yX7_store ∈ wG := wG_of (inT4 (List.mem_of_getElem? (i := 186) rfl)) rfl
theorem tK_X7_write : Cond.code yX7_write cX7_write 4 none ∈ wG := wG_of (inT4 (List.mem_of_getElem? (i := 182) rfl)) rfl
theorem tI_X7_write : Cond.instanceMethod yX7_write ∈ wG := wG_of (inT4 (List.mem_of_getElem? (i := 180) rfl)) rfl
theorem tS_X7_write : Cond.selects RX7 yX7_write yX7_write ∈ wG := wG_of (inT4 (List.mem_of_getElem? (i := 181) rfl)) rfl
theorem tM_X7_96 : Cond.methodLink RX7 96 yX7_fetch ∈ wG := wG_of (inT4 (List.mem_of_getElem? (i := 198) rfl)) rfl
theorem tK_X7_read : Cond.code yX7_read cX7_read 3 (some .int) ∈ wG := wG_of (inT4 (List.mem_of_getElem? (i := 197) rfl)) rfl
theorem tI_X7_read : Cond.instanceMethod yX7_read ∈ wG := wG_of (inT4 (List.mem_of_getElem? (i := 195) rfl)) rfl
theorem tS_X7_read : Cond.selects RX7 yX7_read yX7_read ∈ wG := wG_of (inT4 (List.mem_of_getElem? (i := 196) rfl)) rfl
theorem tK_X7_sum : Cond.code yX7_sum cX7_sum 3 (some .int) ∈ wG := wG_of (inT4 (List.mem_of_getElem? (i := 209) rfl)) rfl
theorem tI_X7_sum : Cond.instanceMethod yX7_sum ∈ wG := wG_of (inT4 (List.mem_of_getElem? (i := 207) rfl)) rfl
theorem tS_X7_sum : Cond.selects RX7 yX7_sum yX7_sum ∈ wG := wG_of (inT4 (List.mem_of_getElem? (i := 208) rfl)) rfl
theorem tF_X7_100 : Cond.fieldLink RX7 100 "BoardCoreModel" "trouble" "I" ∈ wG := wG_of (inT4 (List.mem_of_getElem? (i := 78) rfl)) rfl
theorem tF_X7_103 : Cond.fieldLink RX7 103 "BoardCoreModel" "troubleAt" "I" ∈ wG := wG_of (inT4 (List.mem_of_getElem? (i := 79) rfl)) rfl
theorem tK_X7_fault : Cond.code yX7_fault cX7_fault 3 none ∈ wG := wG_of (inT5 (List.mem_of_getElem? (i := 18) rfl)) rfl
theorem tI_X7_fault : Cond.instanceMethod yX7_fault ∈ wG := wG_of (inT5 (List.mem_of_getElem? (i := 17) rfl)) rfl
theorem tS_X7_fault : Cond.selects RX7 yX7_fault yX7_fault ∈ wG := wG_of (inP6 (q := (⟨"BoardCoreModel", "fault", "(II)V"⟩, 28)) (List.mem_of_getElem? (i := 0) rfl)) rfl
theorem tM_X7_106 : Cond.methodLink RX7 106 yX7_fault ∈ wG := wG_of (inT5 (List.mem_of_getElem? (i := 15) rfl)) rfl
theorem tK_X7_isOdd : Cond.code yX7_isOdd cX7_isOdd 3 (some .boolean) ∈ wG := wG_of (inT5 (List.mem_of_getElem? (i := 14) rfl)) rfl
theorem tI_X7_isOdd : Cond.instanceMethod yX7_isOdd ∈ wG := wG_of (inT5 (List.mem_of_getElem? (i := 13) rfl)) rfl
theorem tS_X7_isOdd : Cond.selects RX7 yX7_isOdd yX7_isOdd ∈ wG := wG_of (inP5 (q := (⟨"BoardCoreModel", "isOdd", "(II)Z"⟩, 28)) (List.mem_of_getElem? (i := 15) rfl)) rfl
theorem tM_X7_109 : Cond.methodLink RX7 109 yX7_isOdd ∈ wG := wG_of (inT5 (List.mem_of_getElem? (i := 11) rfl)) rfl
theorem tK_X7_get : Cond.code yX7_get cX7_get 3 (some .int) ∈ wG := wG_of (inT5 (List.mem_of_getElem? (i := 10) rfl)) rfl
theorem tI_X7_get : Cond.instanceMethod yX7_get ∈ wG := wG_of (inT5 (List.mem_of_getElem? (i := 9) rfl)) rfl
theorem tS_X7_get : Cond.selects RX7 yX7_get yX7_get ∈ wG := wG_of (inP5 (q := (⟨"BoardCoreModel", "get", "(II)I"⟩, 28)) (List.mem_of_getElem? (i := 14) rfl)) rfl
theorem tK_X7_set : Cond.code yX7_set cX7_set 4 none ∈ wG := wG_of (inT5 (List.mem_of_getElem? (i := 72) rfl)) rfl
theorem tI_X7_set : Cond.instanceMethod yX7_set ∈ wG := wG_of (inT5 (List.mem_of_getElem? (i := 71) rfl)) rfl
theorem tS_X7_set : Cond.selects RX7 yX7_set yX7_set ∈ wG := wG_of (inP6 (q := (⟨"BoardCoreModel", "set", "(III)V"⟩, 28)) (List.mem_of_getElem? (i := 10) rfl)) rfl
theorem tM_X7_113 : Cond.methodLink RX7 113 yX7_set ∈ wG := wG_of (inT5 (List.mem_of_getElem? (i := 69) rfl)) rfl
theorem tK_X7_push : Cond.code yX7_push cX7_push 3 none ∈ wG := wG_of (inT5 (List.mem_of_getElem? (i := 153) rfl)) rfl
theorem tI_X7_push : Cond.instanceMethod yX7_push ∈ wG := wG_of (inT5 (List.mem_of_getElem? (i := 152) rfl)) rfl
theorem tS_X7_push : Cond.selects RX7 yX7_push yX7_push ∈ wG := wG_of (inP7 (q := (⟨"BoardCoreModel", "push", "(II)V"⟩, 28)) (List.mem_of_getElem? (i := 12) rfl)) rfl
theorem tM_X7_116 : Cond.methodLink RX7 116 yX7_get ∈ wG := wG_of (inT5 (List.mem_of_getElem? (i := 7) rfl)) rfl
theorem tK_X7_pop : Cond.code yX7_pop cX7_pop 3 (some .int) ∈ wG := wG_of (inT5 (List.mem_of_getElem? (i := 165) rfl)) rfl
theorem tI_X7_pop : Cond.instanceMethod yX7_pop ∈ wG := wG_of (inT5 (List.mem_of_getElem? (i := 164) rfl)) rfl
theorem tS_X7_pop : Cond.selects RX7 yX7_pop yX7_pop ∈ wG := wG_of (inP7 (q := (⟨"BoardCoreModel", "pop", "(I)I"⟩, 28)) (List.mem_of_getElem? (i := 15) rfl)) rfl
theorem tK_X7_extension : Cond.code yX7_extension cX7_extension 2 (some .int) ∈ wG := wG_of (inT5 (List.mem_of_getElem? (i := 6) rfl)) rfl
theorem tI_X7_extension : Cond.instanceMethod yX7_extension ∈ wG := wG_of (inT5 (List.mem_of_getElem? (i := 5) rfl)) rfl
theorem tS_X7_extension : Cond.selects RX7 yX7_extension yX7_extension ∈ wG := wG_of (inP5 (q := (⟨"BoardCoreModel", "extension", "()I"⟩, 28)) (List.mem_of_getElem? (i := 13) rfl)) rfl
theorem tK_X7_extended : Cond.code yX7_extended cX7_extended 2 (some .int) ∈ wG := wG_of (inT5 (List.mem_of_getElem? (i := 101) rfl)) rfl
theorem tI_X7_extended : Cond.static yX7_extended ∈ wG := wG_of (inT5 (List.mem_of_getElem? (i := 100) rfl)) rfl
theorem tC_X7_123 : Cond.constantLong RX7 123 4294967295 ∈ wG := wG_of (inT5 (List.mem_of_getElem? (i := 64) rfl)) rfl
theorem tC_X7_121 : Cond.constantLong RX7 121 65535 ∈ wG := wG_of (inT5 (List.mem_of_getElem? (i := 63) rfl)) rfl
theorem tC_X7_119 : Cond.constantLong RX7 119 255 ∈ wG := wG_of (inT5 (List.mem_of_getElem? (i := 62) rfl)) rfl
theorem tK_X7_plain : Cond.code yX7_plain cX7_plain 2 (some .long) ∈ wG := wG_of (inT5 (List.mem_of_getElem? (i := 61) rfl)) rfl
theorem tI_X7_plain : Cond.static yX7_plain ∈ wG := wG_of (inT5 (List.mem_of_getElem? (i := 60) rfl)) rfl
theorem tK_X7_fits : Cond.code yX7_fits cX7_fits 7 (some .boolean) ∈ wG := wG_of (inT5 (List.mem_of_getElem? (i := 42) rfl)) rfl
theorem tI_X7_fits : Cond.static yX7_fits ∈ wG := wG_of (inT5 (List.mem_of_getElem? (i := 41) rfl)) rfl
theorem tM_X7_125 : Cond.methodLink RX7 125 yX7_extension ∈ wG := wG_of (inT5 (List.mem_of_getElem? (i := 3) rfl)) rfl
theorem tC_X7_128 : Cond.constant RX7 128 32768 ∈ wG := wG_of (inT4 (List.mem_of_getElem? (i := 230) rfl)) rfl
theorem tK_X7_indexed : Cond.code yX7_indexed cX7_indexed 5 (some .int) ∈ wG := wG_of (inT5 (List.mem_of_getElem? (i := 50) rfl)) rfl
theorem tI_X7_indexed : Cond.instanceMethod yX7_indexed ∈ wG := wG_of (inT5 (List.mem_of_getElem? (i := 49) rfl)) rfl
theorem tS_X7_indexed : Cond.selects RX7 yX7_indexed yX7_indexed ∈ wG := wG_of (inP6 (q := (⟨"BoardCoreModel", "indexed", "(I)I"⟩, 28)) (List.mem_of_getElem? (i := 6) rfl)) rfl
theorem tK_X7_immediate : Cond.code yX7_immediate cX7_immediate 3 (some .int) ∈ wG := wG_of (inT5 (List.mem_of_getElem? (i := 54) rfl)) rfl
theorem tI_X7_immediate : Cond.instanceMethod yX7_immediate ∈ wG := wG_of (inT5 (List.mem_of_getElem? (i := 53) rfl)) rfl
theorem tS_X7_immediate : Cond.selects RX7 yX7_immediate yX7_immediate ∈ wG := wG_of (inP6 (q := (⟨"BoardCoreModel", "immediate", "(I)I"⟩, 28)) (List.mem_of_getElem? (i := 7) rfl)) rfl
theorem tF_X7_129 : Cond.fieldLink RX7 129 "BoardCoreModel" "number" "I" ∈ wG := wG_of (inT4 (List.mem_of_getElem? (i := 91) rfl)) rfl
theorem tF_X7_132 : Cond.fieldLink RX7 132 "BoardCoreModel" "sort" "I" ∈ wG := wG_of (inT4 (List.mem_of_getElem? (i := 90) rfl)) rfl
theorem tM_X7_141 : Cond.methodLink RX7 141 yX7_immediate ∈ wG := wG_of (inT5 (List.mem_of_getElem? (i := 51) rfl)) rfl
theorem tM_X7_138 : Cond.methodLink RX7 138 yX7_indexed ∈ wG := wG_of (inT5 (List.mem_of_getElem? (i := 47) rfl)) rfl
theorem tF_X7_135 : Cond.fieldLink RX7 135 "BoardCoreModel" "address" "I" ∈ wG := wG_of (inT4 (List.mem_of_getElem? (i := 92) rfl)) rfl
theorem tK_X7_operand : Cond.code yX7_operand cX7_operand 7 none ∈ wG := wG_of (inT5 (List.mem_of_getElem? (i := 46) rfl)) rfl
theorem tI_X7_operand : Cond.instanceMethod yX7_operand ∈ wG := wG_of (inT5 (List.mem_of_getElem? (i := 45) rfl)) rfl
theorem tS_X7_operand : Cond.selects RX7 yX7_operand yX7_operand ∈ wG := wG_of (inP6 (q := (⟨"BoardCoreModel", "operand", "(II)V"⟩, 28)) (List.mem_of_getElem? (i := 5) rfl)) rfl
theorem tM_X7_144 : Cond.methodLink RX7 144 yX7_plain ∈ wG := wG_of (inT5 (List.mem_of_getElem? (i := 59) rfl)) rfl
theorem tK_X7_take : Cond.code yX7_take cX7_take 3 (some .int) ∈ wG := wG_of (inT5 (List.mem_of_getElem? (i := 58) rfl)) rfl
theorem tI_X7_take : Cond.instanceMethod yX7_take ∈ wG := wG_of (inT5 (List.mem_of_getElem? (i := 57) rfl)) rfl
theorem tS_X7_take : Cond.selects RX7 yX7_take yX7_take ∈ wG := wG_of (inP6 (q := (⟨"BoardCoreModel", "take", "(I)I"⟩, 28)) (List.mem_of_getElem? (i := 8) rfl)) rfl
theorem tC_X7_148 : Cond.constant RX7 148 (-65536 : Int32) ∈ wG := wG_of (inT5 (List.mem_of_getElem? (i := 34) rfl)) rfl
theorem tC_X7_149 : Cond.constant RX7 149 65535 ∈ wG := wG_of (inT5 (List.mem_of_getElem? (i := 35) rfl)) rfl
theorem tK_X7_joined : Cond.code yX7_joined cX7_joined 3 (some .int) ∈ wG := wG_of (inT5 (List.mem_of_getElem? (i := 33) rfl)) rfl
theorem tI_X7_joined : Cond.static yX7_joined ∈ wG := wG_of (inT5 (List.mem_of_getElem? (i := 32) rfl)) rfl
theorem tM_X7_150 : Cond.methodLink RX7 150 yX7_joined ∈ wG := wG_of (inT5 (List.mem_of_getElem? (i := 31) rfl)) rfl
theorem tK_X7_give : Cond.code yX7_give cX7_give 3 none ∈ wG := wG_of (inT5 (List.mem_of_getElem? (i := 68) rfl)) rfl
theorem tI_X7_give : Cond.instanceMethod yX7_give ∈ wG := wG_of (inT5 (List.mem_of_getElem? (i := 67) rfl)) rfl
theorem tS_X7_give : Cond.selects RX7 yX7_give yX7_give ∈ wG := wG_of (inP6 (q := (⟨"BoardCoreModel", "give", "(II)V"⟩, 28)) (List.mem_of_getElem? (i := 9) rfl)) rfl
theorem tK_X7_has : Cond.code yX7_has cX7_has 2 (some .boolean) ∈ wG := wG_of (inT5 (List.mem_of_getElem? (i := 2) rfl)) rfl
theorem tI_X7_has : Cond.instanceMethod yX7_has ∈ wG := wG_of (inT5 (List.mem_of_getElem? (i := 1) rfl)) rfl
theorem tS_X7_has : Cond.selects RX7 yX7_has yX7_has ∈ wG := wG_of (inP5 (q := (⟨"BoardCoreModel", "has", "(I)Z"⟩, 28)) (List.mem_of_getElem? (i := 12) rfl)) rfl
theorem tK_X7_flag : Cond.code yX7_flag cX7_flag 3 none ∈ wG := wG_of (inT4 (List.mem_of_getElem? (i := 229) rfl)) rfl
theorem tI_X7_flag : Cond.instanceMethod yX7_flag ∈ wG := wG_of (inT4 (List.mem_of_getElem? (i := 228) rfl)) rfl
theorem tS_X7_flag : Cond.selects RX7 yX7_flag yX7_flag ∈ wG := wG_of (inP5 (q := (⟨"BoardCoreModel", "flag", "(IZ)V"⟩, 28)) (List.mem_of_getElem? (i := 9) rfl)) rfl
theorem tM_X7_154 : Cond.methodLink RX7 154 yX7_has ∈ wG := wG_of (inT4 (List.mem_of_getElem? (i := 239) rfl)) rfl
theorem tK_X7_x : Cond.code yX7_x cX7_x 1 (some .int) ∈ wG := wG_of (inT5 (List.mem_of_getElem? (i := 133) rfl)) rfl
theorem tI_X7_x : Cond.instanceMethod yX7_x ∈ wG := wG_of (inT5 (List.mem_of_getElem? (i := 132) rfl)) rfl
theorem tS_X7_x : Cond.selects RX7 yX7_x yX7_x ∈ wG := wG_of (inP7 (q := (⟨"BoardCoreModel", "x", "()I"⟩, 28)) (List.mem_of_getElem? (i := 7) rfl)) rfl
theorem tM_X7_157 : Cond.methodLink RX7 157 yX7_extended ∈ wG := wG_of (inT5 (List.mem_of_getElem? (i := 99) rfl)) rfl
theorem tM_X7_160 : Cond.methodLink RX7 160 yX7_flag ∈ wG := wG_of (inT4 (List.mem_of_getElem? (i := 226) rfl)) rfl
theorem tK_X7_signs : Cond.code yX7_signs cX7_signs 3 none ∈ wG := wG_of (inT5 (List.mem_of_getElem? (i := 98) rfl)) rfl
theorem tI_X7_signs : Cond.instanceMethod yX7_signs ∈ wG := wG_of (inT5 (List.mem_of_getElem? (i := 97) rfl)) rfl
theorem tS_X7_signs : Cond.selects RX7 yX7_signs yX7_signs ∈ wG := wG_of (inP6 (q := (⟨"BoardCoreModel", "signs", "(II)V"⟩, 28)) (List.mem_of_getElem? (i := 15) rfl)) rfl
theorem tM_X7_164 : Cond.methodLink RX7 164 yX7_signs ∈ wG := wG_of (inT5 (List.mem_of_getElem? (i := 95) rfl)) rfl
theorem tK_X7_logic : Cond.code yX7_logic cX7_logic 3 none ∈ wG := wG_of (inT5 (List.mem_of_getElem? (i := 94) rfl)) rfl
theorem tI_X7_logic : Cond.instanceMethod yX7_logic ∈ wG := wG_of (inT5 (List.mem_of_getElem? (i := 93) rfl)) rfl
theorem tS_X7_logic : Cond.selects RX7 yX7_logic yX7_logic ∈ wG := wG_of (inP6 (q := (⟨"BoardCoreModel", "logic", "(II)V"⟩, 28)) (List.mem_of_getElem? (i := 14) rfl)) rfl
theorem tK_X7_reckon : Cond.code yX7_reckon cX7_reckon 14 (some .int) ∈ wG := wG_of (inT5 (List.mem_of_getElem? (i := 109) rfl)) rfl
theorem tI_X7_reckon : Cond.instanceMethod yX7_reckon ∈ wG := wG_of (inT5 (List.mem_of_getElem? (i := 108) rfl)) rfl
theorem tS_X7_reckon : Cond.selects RX7 yX7_reckon yX7_reckon ∈ wG := wG_of (inP7 (q := (⟨"BoardCoreModel", "reckon", "(IIIZIZZ)I"⟩, 28)) (List.mem_of_getElem? (i := 1) rfl)) rfl
theorem tM_X7_167 : Cond.methodLink RX7 167 yX7_reckon ∈ wG := wG_of (inT5 (List.mem_of_getElem? (i := 106) rfl)) rfl
theorem tK_X7_compare : Cond.code yX7_compare cX7_compare 5 none ∈ wG := wG_of (inT5 (List.mem_of_getElem? (i := 105) rfl)) rfl
theorem tI_X7_compare : Cond.instanceMethod yX7_compare ∈ wG := wG_of (inT5 (List.mem_of_getElem? (i := 104) rfl)) rfl
theorem tS_X7_compare : Cond.selects RX7 yX7_compare yX7_compare ∈ wG := wG_of (inP7 (q := (⟨"BoardCoreModel", "compare", "(III)V"⟩, 28)) (List.mem_of_getElem? (i := 0) rfl)) rfl
theorem tM_X7_171 : Cond.methodLink RX7 171 yX7_x ∈ wG := wG_of (inT5 (List.mem_of_getElem? (i := 130) rfl)) rfl
theorem tK_X7_decimalSum : Cond.code yX7_decimalSum cX7_decimalSum 5 (some .int) ∈ wG := wG_of (inT5 (List.mem_of_getElem? (i := 219) rfl)) rfl
theorem tI_X7_decimalSum : Cond.instanceMethod yX7_decimalSum ∈ wG := wG_of (inT5 (List.mem_of_getElem? (i := 218) rfl)) rfl
theorem tS_X7_decimalSum : Cond.selects RX7 yX7_decimalSum yX7_decimalSum ∈ wG := wG_of (inP8 (q := (⟨"BoardCoreModel", "decimalSum", "(II)I"⟩, 28)) (List.mem_of_getElem? (i := 12) rfl)) rfl
theorem tK_X7_decimalLess : Cond.code yX7_decimalLess cX7_decimalLess 5 (some .int) ∈ wG := wG_of (inT5 (List.mem_of_getElem? (i := 157) rfl)) rfl
theorem tI_X7_decimalLess : Cond.instanceMethod yX7_decimalLess ∈ wG := wG_of (inT5 (List.mem_of_getElem? (i := 156) rfl)) rfl
theorem tS_X7_decimalLess : Cond.selects RX7 yX7_decimalLess yX7_decimalLess ∈ wG := wG_of (inP7 (q := (⟨"BoardCoreModel", "decimalLess", "(II)I"⟩, 28)) (List.mem_of_getElem? (i := 13) rfl)) rfl
theorem tK_X7_holds : Cond.code yX7_holds cX7_holds 3 (some .boolean) ∈ wG := wG_of (inT5 (List.mem_of_getElem? (i := 185) rfl)) rfl
theorem tI_X7_holds : Cond.instanceMethod yX7_holds ∈ wG := wG_of (inT5 (List.mem_of_getElem? (i := 184) rfl)) rfl
theorem tS_X7_holds : Cond.selects RX7 yX7_holds yX7_holds ∈ wG := wG_of (inP8 (q := (⟨"BoardCoreModel", "holds", "(I)Z"⟩, 28)) (List.mem_of_getElem? (i := 4) rfl)) rfl
theorem tK_X7_sizeOf : Cond.code yX7_sizeOf cX7_sizeOf 1 (some .int) ∈ wG := wG_of (inT5 (List.mem_of_getElem? (i := 90) rfl)) rfl
theorem tI_X7_sizeOf : Cond.static yX7_sizeOf ∈ wG := wG_of (inT5 (List.mem_of_getElem? (i := 89) rfl)) rfl
theorem tK_X7_isUser : Cond.code yX7_isUser cX7_isUser 1 (some .boolean) ∈ wG := wG_of (inT5 (List.mem_of_getElem? (i := 80) rfl)) rfl
theorem tI_X7_isUser : Cond.instanceMethod yX7_isUser ∈ wG := wG_of (inT5 (List.mem_of_getElem? (i := 79) rfl)) rfl
theorem tS_X7_isUser : Cond.selects RX7 yX7_isUser yX7_isUser ∈ wG := wG_of (inP6 (q := (⟨"BoardCoreModel", "isUser", "()Z"⟩, 28)) (List.mem_of_getElem? (i := 12) rfl)) rfl
theorem tK_X7_putSr : Cond.code yX7_putSr cX7_putSr 2 none ∈ wG := wG_of (inT5 (List.mem_of_getElem? (i := 87) rfl)) rfl
theorem tI_X7_putSr : Cond.instanceMethod yX7_putSr ∈ wG := wG_of (inT5 (List.mem_of_getElem? (i := 86) rfl)) rfl
theorem tS_X7_putSr : Cond.selects RX7 yX7_putSr yX7_putSr ∈ wG := wG_of (inP6 (q := (⟨"BoardCoreModel", "putSr", "(I)V"⟩, 28)) (List.mem_of_getElem? (i := 13) rfl)) rfl
theorem tK_X7_mixed : Cond.code yX7_mixed cX7_mixed 3 (some .int) ∈ wG := wG_of (inT5 (List.mem_of_getElem? (i := 83) rfl)) rfl
theorem tI_X7_mixed : Cond.static yX7_mixed ∈ wG := wG_of (inT5 (List.mem_of_getElem? (i := 82) rfl)) rfl
theorem tF_X7_174 : Cond.fieldLink RX7 174 "BoardCoreModel" "op" "I" ∈ wG := wG_of (inT4 (List.mem_of_getElem? (i := 77) rfl)) rfl
theorem tM_X7_181 : Cond.methodLink RX7 181 yX7_mixed ∈ wG := wG_of (inT5 (List.mem_of_getElem? (i := 81) rfl)) rfl
theorem tM_X7_184 : Cond.methodLink RX7 184 yX7_putSr ∈ wG := wG_of (inT5 (List.mem_of_getElem? (i := 84) rfl)) rfl
theorem tM_X7_177 : Cond.methodLink RX7 177 yX7_isUser ∈ wG := wG_of (inT5 (List.mem_of_getElem? (i := 77) rfl)) rfl
theorem tK_X7_toFlags : Cond.code yX7_toFlags cX7_toFlags 4 (some .boolean) ∈ wG := wG_of (inT5 (List.mem_of_getElem? (i := 76) rfl)) rfl
theorem tI_X7_toFlags : Cond.instanceMethod yX7_toFlags ∈ wG := wG_of (inT5 (List.mem_of_getElem? (i := 75) rfl)) rfl
theorem tS_X7_toFlags : Cond.selects RX7 yX7_toFlags yX7_toFlags ∈ wG := wG_of (inP6 (q := (⟨"BoardCoreModel", "toFlags", "(I)Z"⟩, 28)) (List.mem_of_getElem? (i := 11) rfl)) rfl
theorem tK_X7_movePeripheral : Cond.code yX7_movePeripheral cX7_movePeripheral 7 (some .boolean) ∈ wG := wG_of (inT5 (List.mem_of_getElem? (i := 30) rfl)) rfl
theorem tI_X7_movePeripheral : Cond.instanceMethod yX7_movePeripheral ∈ wG := wG_of (inT5 (List.mem_of_getElem? (i := 29) rfl)) rfl
theorem tS_X7_movePeripheral : Cond.selects RX7 yX7_movePeripheral yX7_movePeripheral ∈ wG := wG_of (inP6 (q := (⟨"BoardCoreModel", "movePeripheral", "()Z"⟩, 28)) (List.mem_of_getElem? (i := 3) rfl)) rfl
theorem tM_X7_188 : Cond.methodLink RX7 188 yX7_fits ∈ wG := wG_of (inT5 (List.mem_of_getElem? (i := 40) rfl)) rfl
theorem tM_X7_192 : Cond.methodLink RX7 192 yX7_operand ∈ wG := wG_of (inT5 (List.mem_of_getElem? (i := 43) rfl)) rfl
theorem tM_X7_195 : Cond.methodLink RX7 195 yX7_take ∈ wG := wG_of (inT5 (List.mem_of_getElem? (i := 55) rfl)) rfl
theorem tM_X7_198 : Cond.methodLink RX7 198 yX7_give ∈ wG := wG_of (inT5 (List.mem_of_getElem? (i := 65) rfl)) rfl
theorem tK_X7_oneBit : Cond.code yX7_oneBit cX7_oneBit 8 (some .boolean) ∈ wG := wG_of (inT5 (List.mem_of_getElem? (i := 39) rfl)) rfl
theorem tI_X7_oneBit : Cond.instanceMethod yX7_oneBit ∈ wG := wG_of (inT5 (List.mem_of_getElem? (i := 38) rfl)) rfl
theorem tS_X7_oneBit : Cond.selects RX7 yX7_oneBit yX7_oneBit ∈ wG := wG_of (inP6 (q := (⟨"BoardCoreModel", "oneBit", "(IZ)Z"⟩, 28)) (List.mem_of_getElem? (i := 4) rfl)) rfl
theorem tM_X7_211 : Cond.methodLink RX7 211 yX7_sizeOf ∈ wG := wG_of (inT5 (List.mem_of_getElem? (i := 88) rfl)) rfl
theorem tM_X7_217 : Cond.methodLink RX7 217 yX7_compare ∈ wG := wG_of (inT5 (List.mem_of_getElem? (i := 102) rfl)) rfl
theorem tM_X7_214 : Cond.methodLink RX7 214 yX7_logic ∈ wG := wG_of (inT5 (List.mem_of_getElem? (i := 91) rfl)) rfl
theorem tM_X7_208 : Cond.methodLink RX7 208 yX7_toFlags ∈ wG := wG_of (inT5 (List.mem_of_getElem? (i := 73) rfl)) rfl
theorem tM_X7_204 : Cond.methodLink RX7 204 yX7_oneBit ∈ wG := wG_of (inT5 (List.mem_of_getElem? (i := 36) rfl)) rfl
theorem tM_X7_201 : Cond.methodLink RX7 201 yX7_movePeripheral ∈ wG := wG_of (inT5 (List.mem_of_getElem? (i := 27) rfl)) rfl
theorem tK_X7_group0 : Cond.code yX7_group0 cX7_group0 8 (some .boolean) ∈ wG := wG_of (inT5 (List.mem_of_getElem? (i := 26) rfl)) rfl
theorem tI_X7_group0 : Cond.instanceMethod yX7_group0 ∈ wG := wG_of (inT5 (List.mem_of_getElem? (i := 25) rfl)) rfl
theorem tS_X7_group0 : Cond.selects RX7 yX7_group0 yX7_group0 ∈ wG := wG_of (inP6 (q := (⟨"BoardCoreModel", "group0", "()Z"⟩, 28)) (List.mem_of_getElem? (i := 2) rfl)) rfl
theorem tK_X7_move : Cond.code yX7_move cX7_move 7 (some .boolean) ∈ wG := wG_of (inT5 (List.mem_of_getElem? (i := 113) rfl)) rfl
theorem tI_X7_move : Cond.instanceMethod yX7_move ∈ wG := wG_of (inT5 (List.mem_of_getElem? (i := 112) rfl)) rfl
theorem tS_X7_move : Cond.selects RX7 yX7_move yX7_move ∈ wG := wG_of (inP7 (q := (⟨"BoardCoreModel", "move", "()Z"⟩, 28)) (List.mem_of_getElem? (i := 2) rfl)) rfl
theorem tK_X7_unary : Cond.code yX7_unary cX7_unary 4 (some .boolean) ∈ wG := wG_of (inT5 (List.mem_of_getElem? (i := 129) rfl)) rfl
theorem tI_X7_unary : Cond.instanceMethod yX7_unary ∈ wG := wG_of (inT5 (List.mem_of_getElem? (i := 128) rfl)) rfl
theorem tS_X7_unary : Cond.selects RX7 yX7_unary yX7_unary ∈ wG := wG_of (inP7 (q := (⟨"BoardCoreModel", "unary", "(I)Z"⟩, 28)) (List.mem_of_getElem? (i := 6) rfl)) rfl
theorem tK_X7_statusMove : Cond.code yX7_statusMove cX7_statusMove 4 (some .boolean) ∈ wG := wG_of (inT5 (List.mem_of_getElem? (i := 125) rfl)) rfl
theorem tI_X7_statusMove : Cond.instanceMethod yX7_statusMove ∈ wG := wG_of (inT5 (List.mem_of_getElem? (i := 124) rfl)) rfl
theorem tS_X7_statusMove : Cond.selects RX7 yX7_statusMove yX7_statusMove ∈ wG := wG_of (inP7 (q := (⟨"BoardCoreModel", "statusMove", "(I)Z"⟩, 28)) (List.mem_of_getElem? (i := 5) rfl)) rfl
theorem tK_X7_toMemory : Cond.code yX7_toMemory cX7_toMemory 9 none ∈ wG := wG_of (inT5 (List.mem_of_getElem? (i := 145) rfl)) rfl
theorem tI_X7_toMemory : Cond.instanceMethod yX7_toMemory ∈ wG := wG_of (inT5 (List.mem_of_getElem? (i := 144) rfl)) rfl
theorem tS_X7_toMemory : Cond.selects RX7 yX7_toMemory yX7_toMemory ∈ wG := wG_of (inP7 (q := (⟨"BoardCoreModel", "toMemory", "(II)V"⟩, 28)) (List.mem_of_getElem? (i := 10) rfl)) rfl
theorem tK_X7_fromMemory : Cond.code yX7_fromMemory cX7_fromMemory 6 none ∈ wG := wG_of (inT5 (List.mem_of_getElem? (i := 149) rfl)) rfl
theorem tI_X7_fromMemory : Cond.instanceMethod yX7_fromMemory ∈ wG := wG_of (inT5 (List.mem_of_getElem? (i := 148) rfl)) rfl
theorem tS_X7_fromMemory : Cond.selects RX7 yX7_fromMemory yX7_fromMemory ∈ wG := wG_of (inP7 (q := (⟨"BoardCoreModel", "fromMemory", "(II)V"⟩, 28)) (List.mem_of_getElem? (i := 11) rfl)) rfl
theorem tM_X7_223 : Cond.methodLink RX7 223 yX7_fromMemory ∈ wG := wG_of (inT5 (List.mem_of_getElem? (i := 146) rfl)) rfl
theorem tM_X7_220 : Cond.methodLink RX7 220 yX7_toMemory ∈ wG := wG_of (inT5 (List.mem_of_getElem? (i := 142) rfl)) rfl
theorem tK_X7_many : Cond.code yX7_many cX7_many 7 (some .boolean) ∈ wG := wG_of (inT5 (List.mem_of_getElem? (i := 141) rfl)) rfl
theorem tI_X7_many : Cond.instanceMethod yX7_many ∈ wG := wG_of (inT5 (List.mem_of_getElem? (i := 140) rfl)) rfl
theorem tS_X7_many : Cond.selects RX7 yX7_many yX7_many ∈ wG := wG_of (inP7 (q := (⟨"BoardCoreModel", "many", "(Z)Z"⟩, 28)) (List.mem_of_getElem? (i := 9) rfl)) rfl
theorem tM_X7_233 : Cond.methodLink RX7 233 yX7_decimalLess ∈ wG := wG_of (inT5 (List.mem_of_getElem? (i := 154) rfl)) rfl
theorem tM_X7_230 : Cond.methodLink RX7 230 yX7_push ∈ wG := wG_of (inT5 (List.mem_of_getElem? (i := 150) rfl)) rfl
theorem tM_X7_226 : Cond.methodLink RX7 226 yX7_many ∈ wG := wG_of (inT5 (List.mem_of_getElem? (i := 138) rfl)) rfl
theorem tK_X7_group48 : Cond.code yX7_group48 cX7_group48 6 (some .boolean) ∈ wG := wG_of (inT5 (List.mem_of_getElem? (i := 137) rfl)) rfl
theorem tI_X7_group48 : Cond.instanceMethod yX7_group48 ∈ wG := wG_of (inT5 (List.mem_of_getElem? (i := 136) rfl)) rfl
theorem tS_X7_group48 : Cond.selects RX7 yX7_group48 yX7_group48 ∈ wG := wG_of (inP7 (q := (⟨"BoardCoreModel", "group48", "()Z"⟩, 28)) (List.mem_of_getElem? (i := 8) rfl)) rfl
theorem tK_X7_link : Cond.code yX7_link cX7_link 3 none ∈ wG := wG_of (inT5 (List.mem_of_getElem? (i := 169) rfl)) rfl
theorem tI_X7_link : Cond.instanceMethod yX7_link ∈ wG := wG_of (inT5 (List.mem_of_getElem? (i := 168) rfl)) rfl
theorem tS_X7_link : Cond.selects RX7 yX7_link yX7_link ∈ wG := wG_of (inP8 (q := (⟨"BoardCoreModel", "link", "(I)V"⟩, 28)) (List.mem_of_getElem? (i := 0) rfl)) rfl
theorem tM_X7_236 : Cond.methodLink RX7 236 yX7_pop ∈ wG := wG_of (inT5 (List.mem_of_getElem? (i := 162) rfl)) rfl
theorem tK_X7_back : Cond.code yX7_back cX7_back 4 none ∈ wG := wG_of (inT5 (List.mem_of_getElem? (i := 177) rfl)) rfl
theorem tI_X7_back : Cond.instanceMethod yX7_back ∈ wG := wG_of (inT5 (List.mem_of_getElem? (i := 176) rfl)) rfl
theorem tS_X7_back : Cond.selects RX7 yX7_back yX7_back ∈ wG := wG_of (inP8 (q := (⟨"BoardCoreModel", "back", "(I)V"⟩, 28)) (List.mem_of_getElem? (i := 2) rfl)) rfl
theorem tM_X7_242 : Cond.methodLink RX7 242 yX7_back ∈ wG := wG_of (inT5 (List.mem_of_getElem? (i := 174) rfl)) rfl
theorem tF_X7_245 : Cond.fieldLink RX7 245 "BoardCoreModel" "follows" "I" ∈ wG := wG_of (inT4 (List.mem_of_getElem? (i := 80) rfl)) rfl
theorem tF_X7_239 : Cond.fieldLink RX7 239 "BoardCoreModel" "stops" "Z" ∈ wG := wG_of (inT4 (List.mem_of_getElem? (i := 81) rfl)) rfl
theorem tK_X7_single : Cond.code yX7_single cX7_single 2 (some .boolean) ∈ wG := wG_of (inT5 (List.mem_of_getElem? (i := 173) rfl)) rfl
theorem tI_X7_single : Cond.instanceMethod yX7_single ∈ wG := wG_of (inT5 (List.mem_of_getElem? (i := 172) rfl)) rfl
theorem tS_X7_single : Cond.selects RX7 yX7_single yX7_single ∈ wG := wG_of (inP8 (q := (⟨"BoardCoreModel", "single", "(I)Z"⟩, 28)) (List.mem_of_getElem? (i := 1) rfl)) rfl
theorem tM_X7_251 : Cond.methodLink RX7 251 yX7_single ∈ wG := wG_of (inT5 (List.mem_of_getElem? (i := 170) rfl)) rfl
theorem tM_X7_248 : Cond.methodLink RX7 248 yX7_link ∈ wG := wG_of (inT5 (List.mem_of_getElem? (i := 166) rfl)) rfl
theorem tK_X7_group4e : Cond.code yX7_group4e cX7_group4e 5 (some .boolean) ∈ wG := wG_of (inT5 (List.mem_of_getElem? (i := 161) rfl)) rfl
theorem tI_X7_group4e : Cond.instanceMethod yX7_group4e ∈ wG := wG_of (inT5 (List.mem_of_getElem? (i := 160) rfl)) rfl
theorem tS_X7_group4e : Cond.selects RX7 yX7_group4e yX7_group4e ∈ wG := wG_of (inP7 (q := (⟨"BoardCoreModel", "group4e", "()Z"⟩, 28)) (List.mem_of_getElem? (i := 14) rfl)) rfl
theorem tK_X7_checkOrAddress : Cond.code yX7_checkOrAddress cX7_checkOrAddress 5 (some .boolean) ∈ wG := wG_of (inT5 (List.mem_of_getElem? (i := 121) rfl)) rfl
theorem tI_X7_checkOrAddress : Cond.instanceMethod yX7_checkOrAddress ∈ wG := wG_of (inT5 (List.mem_of_getElem? (i := 120) rfl)) rfl
theorem tS_X7_checkOrAddress : Cond.selects RX7 yX7_checkOrAddress yX7_checkOrAddress ∈ wG := wG_of (inP7 (q := (⟨"BoardCoreModel", "checkOrAddress", "()Z"⟩, 28)) (List.mem_of_getElem? (i := 4) rfl)) rfl
theorem tM_X7_266 : Cond.methodLink RX7 266 yX7_group4e ∈ wG := wG_of (inT5 (List.mem_of_getElem? (i := 158) rfl)) rfl
theorem tM_X7_260 : Cond.methodLink RX7 260 yX7_unary ∈ wG := wG_of (inT5 (List.mem_of_getElem? (i := 126) rfl)) rfl
theorem tM_X7_263 : Cond.methodLink RX7 263 yX7_group48 ∈ wG := wG_of (inT5 (List.mem_of_getElem? (i := 134) rfl)) rfl
theorem tM_X7_257 : Cond.methodLink RX7 257 yX7_statusMove ∈ wG := wG_of (inT5 (List.mem_of_getElem? (i := 122) rfl)) rfl
theorem tM_X7_254 : Cond.methodLink RX7 254 yX7_checkOrAddress ∈ wG := wG_of (inT5 (List.mem_of_getElem? (i := 118) rfl)) rfl
theorem tK_X7_group4 : Cond.code yX7_group4 cX7_group4 4 (some .boolean) ∈ wG := wG_of (inT5 (List.mem_of_getElem? (i := 117) rfl)) rfl
theorem tI_X7_group4 : Cond.instanceMethod yX7_group4 ∈ wG := wG_of (inT5 (List.mem_of_getElem? (i := 116) rfl)) rfl
theorem tS_X7_group4 : Cond.selects RX7 yX7_group4 yX7_group4 ∈ wG := wG_of (inP7 (q := (⟨"BoardCoreModel", "group4", "()Z"⟩, 28)) (List.mem_of_getElem? (i := 3) rfl)) rfl
theorem tM_X7_269 : Cond.methodLink RX7 269 yX7_holds ∈ wG := wG_of (inT5 (List.mem_of_getElem? (i := 182) rfl)) rfl
theorem tK_X7_group5 : Cond.code yX7_group5 cX7_group5 7 (some .boolean) ∈ wG := wG_of (inT5 (List.mem_of_getElem? (i := 181) rfl)) rfl
theorem tI_X7_group5 : Cond.instanceMethod yX7_group5 ∈ wG := wG_of (inT5 (List.mem_of_getElem? (i := 180) rfl)) rfl
theorem tS_X7_group5 : Cond.selects RX7 yX7_group5 yX7_group5 ∈ wG := wG_of (inP8 (q := (⟨"BoardCoreModel", "group5", "()Z"⟩, 28)) (List.mem_of_getElem? (i := 3) rfl)) rfl
theorem tK_X7_group6 : Cond.code yX7_group6 cX7_group6 4 (some .boolean) ∈ wG := wG_of (inT5 (List.mem_of_getElem? (i := 189) rfl)) rfl
theorem tI_X7_group6 : Cond.instanceMethod yX7_group6 ∈ wG := wG_of (inT5 (List.mem_of_getElem? (i := 188) rfl)) rfl
theorem tS_X7_group6 : Cond.selects RX7 yX7_group6 yX7_group6 ∈ wG := wG_of (inP8 (q := (⟨"BoardCoreModel", "group6", "()Z"⟩, 28)) (List.mem_of_getElem? (i := 5) rfl)) rfl
theorem tK_X7_group7 : Cond.code yX7_group7 cX7_group7 1 (some .boolean) ∈ wG := wG_of (inT5 (List.mem_of_getElem? (i := 193) rfl)) rfl
theorem tI_X7_group7 : Cond.instanceMethod yX7_group7 ∈ wG := wG_of (inT5 (List.mem_of_getElem? (i := 192) rfl)) rfl
theorem tS_X7_group7 : Cond.selects RX7 yX7_group7 yX7_group7 ∈ wG := wG_of (inP8 (q := (⟨"BoardCoreModel", "group7", "()Z"⟩, 28)) (List.mem_of_getElem? (i := 6) rfl)) rfl
theorem tC_X7_272 : Cond.constantLong RX7 272 (-32768 : Int64) ∈ wG := wG_of (inT5 (List.mem_of_getElem? (i := 206) rfl)) rfl
theorem tC_X7_274 : Cond.constantLong RX7 274 32767 ∈ wG := wG_of (inT5 (List.mem_of_getElem? (i := 207) rfl)) rfl
theorem tK_X7_divide : Cond.code yX7_divide cX7_divide 11 (some .boolean) ∈ wG := wG_of (inT5 (List.mem_of_getElem? (i := 205) rfl)) rfl
theorem tI_X7_divide : Cond.instanceMethod yX7_divide ∈ wG := wG_of (inT5 (List.mem_of_getElem? (i := 204) rfl)) rfl
theorem tS_X7_divide : Cond.selects RX7 yX7_divide yX7_divide ∈ wG := wG_of (inP8 (q := (⟨"BoardCoreModel", "divide", "(Z)Z"⟩, 28)) (List.mem_of_getElem? (i := 9) rfl)) rfl
theorem tK_X7_multiply : Cond.code yX7_multiply cX7_multiply 4 (some .boolean) ∈ wG := wG_of (inT5 (List.mem_of_getElem? (i := 201) rfl)) rfl
theorem tI_X7_multiply : Cond.instanceMethod yX7_multiply ∈ wG := wG_of (inT5 (List.mem_of_getElem? (i := 200) rfl)) rfl
theorem tS_X7_multiply : Cond.selects RX7 yX7_multiply yX7_multiply ∈ wG := wG_of (inP8 (q := (⟨"BoardCoreModel", "multiply", "(Z)Z"⟩, 28)) (List.mem_of_getElem? (i := 8) rfl)) rfl
theorem tK_X7_pair : Cond.code yX7_pair cX7_pair 4 (some .int) ∈ wG := wG_of (inT5 (List.mem_of_getElem? (i := 215) rfl)) rfl
theorem tI_X7_pair : Cond.instanceMethod yX7_pair ∈ wG := wG_of (inT5 (List.mem_of_getElem? (i := 214) rfl)) rfl
theorem tS_X7_pair : Cond.selects RX7 yX7_pair yX7_pair ∈ wG := wG_of (inP8 (q := (⟨"BoardCoreModel", "pair", "(I)I"⟩, 28)) (List.mem_of_getElem? (i := 11) rfl)) rfl
theorem tM_X7_276 : Cond.methodLink RX7 276 yX7_pair ∈ wG := wG_of (inT5 (List.mem_of_getElem? (i := 212) rfl)) rfl
theorem tM_X7_279 : Cond.methodLink RX7 279 yX7_decimalSum ∈ wG := wG_of (inT5 (List.mem_of_getElem? (i := 216) rfl)) rfl
theorem tK_X7_decimal : Cond.code yX7_decimal cX7_decimal 4 (some .boolean) ∈ wG := wG_of (inT5 (List.mem_of_getElem? (i := 211) rfl)) rfl
theorem tI_X7_decimal : Cond.instanceMethod yX7_decimal ∈ wG := wG_of (inT5 (List.mem_of_getElem? (i := 210) rfl)) rfl
theorem tS_X7_decimal : Cond.selects RX7 yX7_decimal yX7_decimal ∈ wG := wG_of (inP8 (q := (⟨"BoardCoreModel", "decimal", "(Z)Z"⟩, 28)) (List.mem_of_getElem? (i := 10) rfl)) rfl
theorem tK_X7_logicPair : Cond.code yX7_logicPair cX7_logicPair 6 (some .boolean) ∈ wG := wG_of (inT5 (List.mem_of_getElem? (i := 223) rfl)) rfl
theorem tI_X7_logicPair : Cond.instanceMethod yX7_logicPair ∈ wG := wG_of (inT5 (List.mem_of_getElem? (i := 222) rfl)) rfl
theorem tS_X7_logicPair : Cond.selects RX7 yX7_logicPair yX7_logicPair ∈ wG := wG_of (inP8 (q := (⟨"BoardCoreModel", "logicPair", "(I)Z"⟩, 28)) (List.mem_of_getElem? (i := 13) rfl)) rfl
theorem tM_X7_291 : Cond.methodLink RX7 291 yX7_logicPair ∈ wG := wG_of (inT5 (List.mem_of_getElem? (i := 220) rfl)) rfl
theorem tM_X7_288 : Cond.methodLink RX7 288 yX7_decimal ∈ wG := wG_of (inT5 (List.mem_of_getElem? (i := 208) rfl)) rfl
theorem tM_X7_285 : Cond.methodLink RX7 285 yX7_divide ∈ wG := wG_of (inT5 (List.mem_of_getElem? (i := 202) rfl)) rfl
theorem tM_X7_282 : Cond.methodLink RX7 282 yX7_multiply ∈ wG := wG_of (inT5 (List.mem_of_getElem? (i := 198) rfl)) rfl
theorem tK_X7_group8or12 : Cond.code yX7_group8or12 cX7_group8or12 8 (some .boolean) ∈ wG := wG_of (inT5 (List.mem_of_getElem? (i := 197) rfl)) rfl
theorem tI_X7_group8or12 : Cond.instanceMethod yX7_group8or12 ∈ wG := wG_of (inT5 (List.mem_of_getElem? (i := 196) rfl)) rfl
theorem tS_X7_group8or12 : Cond.selects RX7 yX7_group8or12 yX7_group8or12 ∈ wG := wG_of (inP8 (q := (⟨"BoardCoreModel", "group8or12", "(Z)Z"⟩, 28)) (List.mem_of_getElem? (i := 7) rfl)) rfl
theorem tK_X7_sumPair : Cond.code yX7_sumPair cX7_sumPair 8 (some .boolean) ∈ wG := wG_of (inT5 (List.mem_of_getElem? (i := 227) rfl)) rfl
theorem tI_X7_sumPair : Cond.instanceMethod yX7_sumPair ∈ wG := wG_of (inT5 (List.mem_of_getElem? (i := 226) rfl)) rfl
theorem tS_X7_sumPair : Cond.selects RX7 yX7_sumPair yX7_sumPair ∈ wG := wG_of (inP8 (q := (⟨"BoardCoreModel", "sumPair", "(Z)Z"⟩, 28)) (List.mem_of_getElem? (i := 14) rfl)) rfl
theorem tK_X7_group11 : Cond.code yX7_group11 cX7_group11 6 (some .boolean) ∈ wG := wG_of (inT5 (List.mem_of_getElem? (i := 231) rfl)) rfl
theorem tI_X7_group11 : Cond.instanceMethod yX7_group11 ∈ wG := wG_of (inT5 (List.mem_of_getElem? (i := 230) rfl)) rfl
theorem tS_X7_group11 : Cond.selects RX7 yX7_group11 yX7_group11 ∈ wG := wG_of (inP8 (q := (⟨"BoardCoreModel", "group11", "()Z"⟩, 28)) (List.mem_of_getElem? (i := 15) rfl)) rfl
theorem tK_X7_shifted : Cond.code yX7_shifted cX7_shifted 16 (some .int) ∈ wG := wG_of (inT5 (List.mem_of_getElem? (i := 239) rfl)) rfl
theorem tI_X7_shifted : Cond.instanceMethod yX7_shifted ∈ wG := wG_of (inT5 (List.mem_of_getElem? (i := 238) rfl)) rfl
theorem tS_X7_shifted : Cond.selects RX7 yX7_shifted yX7_shifted ∈ wG := wG_of (inP9 (q := (⟨"BoardCoreModel", "shifted", "(IIIZI)I"⟩, 28)) (List.mem_of_getElem? (i := 1) rfl)) rfl
theorem tM_X7_294 : Cond.methodLink RX7 294 yX7_shifted ∈ wG := wG_of (inT5 (List.mem_of_getElem? (i := 236) rfl)) rfl
theorem tK_X7_group14 : Cond.code yX7_group14 cX7_group14 7 (some .boolean) ∈ wG := wG_of (inT5 (List.mem_of_getElem? (i := 235) rfl)) rfl
theorem tI_X7_group14 : Cond.instanceMethod yX7_group14 ∈ wG := wG_of (inT5 (List.mem_of_getElem? (i := 234) rfl)) rfl
theorem tS_X7_group14 : Cond.selects RX7 yX7_group14 yX7_group14 ∈ wG := wG_of (inP9 (q := (⟨"BoardCoreModel", "group14", "()Z"⟩, 28)) (List.mem_of_getElem? (i := 0) rfl)) rfl
theorem tM_X7_298 : Cond.methodLink RX7 298 yX7_group0 ∈ wG := wG_of (inT5 (List.mem_of_getElem? (i := 23) rfl)) rfl
theorem tM_X7_301 : Cond.methodLink RX7 301 yX7_move ∈ wG := wG_of (inT5 (List.mem_of_getElem? (i := 110) rfl)) rfl
theorem tM_X7_304 : Cond.methodLink RX7 304 yX7_group4 ∈ wG := wG_of (inT5 (List.mem_of_getElem? (i := 114) rfl)) rfl
theorem tM_X7_307 : Cond.methodLink RX7 307 yX7_group5 ∈ wG := wG_of (inT5 (List.mem_of_getElem? (i := 178) rfl)) rfl
theorem tM_X7_310 : Cond.methodLink RX7 310 yX7_group6 ∈ wG := wG_of (inT5 (List.mem_of_getElem? (i := 186) rfl)) rfl
theorem tM_X7_313 : Cond.methodLink RX7 313 yX7_group7 ∈ wG := wG_of (inT5 (List.mem_of_getElem? (i := 190) rfl)) rfl
theorem tM_X7_316 : Cond.methodLink RX7 316 yX7_group8or12 ∈ wG := wG_of (inT5 (List.mem_of_getElem? (i := 194) rfl)) rfl
theorem tM_X7_319 : Cond.methodLink RX7 319 yX7_sumPair ∈ wG := wG_of (inT5 (List.mem_of_getElem? (i := 224) rfl)) rfl
theorem tM_X7_322 : Cond.methodLink RX7 322 yX7_group11 ∈ wG := wG_of (inT5 (List.mem_of_getElem? (i := 228) rfl)) rfl
theorem tM_X7_325 : Cond.methodLink RX7 325 yX7_group14 ∈ wG := wG_of (inT5 (List.mem_of_getElem? (i := 232) rfl)) rfl
theorem tK_X7_act : Cond.code yX7_act cX7_act 1 (some .boolean) ∈ wG := wG_of (inT5 (List.mem_of_getElem? (i := 22) rfl)) rfl
theorem tI_X7_act : Cond.instanceMethod yX7_act ∈ wG := wG_of (inT5 (List.mem_of_getElem? (i := 21) rfl)) rfl
theorem tS_X7_act : Cond.selects RX7 yX7_act yX7_act ∈ wG := wG_of (inP6 (q := (⟨"BoardCoreModel", "act", "()Z"⟩, 28)) (List.mem_of_getElem? (i := 1) rfl)) rfl
theorem tK_X7_exception : Cond.code yX7_exception cX7_exception 6 (some .boolean) ∈ wG := wG_of (inT4 (List.mem_of_getElem? (i := 225) rfl)) rfl
theorem tI_X7_exception : Cond.instanceMethod yX7_exception ∈ wG := wG_of (inT4 (List.mem_of_getElem? (i := 224) rfl)) rfl
theorem tS_X7_exception : Cond.selects RX7 yX7_exception yX7_exception ∈ wG := wG_of (inP5 (q := (⟨"BoardCoreModel", "exception", "(IZI)Z"⟩, 28)) (List.mem_of_getElem? (i := 8) rfl)) rfl
theorem tF_X7_25 : Cond.fieldLink RX7 25 "BoardCoreModel" "wasD" "[I" ∈ wG := wG_of (inT4 (List.mem_of_getElem? (i := 82) rfl)) rfl
theorem tF_X7_28 : Cond.fieldLink RX7 28 "BoardCoreModel" "wasA" "[I" ∈ wG := wG_of (inT4 (List.mem_of_getElem? (i := 83) rfl)) rfl
theorem tF_X7_31 : Cond.fieldLink RX7 31 "BoardCoreModel" "wasStack" "[I" ∈ wG := wG_of (inT4 (List.mem_of_getElem? (i := 84) rfl)) rfl
theorem tF_X7_328 : Cond.fieldLink RX7 328 "BoardCoreModel" "wasPc" "I" ∈ wG := wG_of (inT4 (List.mem_of_getElem? (i := 85) rfl)) rfl
theorem tF_X7_331 : Cond.fieldLink RX7 331 "BoardCoreModel" "wasSr" "I" ∈ wG := wG_of (inT4 (List.mem_of_getElem? (i := 86) rfl)) rfl
theorem tK_X7_remember : Cond.code yX7_remember cX7_remember 2 none ∈ wG := wG_of (inT4 (List.mem_of_getElem? (i := 238) rfl)) rfl
theorem tI_X7_remember : Cond.instanceMethod yX7_remember ∈ wG := wG_of (inT4 (List.mem_of_getElem? (i := 237) rfl)) rfl
theorem tS_X7_remember : Cond.selects RX7 yX7_remember yX7_remember ∈ wG := wG_of (inP5 (q := (⟨"BoardCoreModel", "remember", "()V"⟩, 28)) (List.mem_of_getElem? (i := 11) rfl)) rfl
theorem tK_X7_takeBack : Cond.code yX7_takeBack cX7_takeBack 2 none ∈ wG := wG_of (inT6 (List.mem_of_getElem? (i := 3) rfl)) rfl
theorem tI_X7_takeBack : Cond.instanceMethod yX7_takeBack ∈ wG := wG_of (inT6 (List.mem_of_getElem? (i := 2) rfl)) rfl
theorem tS_X7_takeBack : Cond.selects RX7 yX7_takeBack yX7_takeBack ∈ wG := wG_of (inP9 (q := (⟨"BoardCoreModel", "takeBack", "()V"⟩, 28)) (List.mem_of_getElem? (i := 2) rfl)) rfl
theorem tM_X7_334 : Cond.methodLink RX7 334 yX7_remember ∈ wG := wG_of (inT4 (List.mem_of_getElem? (i := 235) rfl)) rfl
theorem tM_X7_337 : Cond.methodLink RX7 337 yX7_act ∈ wG := wG_of (inT5 (List.mem_of_getElem? (i := 19) rfl)) rfl
theorem tM_X7_343 : Cond.methodLink RX7 343 yX7_exception ∈ wG := wG_of (inT4 (List.mem_of_getElem? (i := 222) rfl)) rfl
theorem tM_X7_340 : Cond.methodLink RX7 340 yX7_takeBack ∈ wG := wG_of (inT6 (List.mem_of_getElem? (i := 0) rfl)) rfl
theorem tK_X7_instruction : Cond.code yX7_instruction cX7_instruction 5 none ∈ wG := wG_of (inT4 (List.mem_of_getElem? (i := 234) rfl)) rfl
theorem tI_X7_instruction : Cond.instanceMethod yX7_instruction ∈ wG := wG_of (inT4 (List.mem_of_getElem? (i := 233) rfl)) rfl
theorem tS_X7_instruction : Cond.selects RX7 yX7_instruction yX7_instruction ∈ wG := wG_of (inP5 (q := (⟨"BoardCoreModel", "instruction", "()V"⟩, 28)) (List.mem_of_getElem? (i := 10) rfl)) rfl
theorem tK_X7_interrupt : Cond.code yX7_interrupt cX7_interrupt 3 (some .boolean) ∈ wG := wG_of (inT4 (List.mem_of_getElem? (i := 221) rfl)) rfl
theorem tI_X7_interrupt : Cond.instanceMethod yX7_interrupt ∈ wG := wG_of (inT4 (List.mem_of_getElem? (i := 220) rfl)) rfl
theorem tS_X7_interrupt : Cond.selects RX7 yX7_interrupt yX7_interrupt ∈ wG := wG_of (inP5 (q := (⟨"BoardCoreModel", "interrupt", "()Z"⟩, 28)) (List.mem_of_getElem? (i := 7) rfl)) rfl
theorem tK_X7_want : Cond.code yX7_want cX7_want 2 none ∈ wG := wG_of (inT4 (List.mem_of_getElem? (i := 213) rfl)) rfl
theorem tI_X7_want : Cond.instanceMethod yX7_want ∈ wG := wG_of (inT4 (List.mem_of_getElem? (i := 211) rfl)) rfl
theorem tS_X7_want : Cond.selects RX7 yX7_want yX7_want ∈ wG := wG_of (inT4 (List.mem_of_getElem? (i := 212) rfl)) rfl
theorem tM_X7_347 : Cond.methodLink RX7 347 yX7_interrupt ∈ wG := wG_of (inT4 (List.mem_of_getElem? (i := 218) rfl)) rfl
theorem tM_X7_350 : Cond.methodLink RX7 350 yX7_instruction ∈ wG := wG_of (inT4 (List.mem_of_getElem? (i := 231) rfl)) rfl
theorem tK_X7_step : Cond.code yX7_step cX7_step 3 (some .int) ∈ wG := wG_of (inT4 (List.mem_of_getElem? (i := 217) rfl)) rfl
theorem tI_X7_step : Cond.instanceMethod yX7_step ∈ wG := wG_of (inT4 (List.mem_of_getElem? (i := 215) rfl)) rfl
theorem tS_X7_step : Cond.selects RX7 yX7_step yX7_step ∈ wG := wG_of (inT4 (List.mem_of_getElem? (i := 216) rfl)) rfl
theorem tK_X7_state : Cond.code yX7_state cX7_state 1 (some .int) ∈ wG := wG_of (inT6 (List.mem_of_getElem? (i := 7) rfl)) rfl
theorem tI_X7_state : Cond.instanceMethod yX7_state ∈ wG := wG_of (inT6 (List.mem_of_getElem? (i := 5) rfl)) rfl
theorem tS_X7_state : Cond.selects RX7 yX7_state yX7_state ∈ wG := wG_of (inT6 (List.mem_of_getElem? (i := 6) rfl)) rfl
theorem tK_X7_exceptions : Cond.code yX7_exceptions cX7_exceptions 2 (some .int) ∈ wG := wG_of (inT6 (List.mem_of_getElem? (i := 11) rfl)) rfl
theorem tI_X7_exceptions : Cond.instanceMethod yX7_exceptions ∈ wG := wG_of (inT6 (List.mem_of_getElem? (i := 9) rfl)) rfl
theorem tS_X7_exceptions : Cond.selects RX7 yX7_exceptions yX7_exceptions ∈ wG := wG_of (inT6 (List.mem_of_getElem? (i := 10) rfl)) rfl
