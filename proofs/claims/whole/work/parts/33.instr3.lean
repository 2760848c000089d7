def fX2_moveQuick (x1 : Int32) (S : St) : Option St :=
    (bd (fX2_isTo x1 S) fun b1 S1 => (if (zI b1) = 0 then (bd (fX2_upper x1 S1) fun r1 S2 => (bd (fX1_logic 2 (x1.toInt8.toInt32) S2) fun r2 S3 => (bv (fX4_set r1 r2 S3) fun S4 => (some S4))))
    else (bv (fX2_illegal S1) fun S5 => (some S5))))
abbrev rmX2_moveQuick : Room := { frames := 2, cells := 0, slots := 0, locals := 47 }
set_option maxRecDepth 100000 in
set_option maxHeartbeats 4000000 in
theorem mX2_moveQuick (l : Launch) (D : va_G) (ad : Nat → Nat) (cI cB : ClassId) (en : Nat → Nat) (S : St) (x1 : Int32) (So : St) (hs : fX2_moveQuick x1 S = some So) : uM l yX2_moveQuick (wg yX2_moveQuick cX2_moveQuick 2 none) rmX2_moveQuick (KB D ad cI cB en) D (wB ad cI cB) (AX 10 ad) [.ref (ad 4), .int x1] S (none, So) := by
  refine uM_start (by decide) rfl ?_
  intro p e s m below meth c hx hb hr hlocks hml hown hts hK hP
  have hT : ∀ w ∈ wG, w.before _ s = true := fun w h => hts w (List.mem_cons_of_mem _ h)
  have hS : va_S (AX 10 ad s.heap.size) s.heap s.heap [] := va_S.rf
  have hown : s.vm.findClass RX2 = some m.cls := hown
  have C : CallFix p m c cX2_moveQuick 2 s _ wG RX2 := ⟨hx, hb, hml, hown, hT⟩
  have hl := lv_entry ([.ref (ad 4), .int x1]) (n := 2) (Nat.le_of_ble_eq_true rfl)
  rw [lg_entry_eq]
  generalize (lg_sl ([.ref (ad 4), .int x1]) ++ List.replicate (2 - (lg_sl ([.ref (ad 4), .int x1])).length) Slot.unset).toArray = ls at hl ⊢
  have hl : lv_has ls 2 [(0, .ref (ad 4)), (1, .int x1)] := hl
  unfold fX2_moveQuick at hs
  refine lv_iload_n hx hb dX2_moveQuick_0 rfl (lv_at hl 1 rfl) ?_
  obtain ⟨b1, S1, h1, hs⟩ := bd_e hs
  refine kX2_isTo C tM_X2_107 ⟨Nat.le_of_ble_eq_true rfl, Nat.le_of_ble_eq_true rfl⟩ ⟨Nat.le_of_ble_eq_true rfl, Nat.le_of_ble_eq_true rfl⟩ hK hP hS hl.1 (rest := []) (Nat.le_of_ble_eq_true rfl) dX2_moveQuick_1 h1 (fun H locs hP hS => ?_)
  refine lv_if_eq (tgt := 14) hx hb dX2_moveQuick_4 (by decide) (fun c1 => ?_) (fun c1 => ?_)
  · have hs := if_t c1 hs
    refine lv_aload_n hx hb dX2_moveQuick_14 rfl (lv_at hl 0 rfl) ?_
    refine gB_X2_registers hx hb hT hown hK hP (hT _ tF_X2_9) dX2_moveQuick_15 ?_
    refine lv_iload_n hx hb dX2_moveQuick_18 rfl (lv_at hl 1 rfl) ?_
    obtain ⟨r1, S2, h2, hs⟩ := bd_e hs
    refine kX2_upper C tM_X2_101 ⟨Nat.le_of_ble_eq_true rfl, Nat.le_of_ble_eq_true rfl⟩ ⟨Nat.le_of_ble_eq_true rfl, Nat.le_of_ble_eq_true rfl⟩ hK hP hS hl.1 (rest := [.ref (ad 2)]) (Nat.le_of_ble_eq_true rfl) dX2_moveQuick_19 h2 (fun H locs hP hS => ?_)
    refine lv_aload_n hx hb dX2_moveQuick_22 rfl (lv_at hl 0 rfl) ?_
    refine gB_X2_arithmetic hx hb hT hown hK hP (hT _ tF_X2_24) dX2_moveQuick_23 ?_
    refine gS_LONG hx hb hown hK hS (hT _ tF_X2_46) dX2_moveQuick_26 ?_
    refine lv_iload_n hx hb dX2_moveQuick_29 rfl (lv_at hl 1 rfl) ?_
    refine lv_i2b (v := (x1.toInt8.toInt32)) hx hb dX2_moveQuick_30 rfl ?_
    obtain ⟨r2, S3, h3, hs⟩ := bd_e hs
    refine kX1_logic C tM_X2_203 ⟨Nat.le_of_ble_eq_true rfl, Nat.le_of_ble_eq_true rfl⟩ ⟨Nat.le_of_ble_eq_true rfl, Nat.le_of_ble_eq_true rfl⟩ hK hP hS hl.1 (rest := [.int r1, .ref (ad 2)]) (Nat.le_of_ble_eq_true rfl) dX2_moveQuick_31 h3 (fun H locs hP hS => ?_)
    obtain ⟨S4, h4, hs⟩ := bv_e hs
    refine kX4_set C tM_X2_143 ⟨Nat.le_of_ble_eq_true rfl, Nat.le_of_ble_eq_true rfl⟩ ⟨Nat.le_of_ble_eq_true rfl, Nat.le_of_ble_eq_true rfl⟩ hK hP hS hl.1 (rest := []) (Nat.le_of_ble_eq_true rfl) dX2_moveQuick_34 h4 (fun H locs hP hS => ?_)
    exact u_vret hx hb hr hlocks hP hS hs dX2_moveQuick_37
  · have hs := if_f c1 hs
    refine lv_aload_n hx hb dX2_moveQuick_7 rfl (lv_at hl 0 rfl) ?_
    obtain ⟨S5, h5, hs⟩ := bv_e hs
    refine kX2_illegal C tM_X2_178 ⟨Nat.le_of_ble_eq_true rfl, Nat.le_of_ble_eq_true rfl⟩ ⟨Nat.le_of_ble_eq_true rfl, Nat.le_of_ble_eq_true rfl⟩ hK hP hS hl.1 (rest := []) (Nat.le_of_ble_eq_true rfl) dX2_moveQuick_8 h5 (fun H locs hP hS => ?_)
    refine lv_goto (tgt := 37) hx hb dX2_moveQuick_11 (by decide) ?_
    exact u_vret hx hb hr hlocks hP hS hs dX2_moveQuick_37
theorem kX2_moveQuick {p : Program} {l : Launch} {e : Env} {R : Room} {s : State} {m : MethodId} {args : Array Value} {below : List Frame} {meth : Method} {c : Code} {H : Heap} {locs : List Loc} {cells slots : Nat} {Q : State → Prop} {cc : ByteArray} {pc nL : Nat} {ls : Array Slot} {rest : List Value} {D : va_G} {ad : Nat → Nat} {cI cB : ClassId} {en : Nat → Nat} {S : St} {own : String} {index : Nat} {x1 : Int32} {So : St} (C : CallFix p m c cc nL s args wG own) (hlk : Cond.methodLink own index yX2_moveQuick ∈ wG) (hR : rmX2_moveQuick.frames + 1 ≤ R.frames ∧ 8 + (2 + 11) + rmX2_moveQuick.locals ≤ R.locals) (hc : cells ≤ R.cells ∧ slots ≤ R.slots) (hK : KB D ad cI cB en s) (hP : va_P D vwCl (wB ad cI cB S) H) (hS : va_S (AX 10 ad s.heap.size) s.heap H locs) (hls : ls.size = nL) (hrest : (rest.map fun v => v.category).sum ≤ 8) (hd : decode cc pc = .ok (.invokevirtual index, 3)) (hs : fX2_moveQuick x1 S = some So) (k : ∀ (H : Heap) (locs : List Loc), va_P D vwCl (wB ad cI cB So) H → va_S (AX 10 ad s.heap.size) s.heap H locs → W p l e R s m args below meth c H locs cells slots Q (F0 m (pc + 3) ls (rest))) : W p l e R s m args below meth c H locs cells slots Q (F0 m pc ls (.int x1 :: .ref (ad 4) :: rest)) :=
  u_callV (n := 1) (mX2_moveQuick l D ad cI cB en S x1 So hs) C uK_B (wg_V hlk tI_X2_moveQuick tS_X2_moveQuick tN_X2 tK_X2_moveQuick) rfl rfl rfl (by decide +kernel) hR rfl (va_recv hK.1 hP (ci := 2) (q0 := 4) rfl rfl) hK hP hS hls hrest hd hc rfl k
def fX2_divide (x1 : Int32) (z2 : Bool) (S : St) : Option St :=
    (bd (fX2_operand x1 S) fun r1 S1 => (bd (fX2_misfits 4093 r1 S1) fun b1 S2 => (if (zI b1) = 0 then (bd (fX2_upper x1 S2) fun r2 S3 => (bd (fX2_operand x1 S3) fun r3 S4 => (bd (fX0_locate 1 r3 S4) fun w1 S5 => (bd (fX0_load 1 w1 S5) fun r4 S6 => (bv (fX4_mark 1 false S6) fun S7 => (if r4 = 0 then (bv (fX0_raise 5 S7) fun S15 => (some S15))
    else (jn (fun (w2 : Int64) (S8 : St) => (jn (fun (w3 : Int64) => (gd (¬ w3 = 0) (lt ((w2 / w3) : Int64) fun w4 => (jn (fun (w5 : Int64) => (if (lg_cmp w4 w5) = 0 then (gd (¬ w3 = 0) (lt (((w2 - w2 / w3 * w3).toInt32) : Int32) fun v1 => (bd (fX1_logic 1 (w4.toInt32) S8) fun r5 S9 => (bv (fX4_set r2 ((v1 <<< ((16 : Int32) &&& 31)) ||| r5) S9) fun S10 => (some S10)))))
    else (bv (fX4_mark 2 true S8) fun S11 => (some S11)))) fun K3 =>
    (if (zI z2) = 0 then (K3 (w4 &&& 65535))
    else (K3 (((w4.toInt32).toInt16.toInt32).toInt64))))))) fun K2 =>
    (if (zI z2) = 0 then (K2 (r4.toInt64))
    else (K2 ((r4.toInt16.toInt32).toInt64))))) fun K1 =>
    (if (zI z2) = 0 then (bd (fX4_get r2 S7) fun r6 S12 => (bd (fX5_unsigned 2 r6 S12) fun w6 S13 => (K1 w6 S13)))
    else (bd (fX4_get r2 S7) fun r7 S14 => (K1 (r7.toInt64) S14))))))))))
    else (some S2))))
abbrev rmX2_divide : Room := { frames := 3, cells := 0, slots := 0, locals := 70 }
set_option maxRecDepth 100000 in
set_option maxHeartbeats 4000000 in
theorem mX2_divide (l : Launch) (D : va_G) (ad : Nat → Nat) (cI cB : ClassId) (en : Nat → Nat) (S : St) (x1 : Int32) (z2 : Bool) (So : St) (hs : fX2_divide x1 z2 S = some So) : uM l yX2_divide (wg yX2_divide cX2_divide 12 none) rmX2_divide (KB D ad cI cB en) D (wB ad cI cB) (AX 10 ad) [.ref (ad 4), .int x1, .int (zI z2)] S (none, So) := by
  refine uM_start (by decide) rfl ?_
  intro p e s m below meth c hx hb hr hlocks hml hown hts hK hP
  have hT : ∀ w ∈ wG, w.before _ s = true := fun w h => hts w (List.mem_cons_of_mem _ h)
  have hS : va_S (AX 10 ad s.heap.size) s.heap s.heap [] := va_S.rf
  have hown : s.vm.findClass RX2 = some m.cls := hown
  have C : CallFix p m c cX2_divide 12 s _ wG RX2 := ⟨hx, hb, hml, hown, hT⟩
  have hl := lv_entry ([.ref (ad 4), .int x1, .int (zI z2)]) (n := 12) (Nat.le_of_ble_eq_true rfl)
  rw [lg_entry_eq]
  generalize (lg_sl ([.ref (ad 4), .int x1, .int (zI z2)]) ++ List.replicate (12 - (lg_sl ([.ref (ad 4), .int x1, .int (zI z2)])).length) Slot.unset).toArray = ls at hl ⊢
  have hl : lv_has ls 12 [(0, .ref (ad 4)), (1, .int x1), (2, .int (zI z2))] := hl
  unfold fX2_divide at hs
  refine lv_aload_n hx hb dX2_divide_0 rfl (lv_at hl 0 rfl) ?_
  refine lv_sipush (v := 4093) hx hb dX2_divide_1 (by decide) ?_
  refine lv_iload_n hx hb dX2_divide_4 rfl (lv_at hl 1 rfl) ?_
  obtain ⟨r1, S1, h1, hs⟩ := bd_e hs
  refine kX2_operand C tM_X2_95 ⟨Nat.le_of_ble_eq_true rfl, Nat.le_of_ble_eq_true rfl⟩ ⟨Nat.le_of_ble_eq_true rfl, Nat.le_of_ble_eq_true rfl⟩ hK hP hS hl.1 (rest := [.int 4093, .ref (ad 4)]) (Nat.le_of_ble_eq_true rfl) dX2_divide_5 h1 (fun H locs hP hS => ?_)
  obtain ⟨b1, S2, h2, hs⟩ := bd_e hs
  refine kX2_misfits C tM_X2_146 ⟨Nat.le_of_ble_eq_true rfl, Nat.le_of_ble_eq_true rfl⟩ ⟨Nat.le_of_ble_eq_true rfl, Nat.le_of_ble_eq_true rfl⟩ hK hP hS hl.1 (rest := []) (Nat.le_of_ble_eq_true rfl) dX2_divide_8 h2 (fun H locs hP hS => ?_)
  refine lv_if_eq (tgt := 15) hx hb dX2_divide_11 (by decide) (fun c1 => ?_) (fun c1 => ?_)
  · have hs := if_t c1 hs
    refine lv_iload_n hx hb dX2_divide_15 rfl (lv_at hl 1 rfl) ?_
    obtain ⟨r2, S3, h3, hs⟩ := bd_e hs
    refine kX2_upper C tM_X2_101 ⟨Nat.le_of_ble_eq_true rfl, Nat.le_of_ble_eq_true rfl⟩ ⟨Nat.le_of_ble_eq_true rfl, Nat.le_of_ble_eq_true rfl⟩ hK hP hS hl.1 (rest := []) (Nat.le_of_ble_eq_true rfl) dX2_divide_16 h3 (fun H locs hP hS => ?_)
    refine lv_istore_n (lv' := [(3, .int r2), (0, .ref (ad 4)), (1, .int x1), (2, .int (zI z2))]) hx hb dX2_divide_19 rfl hl (by decide) rfl (fun ls hl => ?_)
    refine lv_aload_n hx hb dX2_divide_20 rfl (lv_at hl 1 rfl) ?_
    refine gB_X2_access hx hb hT hown hK hP (hT _ tF_X2_15) dX2_divide_21 ?_
    refine gS_WORD hx hb hown hK hS (hT _ tF_X2_49) dX2_divide_24 ?_
    refine lv_aload_n hx hb dX2_divide_27 rfl (lv_at hl 1 rfl) ?_
    refine gB_X2_access hx hb hT hown hK hP (hT _ tF_X2_15) dX2_divide_28 ?_
    refine gS_WORD hx hb hown hK hS (hT _ tF_X2_49) dX2_divide_31 ?_
    refine lv_iload_n hx hb dX2_divide_34 rfl (lv_at hl 2 rfl) ?_
    obtain ⟨r3, S4, h4, hs⟩ := bd_e hs
    refine kX2_operand C tM_X2_95 ⟨Nat.le_of_ble_eq_true rfl, Nat.le_of_ble_eq_true rfl⟩ ⟨Nat.le_of_ble_eq_true rfl, Nat.le_of_ble_eq_true rfl⟩ hK hP hS hl.1 (rest := [.ref (en 1), .ref (ad 3), .ref (en 1), .ref (ad 3)]) (Nat.le_of_ble_eq_true rfl) dX2_divide_35 h4 (fun H locs hP hS => ?_)
    obtain ⟨w1, S5, h5, hs⟩ := bd_e hs
    refine kX0_locate C tM_X2_150 ⟨Nat.le_of_ble_eq_true rfl, Nat.le_of_ble_eq_true rfl⟩ ⟨Nat.le_of_ble_eq_true rfl, Nat.le_of_ble_eq_true rfl⟩ hK hP hS hl.1 (rest := [.ref (en 1), .ref (ad 3)]) (Nat.le_of_ble_eq_true rfl) dX2_divide_38 h5 (fun H locs hP hS => ?_)
    obtain ⟨r4, S6, h6, hs⟩ := bd_e hs
    refine kX0_load C tM_X2_154 ⟨Nat.le_of_ble_eq_true rfl, Nat.le_of_ble_eq_true rfl⟩ ⟨Nat.le_of_ble_eq_true rfl, Nat.le_of_ble_eq_true rfl⟩ hK hP hS hl.1 (rest := []) (Nat.le_of_ble_eq_true rfl) dX2_divide_41 h6 (fun H locs hP hS => ?_)
    refine lv_istore (lv' := [(4, .int r4), (3, .int r2), (0, .ref (ad 4)), (1, .int x1), (2, .int (zI z2))]) hx hb dX2_divide_44 hl (by decide) rfl (fun ls hl => ?_)
    refine lv_aload_n hx hb dX2_divide_46 rfl (lv_at hl 2 rfl) ?_
    refine gB_X2_registers hx hb hT hown hK hP (hT _ tF_X2_9) dX2_divide_47 ?_
    refine lv_iconst (v := 1) hx hb dX2_divide_50 (by decide) ?_
    refine lv_iconst (v := 0) hx hb dX2_divide_51 (by decide) ?_
    obtain ⟨S7, h7, hs⟩ := bv_e hs
    refine kX4_mark C tM_X2_158 ⟨Nat.le_of_ble_eq_true rfl, Nat.le_of_ble_eq_true rfl⟩ ⟨Nat.le_of_ble_eq_true rfl, Nat.le_of_ble_eq_true rfl⟩ hK hP hS hl.1 (rest := []) (Nat.le_of_ble_eq_true rfl) dX2_divide_52 h7 (fun H locs hP hS => ?_)
    refine lv_iload hx hb dX2_divide_55 (lv_at hl 0 rfl) ?_
    refine lv_if_ne (tgt := 69) hx hb dX2_divide_57 (by decide) (fun c2 => ?_) (fun c2 => ?_)
    · have hs := if_f c2 hs
      refine lv_iload_n hx hb dX2_divide_69 rfl (lv_at hl 4 rfl) ?_
      refine jn_e hs (fun K1 => ∀ (w2 : Int64) (S8 : St) (H : Heap) (locs : List Loc) (ls : Array Slot), lv_has ls 12 [(4, .int r4), (3, .int r2), (0, .ref (ad 4)), (2, .int (zI z2))] → va_P D vwCl (wB ad cI cB S8) H → va_S (AX 10 ad s.heap.size) s.heap H locs → K1 w2 S8 = some So → W p l e rmX2_divide s m ([.ref (ad 4), .int x1, .int (zI z2)] : List Value).toArray below meth c H locs 0 0 (MQ below (uQ D (wB ad cI cB) (none, So) (AX 10 ad s.heap.size)) ([.ref (ad 4), .int x1, .int (zI z2)] : List Value).toArray s 0 0 (AX 10 ad s.heap.size)) (F0 m 99 ls [.long w2])) ?_ (fun K1 J1 hs => ?_)
      · intro w2 S8 H locs ls hl hP hS hs
        refine lv_lstore (lv' := [(5, .long w2), (4, .int r4), (3, .int r2), (0, .ref (ad 4)), (2, .int (zI z2))]) hx hb dX2_divide_99 hl (by decide) rfl (fun ls hl => ?_)
        refine lv_iload_n hx hb dX2_divide_101 rfl (lv_at hl 4 rfl) ?_
        refine jn_e hs (fun K2 => ∀ (w3 : Int64) (H : Heap) (locs : List Loc) (ls : Array Slot), lv_has ls 12 [(5, .long w2), (3, .int r2), (0, .ref (ad 4)), (2, .int (zI z2))] → va_P D vwCl (wB ad cI cB S8) H → va_S (AX 10 ad s.heap.size) s.heap H locs → K2 w3 = some So → W p l e rmX2_divide s m ([.ref (ad 4), .int x1, .int (zI z2)] : List Value).toArray below meth c H locs 0 0 (MQ below (uQ D (wB ad cI cB) (none, So) (AX 10 ad s.heap.size)) ([.ref (ad 4), .int x1, .int (zI z2)] : List Value).toArray s 0 0 (AX 10 ad s.heap.size)) (F0 m 115 ls [.long w3])) ?_ (fun K2 J2 hs => ?_)
        · intro w3 H locs ls hl hP hS hs
          refine lv_lstore (lv' := [(7, .long w3), (5, .long w2), (3, .int r2), (0, .ref (ad 4)), (2, .int (zI z2))]) hx hb dX2_divide_115 hl (by decide) rfl (fun ls hl => ?_)
          refine lv_lload hx hb dX2_divide_117 (lv_at hl 1 rfl) ?_
          refine lv_lload hx hb dX2_divide_119 (lv_at hl 0 rfl) ?_
          obtain ⟨h8, hs⟩ := gd_e hs
          refine lv_ldiv hx hb dX2_divide_121 h8 ?_
          obtain ⟨w4, h9, hs⟩ := lt_e hs
          refine u_topl h9 ?_
          refine lv_lstore (lv' := [(9, .long w4), (7, .long w3), (5, .long w2), (3, .int r2), (0, .ref (ad 4)), (2, .int (zI z2))]) hx hb dX2_divide_122 hl (by decide) rfl (fun ls hl => ?_)
          refine lv_lload hx hb dX2_divide_124 (lv_at hl 0 rfl) ?_
          refine lv_iload_n hx hb dX2_divide_126 rfl (lv_at hl 5 rfl) ?_
          refine jn_e hs (fun K3 => ∀ (w5 : Int64) (H : Heap) (locs : List Loc) (ls : Array Slot), lv_has ls 12 [(9, .long w4), (7, .long w3), (5, .long w2), (3, .int r2), (0, .ref (ad 4))] → va_P D vwCl (wB ad cI cB S8) H → va_S (AX 10 ad s.heap.size) s.heap H locs → K3 w5 = some So → W p l e rmX2_divide s m ([.ref (ad 4), .int x1, .int (zI z2)] : List Value).toArray below meth c H locs 0 0 (MQ below (uQ D (wB ad cI cB) (none, So) (AX 10 ad s.heap.size)) ([.ref (ad 4), .int x1, .int (zI z2)] : List Value).toArray s 0 0 (AX 10 ad s.heap.size)) (F0 m 144 ls [.long w5, .long w4])) ?_ (fun K3 J3 hs => ?_)
          · intro w5 H locs ls hl hP hS hs
            refine W.lcmp hx hb dX2_divide_144 ?_
            refine lv_if_eq (tgt := 158) hx hb dX2_divide_145 (by decide) (fun c3 => ?_) (fun c3 => ?_)
            · have hs := if_t c3 hs
              refine lv_lload hx hb dX2_divide_158 (lv_at hl 2 rfl) ?_
              refine lv_lload hx hb dX2_divide_160 (lv_at hl 1 rfl) ?_
              obtain ⟨h10, hs⟩ := gd_e hs
              refine lv_lrem hx hb dX2_divide_162 h10 ?_
              refine lv_l2i (v := ((w2 - w2 / w3 * w3).toInt32)) hx hb dX2_divide_163 rfl ?_
              obtain ⟨v1, h11, hs⟩ := lt_e hs
              refine u_top h11 ?_
              refine lv_istore (lv' := [(11, .int v1), (9, .long w4), (7, .long w3), (5, .long w2), (3, .int r2), (0, .ref (ad 4))]) hx hb dX2_divide_164 hl (by decide) rfl (fun ls hl => ?_)
              refine lv_aload_n hx hb dX2_divide_166 rfl (lv_at hl 5 rfl) ?_
              refine gB_X2_registers hx hb hT hown hK hP (hT _ tF_X2_9) dX2_divide_167 ?_
              refine lv_iload_n hx hb dX2_divide_170 rfl (lv_at hl 4 rfl) ?_
              refine lv_iload hx hb dX2_divide_171 (lv_at hl 0 rfl) ?_
              refine lv_bipush (v := 16) hx hb dX2_divide_173 (by decide) ?_
              refine lv_ishl hx hb dX2_divide_175 ?_
              refine lv_aload_n hx hb dX2_divide_176 rfl (lv_at hl 5 rfl) ?_
              refine gB_X2_arithmetic hx hb hT hown hK hP (hT _ tF_X2_24) dX2_divide_177 ?_
              refine gS_WORD hx hb hown hK hS (hT _ tF_X2_49) dX2_divide_180 ?_
              refine lv_lload hx hb dX2_divide_183 (lv_at hl 1 rfl) ?_
              refine lv_l2i (v := (w4.toInt32)) hx hb dX2_divide_185 rfl ?_
              obtain ⟨r5, S9, h12, hs⟩ := bd_e hs
              refine kX1_logic C tM_X2_203 ⟨Nat.le_of_ble_eq_true rfl, Nat.le_of_ble_eq_true rfl⟩ ⟨Nat.le_of_ble_eq_true rfl, Nat.le_of_ble_eq_true rfl⟩ hK hP hS hl.1 (rest := [.int (v1 <<< ((16 : Int32) &&& 31)), .int r2, .ref (ad 2)]) (Nat.le_of_ble_eq_true rfl) dX2_divide_186 h12 (fun H locs hP hS => ?_)
              refine lv_ior hx hb dX2_divide_189 ?_
              obtain ⟨S10, h13, hs⟩ := bv_e hs
              refine kX4_set C tM_X2_143 ⟨Nat.le_of_ble_eq_true rfl, Nat.le_of_ble_eq_true rfl⟩ ⟨Nat.le_of_ble_eq_true rfl, Nat.le_of_ble_eq_true rfl⟩ hK hP hS hl.1 (rest := []) (Nat.le_of_ble_eq_true rfl) dX2_divide_190 h13 (fun H locs hP hS => ?_)
              exact u_vret hx hb hr hlocks hP hS hs dX2_divide_193
            · have hs := if_f c3 hs
              refine lv_aload_n hx hb dX2_divide_148 rfl (lv_at hl 4 rfl) ?_
              refine gB_X2_registers hx hb hT hown hK hP (hT _ tF_X2_9) dX2_divide_149 ?_
              refine lv_iconst (v := 2) hx hb dX2_divide_152 (by decide) ?_
              refine lv_iconst (v := 1) hx hb dX2_divide_153 (by decide) ?_
              obtain ⟨S11, h14, hs⟩ := bv_e hs
              refine kX4_mark C tM_X2_158 ⟨Nat.le_of_ble_eq_true rfl, Nat.le_of_ble_eq_true rfl⟩ ⟨Nat.le_of_ble_eq_true rfl, Nat.le_of_ble_eq_true rfl⟩ hK hP hS hl.1 (rest := []) (Nat.le_of_ble_eq_true rfl) dX2_divide_154 h14 (fun H locs hP hS => ?_)
              exact u_vret hx hb hr hlocks hP hS hs dX2_divide_157
          ·
            refine lv_if_eq (tgt := 138) hx hb dX2_divide_127 (by decide) (fun c4 => ?_) (fun c4 => ?_)
            · have hs := if_t c4 hs
              refine lv_lload hx hb dX2_divide_138 (lv_at hl 0 rfl) ?_
              refine lv_ldc2 (v := 65535) hx hb hown (hT _ tC_X2_333) dX2_divide_140 ?_
              refine lv_land hx hb dX2_divide_143 ?_
              exact J3 (w4 &&& 65535) _ _ _ (lv_sub hl [0, 1, 2, 3, 4] rfl) hP hS hs
            · have hs := if_f c4 hs
              refine lv_lload hx hb dX2_divide_130 (lv_at hl 0 rfl) ?_
              refine lv_l2i (v := (w4.toInt32)) hx hb dX2_divide_132 rfl ?_
              refine lv_i2s (v := ((w4.toInt32).toInt16.toInt32)) hx hb dX2_divide_133 rfl ?_
              refine lv_i2l (v := (((w4.toInt32).toInt16.toInt32).toInt64)) hx hb dX2_divide_134 rfl ?_
              refine lv_goto (tgt := 144) hx hb dX2_divide_135 (by decide) ?_
              exact J3 (((w4.toInt32).toInt16.toInt32).toInt64) _ _ _ (lv_sub hl [0, 1, 2, 3, 4] rfl) hP hS hs
        ·
          refine lv_if_eq (tgt := 112) hx hb dX2_divide_102 (by decide) (fun c5 => ?_) (fun c5 => ?_)
          · have hs := if_t c5 hs
            refine lv_iload hx hb dX2_divide_112 (lv_at hl 1 rfl) ?_
            refine lv_i2l (v := (r4.toInt64)) hx hb dX2_divide_114 rfl ?_
            exact J2 (r4.toInt64) _ _ _ (lv_sub hl [0, 2, 3, 4] rfl) hP hS hs
          · have hs := if_f c5 hs
            refine lv_iload hx hb dX2_divide_105 (lv_at hl 1 rfl) ?_
            refine lv_i2s (v := (r4.toInt16.toInt32)) hx hb dX2_divide_107 rfl ?_
            refine lv_i2l (v := ((r4.toInt16.toInt32).toInt64)) hx hb dX2_divide_108 rfl ?_
            refine lv_goto (tgt := 115) hx hb dX2_divide_109 (by decide) ?_
            exact J2 ((r4.toInt16.toInt32).toInt64) _ _ _ (lv_sub hl [0, 2, 3, 4] rfl) hP hS hs
      ·
        refine lv_if_eq (tgt := 85) hx hb dX2_divide_70 (by decide) (fun c6 => ?_) (fun c6 => ?_)
        · have hs := if_t c6 hs
          refine gS_LONG hx hb hown hK hS (hT _ tF_X2_46) dX2_divide_85 ?_
          refine lv_aload_n hx hb dX2_divide_88 rfl (lv_at hl 2 rfl) ?_
          refine gB_X2_registers hx hb hT hown hK hP (hT _ tF_X2_9) dX2_divide_89 ?_
          refine lv_iload_n hx hb dX2_divide_92 rfl (lv_at hl 1 rfl) ?_
          obtain ⟨r6, S12, h15, hs⟩ := bd_e hs
          refine kX4_get C tM_X2_124 ⟨Nat.le_of_ble_eq_true rfl, Nat.le_of_ble_eq_true rfl⟩ ⟨Nat.le_of_ble_eq_true rfl, Nat.le_of_ble_eq_true rfl⟩ hK hP hS hl.1 (rest := [.ref (en 2)]) (Nat.le_of_ble_eq_true rfl) dX2_divide_93 h15 (fun H locs hP hS => ?_)
          obtain ⟨w6, S13, h16, hs⟩ := bd_e hs
          refine kX5_unsigned C tM_X2_330 ⟨Nat.le_of_ble_eq_true rfl, Nat.le_of_ble_eq_true rfl⟩ ⟨Nat.le_of_ble_eq_true rfl, Nat.le_of_ble_eq_true rfl⟩ hK hP hS hl.1 (rest := []) (Nat.le_of_ble_eq_true rfl) dX2_divide_96 h16 (fun H locs hP hS => ?_)
          exact J1 w6 S13 _ _ _ (lv_sub hl [0, 1, 2, 4] rfl) hP hS hs
        · have hs := if_f c6 hs
          refine lv_aload_n hx hb dX2_divide_73 rfl (lv_at hl 2 rfl) ?_
          refine gB_X2_registers hx hb hT hown hK hP (hT _ tF_X2_9) dX2_divide_74 ?_
          refine lv_iload_n hx hb dX2_divide_77 rfl (lv_at hl 1 rfl) ?_
          obtain ⟨r7, S14, h17, hs⟩ := bd_e hs
          refine kX4_get C tM_X2_124 ⟨Nat.le_of_ble_eq_true rfl, Nat.le_of_ble_eq_true rfl⟩ ⟨Nat.le_of_ble_eq_true rfl, Nat.le_of_ble_eq_true rfl⟩ hK hP hS hl.1 (rest := []) (Nat.le_of_ble_eq_true rfl) dX2_divide_78 h17 (fun H locs hP hS => ?_)
          refine lv_i2l (v := (r7.toInt64)) hx hb dX2_divide_81 rfl ?_
          refine lv_goto (tgt := 99) hx hb dX2_divide_82 (by decide) ?_
          exact J1 (r7.toInt64) S14 _ _ _ (lv_sub hl [0, 1, 2, 4] rfl) hP hS hs
    · have hs := if_t c2 hs
      refine lv_aload_n hx hb dX2_divide_60 rfl (lv_at hl 2 rfl) ?_
      refine gB_X2_access hx hb hT hown hK hP (hT _ tF_X2_15) dX2_divide_61 ?_
      refine lv_iconst (v := 5) hx hb dX2_divide_64 (by decide) ?_
      obtain ⟨S15, h18, hs⟩ := bv_e hs
      refine kX0_raise C tM_X2_71 ⟨Nat.le_of_ble_eq_true rfl, Nat.le_of_ble_eq_true rfl⟩ ⟨Nat.le_of_ble_eq_true rfl, Nat.le_of_ble_eq_true rfl⟩ hK hP hS hl.1 (rest := []) (Nat.le_of_ble_eq_true rfl) dX2_divide_65 h18 (fun H locs hP hS => ?_)
      exact u_vret hx hb hr hlocks hP hS hs dX2_divide_68
  · have hs := if_f c1 hs
    exact u_vret hx hb hr hlocks hP hS hs dX2_divide_14
theorem kX2_divide {p : Program} {l : Launch} {e : Env} {R : Room} {s : State} {m : MethodId} {args : Array Value} {below : List Frame} {meth : Method} {c : Code} {H : Heap} {locs : List Loc} {cells slots : Nat} {Q : State → Prop} {cc : ByteArray} {pc nL : Nat} {ls : Array Slot} {rest : List Value} {D : va_G} {ad : Nat → Nat} {cI cB : ClassId} {en : Nat → Nat} {S : St} {own : String} {index : Nat} {x1 : Int32} {z2 : Bool} {So : St} (C : CallFix p m c cc nL s args wG own) (hlk : Cond.methodLink own index yX2_divide ∈ wG) (hR : rmX2_divide.frames + 1 ≤ R.frames ∧ 8 + (12 + 11) + rmX2_divide.locals ≤ R.locals) (hc : cells ≤ R.cells ∧ slots ≤ R.slots) (hK : KB D ad cI cB en s) (hP : va_P D vwCl (wB ad cI cB S) H) (hS : va_S (AX 10 ad s.heap.size) s.heap H locs) (hls : ls.size = nL) (hrest : (rest.map fun v => v.category).sum ≤ 8) (hd : decode cc pc = .ok (.invokevirtual index, 3)) (hs : fX2_divide x1 z2 S = some So) (k : ∀ (H : Heap) (locs : List Loc), va_P D vwCl (wB ad cI cB So) H → va_S (AX 10 ad s.heap.size) s.heap H locs → W p l e R s m args below meth c H locs cells slots Q (F0 m (pc + 3) ls (rest))) : W p l e R s m args below meth c H locs cells slots Q (F0 m pc ls (.int (zI z2) :: .int x1 :: .ref (ad 4) :: rest)) :=
  u_callV (n := 2) (mX2_divide l D ad cI cB en S x1 z2 So hs) C uK_B (wg_V hlk tI_X2_divide tS_X2_divide tN_X2 tK_X2_divide) rfl rfl rfl (by decide +kernel) hR rfl (va_recv hK.1 hP (ci := 2) (q0 := 4) rfl rfl) hK hP hS hls hrest hd hc rfl k
def fX2_pairMode (x0 : Int32) (S : St) : Option (Int32 × St) :=
    (if (x0 &&& 8) = 0 then (some (0, S))
    else (some (32, S)))
abbrev rmX2_pairMode : Room := { frames := 0, cells := 0, slots := 0, locals := 0 }
set_option maxRecDepth 100000 in
set_option maxHeartbeats 4000000 in
theorem mX2_pairMode (l : Launch) (D : va_G) (ad : Nat → Nat) (cI cB : ClassId) (en : Nat → Nat) (S : St) (x0 : Int32) (ro : Int32) (So : St) (hs : fX2_pairMode x0 S = some (ro, So)) : uM l yX2_pairMode (wg yX2_pairMode cX2_pairMode 1 (some .int)) rmX2_pairMode (KB D ad cI cB en) D (wB ad cI cB) (AX 10 ad) [.int x0] S (some (.int ro), So) := by
  refine uM_start (by decide) rfl ?_
  intro p e s m below meth c hx hb hr hlocks hml hown hts hK hP
  have hT : ∀ w ∈ wG, w.before _ s = true := fun w h => hts w (List.mem_cons_of_mem _ h)
  have hS : va_S (AX 10 ad s.heap.size) s.heap s.heap [] := va_S.rf
  have hown : s.vm.findClass RX2 = some m.cls := hown
  have C : CallFix p m c cX2_pairMode 1 s _ wG RX2 := ⟨hx, hb, hml, hown, hT⟩
  have hl := lv_entry ([.int x0]) (n := 1) (Nat.le_of_ble_eq_true rfl)
  rw [lg_entry_eq]
  generalize (lg_sl ([.int x0]) ++ List.replicate (1 - (lg_sl ([.int x0])).length) Slot.unset).toArray = ls at hl ⊢
  have hl : lv_has ls 1 [(0, .int x0)] := hl
  unfold fX2_pairMode at hs
  refine lv_iload_n hx hb dX2_pairMode_0 rfl (lv_at hl 0 rfl) ?_
  refine lv_bipush (v := 8) hx hb dX2_pairMode_1 (by decide) ?_
  refine lv_iand hx hb dX2_pairMode_3 ?_
  refine lv_if_eq (tgt := 12) hx hb dX2_pairMode_4 (by decide) (fun c1 => ?_) (fun c1 => ?_)
  · have hs := if_t c1 hs
    refine lv_iconst (v := 0) hx hb dX2_pairMode_12 (by decide) ?_
    exact u_iret hx hb hr hlocks hP hS hs dX2_pairMode_13
  · have hs := if_f c1 hs
    refine lv_bipush (v := 32) hx hb dX2_pairMode_7 (by decide) ?_
    refine lv_goto (tgt := 13) hx hb dX2_pairMode_9 (by decide) ?_
    exact u_iret hx hb hr hlocks hP hS hs dX2_pairMode_13
theorem kX2_pairMode {p : Program} {l : Launch} {e : Env} {R : Room} {s : State} {m : MethodId} {args : Array Value} {below : List Frame} {meth : Method} {c : Code} {H : Heap} {locs : List Loc} {cells slots : Nat} {Q : State → Prop} {cc : ByteArray} {pc nL : Nat} {ls : Array Slot} {rest : List Value} {D : va_G} {ad : Nat → Nat} {cI cB : ClassId} {en : Nat → Nat} {S : St} {own : String} {index : Nat} {x0 : Int32} {ro : Int32} {So : St} (C : CallFix p m c cc nL s args wG own) (hlk : Cond.methodLink own index yX2_pairMode ∈ wG) (hR : rmX2_pairMode.frames + 1 ≤ R.frames ∧ 8 + (1 + 11) + rmX2_pairMode.locals ≤ R.locals) (hc : cells ≤ R.cells ∧ slots ≤ R.slots) (hK : KB D ad cI cB en s) (hP : va_P D vwCl (wB ad cI cB S) H) (hS : va_S (AX 10 ad s.heap.size) s.heap H locs) (hls : ls.size = nL) (hrest : (rest.map fun v => v.category).sum ≤ 8) (hd : decode cc pc = .ok (.invokestatic index, 3)) (hs : fX2_pairMode x0 S = some (ro, So)) (k : ∀ (H : Heap) (locs : List Loc), va_P D vwCl (wB ad cI cB So) H → va_S (AX 10 ad s.heap.size) s.heap H locs → W p l e R s m args below meth c H locs cells slots Q (F0 m (pc + 3) ls (.int ro :: rest))) : W p l e R s m args below meth c H locs cells slots Q (F0 m pc ls (.int x0 :: rest)) :=
  u_callS (n := 1) (mX2_pairMode l D ad cI cB en S x0 ro So hs) C uK_B (wg_S hlk tI_X2_pairMode tN_X2 tK_X2_pairMode) rfl rfl rfl (by decide +kernel) hR rfl hK hP hS hls hrest hd hc rfl k
def fX2_decimalPair (x1 : Int32) (x2 : Int32) (S : St) : Option St :=
    (bd (fX2_pairMode x1 S) fun r1 S1 => (bd (fX2_lower x1 S1) fun r2 S2 => (bd (fX0_locate 0 (r1 ||| r2) S2) fun w1 S3 => (bd (fX0_load 0 w1 S3) fun r3 S4 => (bd (fX2_pairMode x1 S4) fun r4 S5 => (bd (fX2_upper x1 S5) fun r5 S6 => (bd (fX0_locate 0 (r4 ||| r5) S6) fun w2 S7 => (bd (fX0_load 0 w2 S7) fun r6 S8 => (jn (fun (v1 : Int32) (S9 : St) => (bv (fX0_store 0 w2 v1 S9) fun S10 => (some S10))) fun K1 =>
    (if x2 = 2 then (bd (fX1_decimalMinus r6 r3 S8) fun r8 S12 => (K1 r8 S12))
    else (bd (fX1_decimalPlus r6 r3 S8) fun r7 S11 => (K1 r7 S11))))))))))))
abbrev rmX2_decimalPair : Room := { frames := 3, cells := 0, slots := 0, locals := 73 }
set_option maxRecDepth 100000 in
set_option maxHeartbeats 4000000 in
theorem mX2_decimalPair (l : Launch) (D : va_G) (ad : Nat → Nat) (cI cB : ClassId) (en : Nat → Nat) (S : St) (x1 : Int32) (x2 : Int32) (So : St) (hs : fX2_decimalPair x1 x2 S = some So) : uM l yX2_decimalPair (wg yX2_decimalPair cX2_decimalPair 8 none) rmX2_decimalPair (KB D ad cI cB en) D (wB ad cI cB) (AX 10 ad) [.ref (ad 4), .int x1, .int x2] S (none, So) := by
  refine uM_start (by decide) rfl ?_
  intro p e s m below meth c hx hb hr hlocks hml hown hts hK hP
  have hT : ∀ w ∈ wG, w.before _ s = true := fun w h => hts w (List.mem_cons_of_mem _ h)
  have hS : va_S (AX 10 ad s.heap.size) s.heap s.heap [] := va_S.rf
  have hown : s.vm.findClass RX2 = some m.cls := hown
  have C : CallFix p m c cX2_decimalPair 8 s _ wG RX2 := ⟨hx, hb, hml, hown, hT⟩
  have hl := lv_entry ([.ref (ad 4), .int x1, .int x2]) (n := 8) (Nat.le_of_ble_eq_true rfl)
  rw [lg_entry_eq]
  generalize (lg_sl ([.ref (ad 4), .int x1, .int x2]) ++ List.replicate (8 - (lg_sl ([.ref (ad 4), .int x1, .int x2])).length) Slot.unset).toArray = ls at hl ⊢
  have hl : lv_has ls 8 [(0, .ref (ad 4)), (1, .int x1), (2, .int x2)] := hl
  unfold fX2_decimalPair at hs
  refine lv_aload_n hx hb dX2_decimalPair_0 rfl (lv_at hl 0 rfl) ?_
  refine gB_X2_access hx hb hT hown hK hP (hT _ tF_X2_15) dX2_decimalPair_1 ?_
  refine gS_BYTE hx hb hown hK hS (hT _ tF_X2_36) dX2_decimalPair_4 ?_
  refine lv_aload_n hx hb dX2_decimalPair_7 rfl (lv_at hl 0 rfl) ?_
  refine gB_X2_access hx hb hT hown hK hP (hT _ tF_X2_15) dX2_decimalPair_8 ?_
  refine gS_BYTE hx hb hown hK hS (hT _ tF_X2_36) dX2_decimalPair_11 ?_
  refine lv_iload_n hx hb dX2_decimalPair_14 rfl (lv_at hl 1 rfl) ?_
  obtain ⟨r1, S1, h1, hs⟩ := bd_e hs
  refine kX2_pairMode C tM_X2_323 ⟨Nat.le_of_ble_eq_true rfl, Nat.le_of_ble_eq_true rfl⟩ ⟨Nat.le_of_ble_eq_true rfl, Nat.le_of_ble_eq_true rfl⟩ hK hP hS hl.1 (rest := [.ref (en 0), .ref (ad 3), .ref (en 0), .ref (ad 3)]) (Nat.le_of_ble_eq_true rfl) dX2_decimalPair_15 h1 (fun H locs hP hS => ?_)
  refine lv_iload_n hx hb dX2_decimalPair_18 rfl (lv_at hl 1 rfl) ?_
  obtain ⟨r2, S2, h2, hs⟩ := bd_e hs
  refine kX2_lower C tM_X2_121 ⟨Nat.le_of_ble_eq_true rfl, Nat.le_of_ble_eq_true rfl⟩ ⟨Nat.le_of_ble_eq_true rfl, Nat.le_of_ble_eq_true rfl⟩ hK hP hS hl.1 (rest := [.int r1, .ref (en 0), .ref (ad 3), .ref (en 0), .ref (ad 3)]) (Nat.le_of_ble_eq_true rfl) dX2_decimalPair_19 h2 (fun H locs hP hS => ?_)
  refine lv_ior hx hb dX2_decimalPair_22 ?_
  obtain ⟨w1, S3, h3, hs⟩ := bd_e hs
  refine kX0_locate C tM_X2_150 ⟨Nat.le_of_ble_eq_true rfl, Nat.le_of_ble_eq_true rfl⟩ ⟨Nat.le_of_ble_eq_true rfl, Nat.le_of_ble_eq_true rfl⟩ hK hP hS hl.1 (rest := [.ref (en 0), .ref (ad 3)]) (Nat.le_of_ble_eq_true rfl) dX2_decimalPair_23 h3 (fun H locs hP hS => ?_)
  obtain ⟨r3, S4, h4, hs⟩ := bd_e hs
  refine kX0_load C tM_X2_154 ⟨Nat.le_of_ble_eq_true rfl, Nat.le_of_ble_eq_true rfl⟩ ⟨Nat.le_of_ble_eq_true rfl, Nat.le_of_ble_eq_true rfl⟩ hK hP hS hl.1 (rest := []) (Nat.le_of_ble_eq_true rfl) dX2_decimalPair_26 h4 (fun H locs hP hS => ?_)
  refine lv_istore_n (lv' := [(3, .int r3), (0, .ref (ad 4)), (1, .int x1), (2, .int x2)]) hx hb dX2_decimalPair_29 rfl hl (by decide) rfl (fun ls hl => ?_)
  refine lv_aload_n hx hb dX2_decimalPair_30 rfl (lv_at hl 1 rfl) ?_
  refine gB_X2_access hx hb hT hown hK hP (hT _ tF_X2_15) dX2_decimalPair_31 ?_
  refine gS_BYTE hx hb hown hK hS (hT _ tF_X2_36) dX2_decimalPair_34 ?_
  refine lv_iload_n hx hb dX2_decimalPair_37 rfl (lv_at hl 2 rfl) ?_
  obtain ⟨r4, S5, h5, hs⟩ := bd_e hs
  refine kX2_pairMode C tM_X2_323 ⟨Nat.le_of_ble_eq_true rfl, Nat.le_of_ble_eq_true rfl⟩ ⟨Nat.le_of_ble_eq_true rfl, Nat.le_of_ble_eq_true rfl⟩ hK hP hS hl.1 (rest := [.ref (en 0), .ref (ad 3)]) (Nat.le_of_ble_eq_true rfl) dX2_decimalPair_38 h5 (fun H locs hP hS => ?_)
  refine lv_iload_n hx hb dX2_decimalPair_41 rfl (lv_at hl 2 rfl) ?_
  obtain ⟨r5, S6, h6, hs⟩ := bd_e hs
  refine kX2_upper C tM_X2_101 ⟨Nat.le_of_ble_eq_true rfl, Nat.le_of_ble_eq_true rfl⟩ ⟨Nat.le_of_ble_eq_true rfl, Nat.le_of_ble_eq_true rfl⟩ hK hP hS hl.1 (rest := [.int r4, .ref (en 0), .ref (ad 3)]) (Nat.le_of_ble_eq_true rfl) dX2_decimalPair_42 h6 (fun H locs hP hS => ?_)
  refine lv_ior hx hb dX2_decimalPair_45 ?_
  obtain ⟨w2, S7, h7, hs⟩ := bd_e hs
  refine kX0_locate C tM_X2_150 ⟨Nat.le_of_ble_eq_true rfl, Nat.le_of_ble_eq_true rfl⟩ ⟨Nat.le_of_ble_eq_true rfl, Nat.le_of_ble_eq_true rfl⟩ hK hP hS hl.1 (rest := []) (Nat.le_of_ble_eq_true rfl) dX2_decimalPair_46 h7 (fun H locs hP hS => ?_)
  refine lv_lstore (lv' := [(4, .long w2), (3, .int r3), (0, .ref (ad 4)), (1, .int x1), (2, .int x2)]) hx hb dX2_decimalPair_49 hl (by decide) rfl (fun ls hl => ?_)
  refine lv_aload_n hx hb dX2_decimalPair_51 rfl (lv_at hl 2 rfl) ?_
  refine gB_X2_access hx hb hT hown hK hP (hT _ tF_X2_15) dX2_decimalPair_52 ?_
  refine gS_BYTE hx hb hown hK hS (hT _ tF_X2_36) dX2_decimalPair_55 ?_
  refine lv_lload hx hb dX2_decimalPair_58 (lv_at hl 0 rfl) ?_
  obtain ⟨r6, S8, h8, hs⟩ := bd_e hs
  refine kX0_load C tM_X2_154 ⟨Nat.le_of_ble_eq_true rfl, Nat.le_of_ble_eq_true rfl⟩ ⟨Nat.le_of_ble_eq_true rfl, Nat.le_of_ble_eq_true rfl⟩ hK hP hS hl.1 (rest := []) (Nat.le_of_ble_eq_true rfl) dX2_decimalPair_60 h8 (fun H locs hP hS => ?_)
  refine lv_istore (lv' := [(6, .int r6), (4, .long w2), (3, .int r3), (0, .ref (ad 4)), (1, .int x1), (2, .int x2)]) hx hb dX2_decimalPair_63 hl (by decide) rfl (fun ls hl => ?_)
  refine lv_iload_n hx hb dX2_decimalPair_65 rfl (lv_at hl 5 rfl) ?_
  refine lv_iconst (v := 2) hx hb dX2_decimalPair_66 (by decide) ?_
  refine jn_e hs (fun K1 => ∀ (v1 : Int32) (S9 : St) (H : Heap) (locs : List Loc) (ls : Array Slot), lv_has ls 8 [(4, .long w2), (0, .ref (ad 4))] → va_P D vwCl (wB ad cI cB S9) H → va_S (AX 10 ad s.heap.size) s.heap H locs → K1 v1 S9 = some So → W p l e rmX2_decimalPair s m ([.ref (ad 4), .int x1, .int x2] : List Value).toArray below meth c H locs 0 0 (MQ below (uQ D (wB ad cI cB) (none, So) (AX 10 ad s.heap.size)) ([.ref (ad 4), .int x1, .int x2] : List Value).toArray s 0 0 (AX 10 ad s.heap.size)) (F0 m 93 ls [.int v1])) ?_ (fun K1 J1 hs => ?_)
  · intro v1 S9 H locs ls hl hP hS hs
    refine lv_istore (lv' := [(7, .int v1), (4, .long w2), (0, .ref (ad 4))]) hx hb dX2_decimalPair_93 hl (by decide) rfl (fun ls hl => ?_)
    refine lv_aload_n hx hb dX2_decimalPair_95 rfl (lv_at hl 2 rfl) ?_
    refine gB_X2_access hx hb hT hown hK hP (hT _ tF_X2_15) dX2_decimalPair_96 ?_
    refine gS_BYTE hx hb hown hK hS (hT _ tF_X2_36) dX2_decimalPair_99 ?_
    refine lv_lload hx hb dX2_decimalPair_102 (lv_at hl 1 rfl) ?_
    refine lv_iload hx hb dX2_decimalPair_104 (lv_at hl 0 rfl) ?_
    obtain ⟨S10, h9, hs⟩ := bv_e hs
    refine kX0_store C tM_X2_161 ⟨Nat.le_of_ble_eq_true rfl, Nat.le_of_ble_eq_true rfl⟩ ⟨Nat.le_of_ble_eq_true rfl, Nat.le_of_ble_eq_true rfl⟩ hK hP hS hl.1 (rest := []) (Nat.le_of_ble_eq_true rfl) dX2_decimalPair_106 h9 (fun H locs hP hS => ?_)
    exact u_vret hx hb hr hlocks hP hS hs dX2_decimalPair_109
  ·
    refine lv_icmp_ne (tgt := 83) hx hb dX2_decimalPair_67 (by decide) (fun c1 => ?_) (fun c1 => ?_)
    · have hs := if_f c1 hs
      refine lv_aload_n hx hb dX2_decimalPair_83 rfl (lv_at hl 3 rfl) ?_
      refine gB_X2_arithmetic hx hb hT hown hK hP (hT _ tF_X2_24) dX2_decimalPair_84 ?_
      refine lv_iload hx hb dX2_decimalPair_87 (lv_at hl 0 rfl) ?_
      refine lv_iload_n hx hb dX2_decimalPair_89 rfl (lv_at hl 2 rfl) ?_
      obtain ⟨r7, S11, h10, hs⟩ := bd_e hs
      refine kX1_decimalPlus C tM_X2_326 ⟨Nat.le_of_ble_eq_true rfl, Nat.le_of_ble_eq_true rfl⟩ ⟨Nat.le_of_ble_eq_true rfl, Nat.le_of_ble_eq_true rfl⟩ hK hP hS hl.1 (rest := []) (Nat.le_of_ble_eq_true rfl) dX2_decimalPair_90 h10 (fun H locs hP hS => ?_)
      exact J1 r7 S11 _ _ _ (lv_sub hl [1, 3] rfl) hP hS hs
    · have hs := if_t c1 hs
      refine lv_aload_n hx hb dX2_decimalPair_70 rfl (lv_at hl 3 rfl) ?_
      refine gB_X2_arithmetic hx hb hT hown hK hP (hT _ tF_X2_24) dX2_decimalPair_71 ?_
      refine lv_iload hx hb dX2_decimalPair_74 (lv_at hl 0 rfl) ?_
      refine lv_iload_n hx hb dX2_decimalPair_76 rfl (lv_at hl 2 rfl) ?_
      obtain ⟨r8, S12, h11, hs⟩ := bd_e hs
      refine kX1_decimalMinus C tM_X2_245 ⟨Nat.le_of_ble_eq_true rfl, Nat.le_of_ble_eq_true rfl⟩ ⟨Nat.le_of_ble_eq_true rfl, Nat.le_of_ble_eq_true rfl⟩ hK hP hS hl.1 (rest := []) (Nat.le_of_ble_eq_true rfl) dX2_decimalPair_77 h11 (fun H locs hP hS => ?_)
      refine lv_goto (tgt := 93) hx hb dX2_decimalPair_80 (by decide) ?_
      exact J1 r8 S12 _ _ _ (lv_sub hl [1, 3] rfl) hP hS hs
theorem kX2_decimalPair {p : Program} {l : Launch} {e : Env} {R : Room} {s : State} {m : MethodId} {args : Array Value} {below : List Frame} {meth : Method} {c : Code} {H : Heap} {locs : List Loc} {cells slots : Nat} {Q : State → Prop} {cc : ByteArray} {pc nL : Nat} {ls : Array Slot} {rest : List Value} {D : va_G} {ad : Nat → Nat} {cI cB : ClassId} {en : Nat → Nat} {S : St} {own : String} {index : Nat} {x1 : Int32} {x2 : Int32} {So : St} (C : CallFix p m c cc nL s args wG own) (hlk : Cond.methodLink own index yX2_decimalPair ∈ wG) (hR : rmX2_decimalPair.frames + 1 ≤ R.frames ∧ 8 + (8 + 11) + rmX2_decimalPair.locals ≤ R.locals) (hc : cells ≤ R.cells ∧ slots ≤ R.slots) (hK : KB D ad cI cB en s) (hP : va_P D vwCl (wB ad cI cB S) H) (hS : va_S (AX 10 ad s.heap.size) s.heap H locs) (hls : ls.size = nL) (hrest : (rest.map fun v => v.category).sum ≤ 8) (hd : decode cc pc = .ok (.invokevirtual index, 3)) (hs : fX2_decimalPair x1 x2 S = some So) (k : ∀ (H : Heap) (locs : List Loc), va_P D vwCl (wB ad cI cB So) H → va_S (AX 10 ad s.heap.size) s.heap H locs → W p l e R s m args below meth c H locs cells slots Q (F0 m (pc + 3) ls (rest))) : W p l e R s m args below meth c H locs cells slots Q (F0 m pc ls (.int x2 :: .int x1 :: .ref (ad 4) :: rest)) :=
  u_callV (n := 2) (mX2_decimalPair l D ad cI cB en S x1 x2 So hs) C uK_B (wg_V hlk tI_X2_decimalPair tS_X2_decimalPair tN_X2 tK_X2_decimalPair) rfl rfl rfl (by decide +kernel) hR rfl (va_recv hK.1 hP (ci := 2) (q0 := 4) rfl rfl) hK hP hS hls hrest hd hc rfl k
def fX2_combine (x1 : Int32) (x2 : Int32) (x3 : Int32) (S : St) : Option St :=
    (bd (fX2_sizeBits x1 S) fun r1 S1 => (bd (fX5_of r1 S1) fun e1 S2 => (gd (e1 < 3) (bd (fX2_ofSize x3 e1 S2) fun r2 S3 => (bd (fX2_operand x1 S3) fun r3 S4 => (bd (fX2_misfits r2 r3 S4) fun b1 S5 => (if (zI b1) = 0 then (bd (fX2_operand x1 S5) fun r4 S6 => (bd (fX0_locate e1 r4 S6) fun w1 S7 => (bd (fX2_upper x1 S7) fun r5 S8 => (bd (fX0_inRegister r5 S8) fun w2 S9 => (bd (fX0_load e1 w1 S9) fun r6 S10 => (bd (fX0_load e1 w2 S10) fun r7 S11 => (bd (fX2_isTo x1 S11) fun b2 S12 => (if (zI b2) = 0 then (bd (fX1_joined x2 e1 r7 r6 S12) fun r8 S13 => (bv (fX0_store e1 w2 r8 S13) fun S14 => (some S14)))
    else (bd (fX1_joined x2 e1 r6 r7 S12) fun r9 S15 => (bv (fX0_store e1 w1 r9 S15) fun S16 => (some S16)))))))))))
    else (some S5))))))))
abbrev rmX2_combine : Room := { frames := 3, cells := 0, slots := 0, locals := 76 }
set_option maxRecDepth 100000 in
set_option maxHeartbeats 4000000 in
theorem mX2_combine (l : Launch) (D : va_G) (ad : Nat → Nat) (cI cB : ClassId) (en : Nat → Nat) (S : St) (x1 : Int32) (x2 : Int32) (x3 : Int32) (So : St) (hs : fX2_combine x1 x2 x3 S = some So) : uM l yX2_combine (wg yX2_combine cX2_combine 11 none) rmX2_combine (KB D ad cI cB en) D (wB ad cI cB) (AX 10 ad) [.ref (ad 4), .int x1, .int x2, .int x3] S (none, So) := by
  refine uM_start (by decide) rfl ?_
  intro p e s m below meth c hx hb hr hlocks hml hown hts hK hP
  have hT : ∀ w ∈ wG, w.before _ s = true := fun w h => hts w (List.mem_cons_of_mem _ h)
  have hS : va_S (AX 10 ad s.heap.size) s.heap s.heap [] := va_S.rf
  have hown : s.vm.findClass RX2 = some m.cls := hown
  have C : CallFix p m c cX2_combine 11 s _ wG RX2 := ⟨hx, hb, hml, hown, hT⟩
  have hl := lv_entry ([.ref (ad 4), .int x1, .int x2, .int x3]) (n := 11) (Nat.le_of_ble_eq_true rfl)
  rw [lg_entry_eq]
  generalize (lg_sl ([.ref (ad 4), .int x1, .int x2, .int x3]) ++ List.replicate (11 - (lg_sl ([.ref (ad 4), .int x1, .int x2, .int x3])).length) Slot.unset).toArray = ls at hl ⊢
  have hl : lv_has ls 11 [(0, .ref (ad 4)), (1, .int x1), (2, .int x2), (3, .int x3)] := hl
  unfold fX2_combine at hs
  refine lv_iload_n hx hb dX2_combine_0 rfl (lv_at hl 1 rfl) ?_
  obtain ⟨r1, S1, h1, hs⟩ := bd_e hs
  refine kX2_sizeBits C tM_X2_98 ⟨Nat.le_of_ble_eq_true rfl, Nat.le_of_ble_eq_true rfl⟩ ⟨Nat.le_of_ble_eq_true rfl, Nat.le_of_ble_eq_true rfl⟩ hK hP hS hl.1 (rest := []) (Nat.le_of_ble_eq_true rfl) dX2_combine_1 h1 (fun H locs hP hS => ?_)
  obtain ⟨e1, S2, h2, hs⟩ := bd_e hs
  refine kX5_of C tM_X2_181 ⟨Nat.le_of_ble_eq_true rfl, Nat.le_of_ble_eq_true rfl⟩ ⟨Nat.le_of_ble_eq_true rfl, Nat.le_of_ble_eq_true rfl⟩ hK hP hS hl.1 (rest := []) (Nat.le_of_ble_eq_true rfl) dX2_combine_4 h2 (fun H locs hP hS => ?_)
  obtain ⟨h3, hs⟩ := gd_e hs
  refine lv_astore (lv' := [(4, .ref (en e1)), (0, .ref (ad 4)), (1, .int x1), (2, .int x2), (3, .int x3)]) hx hb dX2_combine_7 hl (by decide) rfl (fun ls hl => ?_)
  refine lv_aload_n hx hb dX2_combine_9 rfl (lv_at hl 1 rfl) ?_
  refine lv_iload_n hx hb dX2_combine_10 rfl (lv_at hl 4 rfl) ?_
  refine lv_aload hx hb dX2_combine_11 (lv_at hl 0 rfl) ?_
  obtain ⟨r2, S3, h4, hs⟩ := bd_e hs
  refine kX2_ofSize C tM_X2_196 ⟨Nat.le_of_ble_eq_true rfl, Nat.le_of_ble_eq_true rfl⟩ ⟨Nat.le_of_ble_eq_true rfl, Nat.le_of_ble_eq_true rfl⟩ hK hP hS hl.1 (rest := [.ref (ad 4)]) (Nat.le_of_ble_eq_true rfl) dX2_combine_13 h4 (fun H locs hP hS => ?_)
  refine lv_iload_n hx hb dX2_combine_16 rfl (lv_at hl 2 rfl) ?_
  obtain ⟨r3, S4, h5, hs⟩ := bd_e hs
  refine kX2_operand C tM_X2_95 ⟨Nat.le_of_ble_eq_true rfl, Nat.le_of_ble_eq_true rfl⟩ ⟨Nat.le_of_ble_eq_true rfl, Nat.le_of_ble_eq_true rfl⟩ hK hP hS hl.1 (rest := [.int r2, .ref (ad 4)]) (Nat.le_of_ble_eq_true rfl) dX2_combine_17 h5 (fun H locs hP hS => ?_)
  obtain ⟨b1, S5, h6, hs⟩ := bd_e hs
  refine kX2_misfits C tM_X2_146 ⟨Nat.le_of_ble_eq_true rfl, Nat.le_of_ble_eq_true rfl⟩ ⟨Nat.le_of_ble_eq_true rfl, Nat.le_of_ble_eq_true rfl⟩ hK hP hS hl.1 (rest := []) (Nat.le_of_ble_eq_true rfl) dX2_combine_20 h6 (fun H locs hP hS => ?_)
  refine lv_if_eq (tgt := 27) hx hb dX2_combine_23 (by decide) (fun c1 => ?_) (fun c1 => ?_)
  · have hs := if_t c1 hs
    refine lv_aload_n hx hb dX2_combine_27 rfl (lv_at hl 1 rfl) ?_
    refine gB_X2_access hx hb hT hown hK hP (hT _ tF_X2_15) dX2_combine_28 ?_
    refine lv_aload hx hb dX2_combine_31 (lv_at hl 0 rfl) ?_
    refine lv_iload_n hx hb dX2_combine_33 rfl (lv_at hl 2 rfl) ?_
    obtain ⟨r4, S6, h7, hs⟩ := bd_e hs
    refine kX2_operand C tM_X2_95 ⟨Nat.le_of_ble_eq_true rfl, Nat.le_of_ble_eq_true rfl⟩ ⟨Nat.le_of_ble_eq_true rfl, Nat.le_of_ble_eq_true rfl⟩ hK hP hS hl.1 (rest := [.ref (en e1), .ref (ad 3)]) (Nat.le_of_ble_eq_true rfl) dX2_combine_34 h7 (fun H locs hP hS => ?_)
    obtain ⟨w1, S7, h8, hs⟩ := bd_e hs
    refine kX0_locate C tM_X2_150 ⟨Nat.le_of_ble_eq_true rfl, Nat.le_of_ble_eq_true rfl⟩ ⟨Nat.le_of_ble_eq_true rfl, Nat.le_of_ble_eq_true rfl⟩ hK hP hS hl.1 (rest := []) (Nat.le_of_ble_eq_true rfl) dX2_combine_37 h8 (fun H locs hP hS => ?_)
    refine lv_lstore (lv' := [(5, .long w1), (4, .ref (en e1)), (0, .ref (ad 4)), (1, .int x1), (2, .int x2), (3, .int x3)]) hx hb dX2_combine_40 hl (by decide) rfl (fun ls hl => ?_)
    refine lv_iload_n hx hb dX2_combine_42 rfl (lv_at hl 3 rfl) ?_
    obtain ⟨r5, S8, h9, hs⟩ := bd_e hs
    refine kX2_upper C tM_X2_101 ⟨Nat.le_of_ble_eq_true rfl, Nat.le_of_ble_eq_true rfl⟩ ⟨Nat.le_of_ble_eq_true rfl, Nat.le_of_ble_eq_true rfl⟩ hK hP hS hl.1 (rest := []) (Nat.le_of_ble_eq_true rfl) dX2_combine_43 h9 (fun H locs hP hS => ?_)
    obtain ⟨w2, S9, h10, hs⟩ := bd_e hs
    refine kX0_inRegister C tM_X2_256 ⟨Nat.le_of_ble_eq_true rfl, Nat.le_of_ble_eq_true rfl⟩ ⟨Nat.le_of_ble_eq_true rfl, Nat.le_of_ble_eq_true rfl⟩ hK hP hS hl.1 (rest := []) (Nat.le_of_ble_eq_true rfl) dX2_combine_46 h10 (fun H locs hP hS => ?_)
    refine lv_lstore (lv' := [(7, .long w2), (5, .long w1), (4, .ref (en e1)), (0, .ref (ad 4)), (1, .int x1), (2, .int x2), (3, .int x3)]) hx hb dX2_combine_49 hl (by decide) rfl (fun ls hl => ?_)
    refine lv_aload_n hx hb dX2_combine_51 rfl (lv_at hl 3 rfl) ?_
    refine gB_X2_access hx hb hT hown hK hP (hT _ tF_X2_15) dX2_combine_52 ?_
    refine lv_aload hx hb dX2_combine_55 (lv_at hl 2 rfl) ?_
    refine lv_lload hx hb dX2_combine_57 (lv_at hl 1 rfl) ?_
    obtain ⟨r6, S10, h11, hs⟩ := bd_e hs
    refine kX0_load C tM_X2_154 ⟨Nat.le_of_ble_eq_true rfl, Nat.le_of_ble_eq_true rfl⟩ ⟨Nat.le_of_ble_eq_true rfl, Nat.le_of_ble_eq_true rfl⟩ hK hP hS hl.1 (rest := []) (Nat.le_of_ble_eq_true rfl) dX2_combine_59 h11 (fun H locs hP hS => ?_)
    refine lv_istore (lv' := [(9, .int r6), (7, .long w2), (5, .long w1), (4, .ref (en e1)), (0, .ref (ad 4)), (1, .int x1), (2, .int x2), (3, .int x3)]) hx hb dX2_combine_62 hl (by decide) rfl (fun ls hl => ?_)
    refine lv_aload_n hx hb dX2_combine_64 rfl (lv_at hl 4 rfl) ?_
    refine gB_X2_access hx hb hT hown hK hP (hT _ tF_X2_15) dX2_combine_65 ?_
    refine lv_aload hx hb dX2_combine_68 (lv_at hl 3 rfl) ?_
    refine lv_lload hx hb dX2_combine_70 (lv_at hl 1 rfl) ?_
    obtain ⟨r7, S11, h12, hs⟩ := bd_e hs
    refine kX0_load C tM_X2_154 ⟨Nat.le_of_ble_eq_true rfl, Nat.le_of_ble_eq_true rfl⟩ ⟨Nat.le_of_ble_eq_true rfl, Nat.le_of_ble_eq_true rfl⟩ hK hP hS hl.1 (rest := []) (Nat.le_of_ble_eq_true rfl) dX2_combine_72 h12 (fun H locs hP hS => ?_)
    refine lv_istore (lv' := [(10, .int r7), (9, .int r6), (7, .long w2), (5, .long w1), (4, .ref (en e1)), (0, .ref (ad 4)), (1, .int x1), (2, .int x2), (3, .int x3)]) hx hb dX2_combine_75 hl (by decide) rfl (fun ls hl => ?_)
    refine lv_iload_n hx hb dX2_combine_77 rfl (lv_at hl 6 rfl) ?_
    obtain ⟨b2, S12, h13, hs⟩ := bd_e hs
    refine kX2_isTo C tM_X2_107 ⟨Nat.le_of_ble_eq_true rfl, Nat.le_of_ble_eq_true rfl⟩ ⟨Nat.le_of_ble_eq_true rfl, Nat.le_of_ble_eq_true rfl⟩ hK hP hS hl.1 (rest := []) (Nat.le_of_ble_eq_true rfl) dX2_combine_78 h13 (fun H locs hP hS => ?_)
    refine lv_if_eq (tgt := 112) hx hb dX2_combine_81 (by decide) (fun c2 => ?_) (fun c2 => ?_)
    · have hs := if_t c2 hs
      refine lv_aload_n hx hb dX2_combine_112 rfl (lv_at hl 5 rfl) ?_
      refine gB_X2_access hx hb hT hown hK hP (hT _ tF_X2_15) dX2_combine_113 ?_
      refine lv_aload hx hb dX2_combine_116 (lv_at hl 4 rfl) ?_
      refine lv_lload hx hb dX2_combine_118 (lv_at hl 2 rfl) ?_
      refine lv_aload_n hx hb dX2_combine_120 rfl (lv_at hl 5 rfl) ?_
      refine gB_X2_arithmetic hx hb hT hown hK hP (hT _ tF_X2_24) dX2_combine_121 ?_
      refine lv_iload_n hx hb dX2_combine_124 rfl (lv_at hl 7 rfl) ?_
      refine lv_aload hx hb dX2_combine_125 (lv_at hl 4 rfl) ?_
      refine lv_iload hx hb dX2_combine_127 (lv_at hl 0 rfl) ?_
      refine lv_iload hx hb dX2_combine_129 (lv_at hl 1 rfl) ?_
      obtain ⟨r8, S13, h14, hs⟩ := bd_e hs
      refine kX1_joined C tM_X2_192 ⟨Nat.le_of_ble_eq_true rfl, Nat.le_of_ble_eq_true rfl⟩ ⟨Nat.le_of_ble_eq_true rfl, Nat.le_of_ble_eq_true rfl⟩ hK hP hS hl.1 (rest := [.long w2, .ref (en e1), .ref (ad 3)]) (Nat.le_of_ble_eq_true rfl) dX2_combine_131 h14 (fun H locs hP hS => ?_)
      obtain ⟨S14, h15, hs⟩ := bv_e hs
      refine kX0_store C tM_X2_161 ⟨Nat.le_of_ble_eq_true rfl, Nat.le_of_ble_eq_true rfl⟩ ⟨Nat.le_of_ble_eq_true rfl, Nat.le_of_ble_eq_true rfl⟩ hK hP hS hl.1 (rest := []) (Nat.le_of_ble_eq_true rfl) dX2_combine_134 h15 (fun H locs hP hS => ?_)
      exact u_vret hx hb hr hlocks hP hS hs dX2_combine_137
    · have hs := if_f c2 hs
      refine lv_aload_n hx hb dX2_combine_84 rfl (lv_at hl 5 rfl) ?_
      refine gB_X2_access hx hb hT hown hK hP (hT _ tF_X2_15) dX2_combine_85 ?_
      refine lv_aload hx hb dX2_combine_88 (lv_at hl 4 rfl) ?_
      refine lv_lload hx hb dX2_combine_90 (lv_at hl 3 rfl) ?_
      refine lv_aload_n hx hb dX2_combine_92 rfl (lv_at hl 5 rfl) ?_
      refine gB_X2_arithmetic hx hb hT hown hK hP (hT _ tF_X2_24) dX2_combine_93 ?_
      refine lv_iload_n hx hb dX2_combine_96 rfl (lv_at hl 7 rfl) ?_
      refine lv_aload hx hb dX2_combine_97 (lv_at hl 4 rfl) ?_
      refine lv_iload hx hb dX2_combine_99 (lv_at hl 1 rfl) ?_
      refine lv_iload hx hb dX2_combine_101 (lv_at hl 0 rfl) ?_
      obtain ⟨r9, S15, h16, hs⟩ := bd_e hs
      refine kX1_joined C tM_X2_192 ⟨Nat.le_of_ble_eq_true rfl, Nat.le_of_ble_eq_true rfl⟩ ⟨Nat.le_of_ble_eq_true rfl, Nat.le_of_ble_eq_true rfl⟩ hK hP hS hl.1 (rest := [.long w1, .ref (en e1), .ref (ad 3)]) (Nat.le_of_ble_eq_true rfl) dX2_combine_103 h16 (fun H locs hP hS => ?_)
      obtain ⟨S16, h17, hs⟩ := bv_e hs
      refine kX0_store C tM_X2_161 ⟨Nat.le_of_ble_eq_true rfl, Nat.le_of_ble_eq_true rfl⟩ ⟨Nat.le_of_ble_eq_true rfl, Nat.le_of_ble_eq_true rfl⟩ hK hP hS hl.1 (rest := []) (Nat.le_of_ble_eq_true rfl) dX2_combine_106 h17 (fun H locs hP hS => ?_)
      refine lv_goto (tgt := 137) hx hb dX2_combine_109 (by decide) ?_
      exact u_vret hx hb hr hlocks hP hS hs dX2_combine_137
  · have hs := if_f c1 hs
    exact u_vret hx hb hr hlocks hP hS hs dX2_combine_26
theorem kX2_combine {p : Program} {l : Launch} {e : Env} {R : Room} {s : State} {m : MethodId} {args : Array Value} {below : List Frame} {meth : Method} {c : Code} {H : Heap} {locs : List Loc} {cells slots : Nat} {Q : State → Prop} {cc : ByteArray} {pc nL : Nat} {ls : Array Slot} {rest : List Value} {D : va_G} {ad : Nat → Nat} {cI cB : ClassId} {en : Nat → Nat} {S : St} {own : String} {index : Nat} {x1 : Int32} {x2 : Int32} {x3 : Int32} {So : St} (C : CallFix p m c cc nL s args wG own) (hlk : Cond.methodLink own index yX2_combine ∈ wG) (hR : rmX2_combine.frames + 1 ≤ R.frames ∧ 8 + (11 + 11) + rmX2_combine.locals ≤ R.locals) (hc : cells ≤ R.cells ∧ slots ≤ R.slots) (hK : KB D ad cI cB en s) (hP : va_P D vwCl (wB ad cI cB S) H) (hS : va_S (AX 10 ad s.heap.size) s.heap H locs) (hls : ls.size = nL) (hrest : (rest.map fun v => v.category).sum ≤ 8) (hd : decode cc pc = .ok (.invokevirtual index, 3)) (hs : fX2_combine x1 x2 x3 S = some So) (k : ∀ (H : Heap) (locs : List Loc), va_P D vwCl (wB ad cI cB So) H → va_S (AX 10 ad s.heap.size) s.heap H locs → W p l e R s m args below meth c H locs cells slots Q (F0 m (pc + 3) ls (rest))) : W p l e R s m args below meth c H locs cells slots Q (F0 m pc ls (.int x3 :: .int x2 :: .int x1 :: .ref (ad 4) :: rest)) :=
  u_callV (n := 3) (mX2_combine l D ad cI cB en S x1 x2 x3 So hs) C uK_B (wg_V hlk tI_X2_combine tS_X2_combine tN_X2 tK_X2_combine) rfl rfl rfl (by decide +kernel) hR rfl (va_recv hK.1 hP (ci := 2) (q0 := 4) rfl rfl) hK hP hS hls hrest hd hc rfl k
def fX2_lineEight (x1 : Int32) (S : St) : Option St :=
    (bd (fX2_sizeBits x1 S) fun r1 S1 => (if r1 = 3 then (bd (fX2_isTo x1 S1) fun b2 S5 => (bv (fX2_divide x1 b2 S5) fun S6 => (some S6)))
    else (if (x1 &&& 496) = 256 then (bv (fX2_decimalPair x1 2 S1) fun S4 => (some S4))
    else (bd (fX2_isTo x1 S1) fun b1 S2 => (jn (fun (v1 : Int32) => (bv (fX2_combine x1 0 v1 S2) fun S3 => (some S3))) fun K1 =>
    (if (zI b1) = 0 then (K1 4093)
    else (K1 508)))))))
abbrev rmX2_lineEight : Room := { frames := 4, cells := 0, slots := 0, locals := 106 }
set_option maxRecDepth 100000 in
set_option maxHeartbeats 4000000 in
theorem mX2_lineEight (l : Launch) (D : va_G) (ad : Nat → Nat) (cI cB : ClassId) (en : Nat → Nat) (S : St) (x1 : Int32) (So : St) (hs : fX2_lineEight x1 S = some So) : uM l yX2_lineEight (wg yX2_lineEight cX2_lineEight 2 none) rmX2_lineEight (KB D ad cI cB en) D (wB ad cI cB) (AX 10 ad) [.ref (ad 4), .int x1] S (none, So) := by
  refine uM_start (by decide) rfl ?_
  intro p e s m below meth c hx hb hr hlocks hml hown hts hK hP
  have hT : ∀ w ∈ wG, w.before _ s = true := fun w h => hts w (List.mem_cons_of_mem _ h)
  have hS : va_S (AX 10 ad s.heap.size) s.heap s.heap [] := va_S.rf
  have hown : s.vm.findClass RX2 = some m.cls := hown
  have C : CallFix p m c cX2_lineEight 2 s _ wG RX2 := ⟨hx, hb, hml, hown, hT⟩
  have hl := lv_entry ([.ref (ad 4), .int x1]) (n := 2) (Nat.le_of_ble_eq_true rfl)
  rw [lg_entry_eq]
  generalize (lg_sl ([.ref (ad 4), .int x1]) ++ List.replicate (2 - (lg_sl ([.ref (ad 4), .int x1])).length) Slot.unset).toArray = ls at hl ⊢
  have hl : lv_has ls 2 [(0, .ref (ad 4)), (1, .int x1)] := hl
  unfold fX2_lineEight at hs
  refine lv_iload_n hx hb dX2_lineEight_0 rfl (lv_at hl 1 rfl) ?_
  obtain ⟨r1, S1, h1, hs⟩ := bd_e hs
  refine kX2_sizeBits C tM_X2_98 ⟨Nat.le_of_ble_eq_true rfl, Nat.le_of_ble_eq_true rfl⟩ ⟨Nat.le_of_ble_eq_true rfl, Nat.le_of_ble_eq_true rfl⟩ hK hP hS hl.1 (rest := []) (Nat.le_of_ble_eq_true rfl) dX2_lineEight_1 h1 (fun H locs hP hS => ?_)
  refine lv_iconst (v := 3) hx hb dX2_lineEight_4 (by decide) ?_
  refine lv_icmp_ne (tgt := 20) hx hb dX2_lineEight_5 (by decide) (fun c1 => ?_) (fun c1 => ?_)
  · have hs := if_f c1 hs
    refine lv_iload_n hx hb dX2_lineEight_20 rfl (lv_at hl 1 rfl) ?_
    refine lv_sipush (v := 496) hx hb dX2_lineEight_21 (by decide) ?_
    refine lv_iand hx hb dX2_lineEight_24 ?_
    refine lv_sipush (v := 256) hx hb dX2_lineEight_25 (by decide) ?_
    refine lv_icmp_ne (tgt := 40) hx hb dX2_lineEight_28 (by decide) (fun c2 => ?_) (fun c2 => ?_)
    · have hs := if_f c2 hs
      refine lv_aload_n hx hb dX2_lineEight_40 rfl (lv_at hl 0 rfl) ?_
      refine lv_iload_n hx hb dX2_lineEight_41 rfl (lv_at hl 1 rfl) ?_
      refine lv_iconst (v := 0) hx hb dX2_lineEight_42 (by decide) ?_
      refine lv_iload_n hx hb dX2_lineEight_43 rfl (lv_at hl 1 rfl) ?_
      obtain ⟨b1, S2, h2, hs⟩ := bd_e hs
      refine kX2_isTo C tM_X2_107 ⟨Nat.le_of_ble_eq_true rfl, Nat.le_of_ble_eq_true rfl⟩ ⟨Nat.le_of_ble_eq_true rfl, Nat.le_of_ble_eq_true rfl⟩ hK hP hS hl.1 (rest := [.int 0, .int x1, .ref (ad 4)]) (Nat.le_of_ble_eq_true rfl) dX2_lineEight_44 h2 (fun H locs hP hS => ?_)
      refine jn_e hs (fun K1 => ∀ (v1 : Int32) (H : Heap) (locs : List Loc) (ls : Array Slot), lv_has ls 2 [] → va_P D vwCl (wB ad cI cB S2) H → va_S (AX 10 ad s.heap.size) s.heap H locs → K1 v1 = some So → W p l e rmX2_lineEight s m ([.ref (ad 4), .int x1] : List Value).toArray below meth c H locs 0 0 (MQ below (uQ D (wB ad cI cB) (none, So) (AX 10 ad s.heap.size)) ([.ref (ad 4), .int x1] : List Value).toArray s 0 0 (AX 10 ad s.heap.size)) (F0 m 59 ls [.int v1, .int 0, .int x1, .ref (ad 4)])) ?_ (fun K1 J1 hs => ?_)
      · intro v1 H locs ls hl hP hS hs
        obtain ⟨S3, h3, hs⟩ := bv_e hs
        refine kX2_combine C tM_X2_302 ⟨Nat.le_of_ble_eq_true rfl, Nat.le_of_ble_eq_true rfl⟩ ⟨Nat.le_of_ble_eq_true rfl, Nat.le_of_ble_eq_true rfl⟩ hK hP hS hl.1 (rest := []) (Nat.le_of_ble_eq_true rfl) dX2_lineEight_59 h3 (fun H locs hP hS => ?_)
        exact u_vret hx hb hr hlocks hP hS hs dX2_lineEight_62
      ·
        refine lv_if_eq (tgt := 56) hx hb dX2_lineEight_47 (by decide) (fun c3 => ?_) (fun c3 => ?_)
        · have hs := if_t c3 hs
          refine lv_sipush (v := 4093) hx hb dX2_lineEight_56 (by decide) ?_
          exact J1 4093 _ _ _ (lv_sub hl [] rfl) hP hS hs
        · have hs := if_f c3 hs
          refine lv_sipush (v := 508) hx hb dX2_lineEight_50 (by decide) ?_
          refine lv_goto (tgt := 59) hx hb dX2_lineEight_53 (by decide) ?_
          exact J1 508 _ _ _ (lv_sub hl [] rfl) hP hS hs
    · have hs := if_t c2 hs
      refine lv_aload_n hx hb dX2_lineEight_31 rfl (lv_at hl 0 rfl) ?_
      refine lv_iload_n hx hb dX2_lineEight_32 rfl (lv_at hl 1 rfl) ?_
      refine lv_iconst (v := 2) hx hb dX2_lineEight_33 (by decide) ?_
      obtain ⟨S4, h4, hs⟩ := bv_e hs
      refine kX2_decimalPair C tM_X2_299 ⟨Nat.le_of_ble_eq_true rfl, Nat.le_of_ble_eq_true rfl⟩ ⟨Nat.le_of_ble_eq_true rfl, Nat.le_of_ble_eq_true rfl⟩ hK hP hS hl.1 (rest := []) (Nat.le_of_ble_eq_true rfl) dX2_lineEight_34 h4 (fun H locs hP hS => ?_)
      refine lv_goto (tgt := 62) hx hb dX2_lineEight_37 (by decide) ?_
      exact u_vret hx hb hr hlocks hP hS hs dX2_lineEight_62
  · have hs := if_t c1 hs
    refine lv_aload_n hx hb dX2_lineEight_8 rfl (lv_at hl 0 rfl) ?_
    refine lv_iload_n hx hb dX2_lineEight_9 rfl (lv_at hl 1 rfl) ?_
    refine lv_iload_n hx hb dX2_lineEight_10 rfl (lv_at hl 1 rfl) ?_
    obtain ⟨b2, S5, h5, hs⟩ := bd_e hs
    refine kX2_isTo C tM_X2_107 ⟨Nat.le_of_ble_eq_true rfl, Nat.le_of_ble_eq_true rfl⟩ ⟨Nat.le_of_ble_eq_true rfl, Nat.le_of_ble_eq_true rfl⟩ hK hP hS hl.1 (rest := [.int x1, .ref (ad 4)]) (Nat.le_of_ble_eq_true rfl) dX2_lineEight_11 h5 (fun H locs hP hS => ?_)
    obtain ⟨S6, h6, hs⟩ := bv_e hs
    refine kX2_divide C tM_X2_296 ⟨Nat.le_of_ble_eq_true rfl, Nat.le_of_ble_eq_true rfl⟩ ⟨Nat.le_of_ble_eq_true rfl, Nat.le_of_ble_eq_true rfl⟩ hK hP hS hl.1 (rest := []) (Nat.le_of_ble_eq_true rfl) dX2_lineEight_14 h6 (fun H locs hP hS => ?_)
    refine lv_goto (tgt := 62) hx hb dX2_lineEight_17 (by decide) ?_
    exact u_vret hx hb hr hlocks hP hS hs dX2_lineEight_62
theorem kX2_lineEight {p : Program} {l : Launch} {e : Env} {R : Room} {s : State} {m : MethodId} {args : Array Value} {below : List Frame} {meth : Method} {c : Code} {H : Heap} {locs : List Loc} {cells slots : Nat} {Q : State → Prop} {cc : ByteArray} {pc nL : Nat} {ls : Array Slot} {rest : List Value} {D : va_G} {ad : Nat → Nat} {cI cB : ClassId} {en : Nat → Nat} {S : St} {own : String} {index : Nat} {x1 : Int32} {So : St} (C : CallFix p m c cc nL s args wG own) (hlk : Cond.methodLink own index yX2_lineEight ∈ wG) (hR : rmX2_lineEight.frames + 1 ≤ R.frames ∧ 8 + (2 + 11) + rmX2_lineEight.locals ≤ R.locals) (hc : cells ≤ R.cells ∧ slots ≤ R.slots) (hK : KB D ad cI cB en s) (hP : va_P D vwCl (wB ad cI cB S) H) (hS : va_S (AX 10 ad s.heap.size) s.heap H locs) (hls : ls.size = nL) (hrest : (rest.map fun v => v.category).sum ≤ 8) (hd : decode cc pc = .ok (.invokevirtual index, 3)) (hs : fX2_lineEight x1 S = some So) (k : ∀ (H : Heap) (locs : List Loc), va_P D vwCl (wB ad cI cB So) H → va_S (AX 10 ad s.heap.size) s.heap H locs → W p l e R s m args below meth c H locs cells slots Q (F0 m (pc + 3) ls (rest))) : W p l e R s m args below meth c H locs cells slots Q (F0 m pc ls (.int x1 :: .ref (ad 4) :: rest)) :=
  u_callV (n := 1) (mX2_lineEight l D ad cI cB en S x1 So hs) C uK_B (wg_V hlk tI_X2_lineEight tS_X2_lineEight tN_X2 tK_X2_lineEight) rfl rfl rfl (by decide +kernel) hR rfl (va_recv hK.1 hP (ci := 2) (q0 := 4) rfl rfl) hK hP hS hls hrest hd hc rfl k
def fX2_addressWork (x1 : Int32) (x2 : Int32) (S : St) : Option St :=
    (bd (fX2_operand x1 S) fun r1 S1 => (bd (fX2_misfits 4095 r1 S1) fun b1 S2 => (if (zI b1) = 0 then (bd (fX2_isTo x1 S2) fun b2 S3 => (jn (fun (e1 : Nat) => (gd (e1 < 3) (bd (fX2_operand x1 S3) fun r2 S4 => (bd (fX0_locate e1 r2 S4) fun w1 S5 => (bd (fX0_load e1 w1 S5) fun r3 S6 => (bd (fX5_extend e1 r3 S6) fun r4 S7 => (bd (fX2_upper x1 S7) fun r5 S8 => (lt ((8 + r5) : Int32) fun v1 => (if x2 = 6 then (bd (fX4_get v1 S8) fun r7 S11 => (bv (fX1_compare 2 r7 r4 S11) fun S12 => (some S12)))
    else (bd (fX4_get v1 S8) fun r6 S9 => (jn (fun (v2 : Int32) => (bv (fX4_set v1 (r6 + v2) S9) fun S10 => (some S10))) fun K2 =>
    (if x2 = 2 then (K2 (-r4))
    else (K2 r4))))))))))))) fun K1 =>
    (if (zI b2) = 0 then (K1 1)
    else (K1 2))))
    else (some S2))))
abbrev rmX2_addressWork : Room := { frames := 3, cells := 0, slots := 0, locals := 75 }
set_option maxRecDepth 100000 in
set_option maxHeartbeats 4000000 in
theorem mX2_addressWork (l : Launch) (D : va_G) (ad : Nat → Nat) (cI cB : ClassId) (en : Nat → Nat) (S : St) (x1 : Int32) (x2 : Int32) (So : St) (hs : fX2_addressWork x1 x2 S = some So) : uM l yX2_addressWork (wg yX2_addressWork cX2_addressWork 6 none) rmX2_addressWork (KB D ad cI cB en) D (wB ad cI cB) (AX 10 ad) [.ref (ad 4), .int x1, .int x2] S (none, So) := by
  refine uM_start (by decide) rfl ?_
  intro p e s m below meth c hx hb hr hlocks hml hown hts hK hP
  have hT : ∀ w ∈ wG, w.before _ s = true := fun w h => hts w (List.mem_cons_of_mem _ h)
  have hS : va_S (AX 10 ad s.heap.size) s.heap s.heap [] := va_S.rf
  have hown : s.vm.findClass RX2 = some m.cls := hown
  have C : CallFix p m c cX2_addressWork 6 s _ wG RX2 := ⟨hx, hb, hml, hown, hT⟩
  have hl := lv_entry ([.ref (ad 4), .int x1, .int x2]) (n := 6) (Nat.le_of_ble_eq_true rfl)
  rw [lg_entry_eq]
  generalize (lg_sl ([.ref (ad 4), .int x1, .int x2]) ++ List.replicate (6 - (lg_sl ([.ref (ad 4), .int x1, .int x2])).length) Slot.unset).toArray = ls at hl ⊢
  have hl : lv_has ls 6 [(0, .ref (ad 4)), (1, .int x1), (2, .int x2)] := hl
  unfold fX2_addressWork at hs
  refine lv_aload_n hx hb dX2_addressWork_0 rfl (lv_at hl 0 rfl) ?_
  refine lv_sipush (v := 4095) hx hb dX2_addressWork_1 (by decide) ?_
  refine lv_iload_n hx hb dX2_addressWork_4 rfl (lv_at hl 1 rfl) ?_
  obtain ⟨r1, S1, h1, hs⟩ := bd_e hs
  refine kX2_operand C tM_X2_95 ⟨Nat.le_of_ble_eq_true rfl, Nat.le_of_ble_eq_true rfl⟩ ⟨Nat.le_of_ble_eq_true rfl, Nat.le_of_ble_eq_true rfl⟩ hK hP hS hl.1 (rest := [.int 4095, .ref (ad 4)]) (Nat.le_of_ble_eq_true rfl) dX2_addressWork_5 h1 (fun H locs hP hS => ?_)
  obtain ⟨b1, S2, h2, hs⟩ := bd_e hs
  refine kX2_misfits C tM_X2_146 ⟨Nat.le_of_ble_eq_true rfl, Nat.le_of_ble_eq_true rfl⟩ ⟨Nat.le_of_ble_eq_true rfl, Nat.le_of_ble_eq_true rfl⟩ hK hP hS hl.1 (rest := []) (Nat.le_of_ble_eq_true rfl) dX2_addressWork_8 h2 (fun H locs hP hS => ?_)
  refine lv_if_eq (tgt := 15) hx hb dX2_addressWork_11 (by decide) (fun c1 => ?_) (fun c1 => ?_)
  · have hs := if_t c1 hs
    refine lv_iload_n hx hb dX2_addressWork_15 rfl (lv_at hl 1 rfl) ?_
    obtain ⟨b2, S3, h3, hs⟩ := bd_e hs
    refine kX2_isTo C tM_X2_107 ⟨Nat.le_of_ble_eq_true rfl, Nat.le_of_ble_eq_true rfl⟩ ⟨Nat.le_of_ble_eq_true rfl, Nat.le_of_ble_eq_true rfl⟩ hK hP hS hl.1 (rest := []) (Nat.le_of_ble_eq_true rfl) dX2_addressWork_16 h3 (fun H locs hP hS => ?_)
    refine jn_e hs (fun K1 => ∀ (e1 : Nat) (H : Heap) (locs : List Loc) (ls : Array Slot), lv_has ls 6 [(0, .ref (ad 4)), (1, .int x1), (2, .int x2)] → va_P D vwCl (wB ad cI cB S3) H → va_S (AX 10 ad s.heap.size) s.heap H locs → K1 e1 = some So → W p l e rmX2_addressWork s m ([.ref (ad 4), .int x1, .int x2] : List Value).toArray below meth c H locs 0 0 (MQ below (uQ D (wB ad cI cB) (none, So) (AX 10 ad s.heap.size)) ([.ref (ad 4), .int x1, .int x2] : List Value).toArray s 0 0 (AX 10 ad s.heap.size)) (F0 m 31 ls [.ref (en e1)])) ?_ (fun K1 J1 hs => ?_)
    · intro e1 H locs ls hl hP hS hs
      obtain ⟨h4, hs⟩ := gd_e hs
      refine lv_astore_n (lv' := [(3, .ref (en e1)), (0, .ref (ad 4)), (1, .int x1), (2, .int x2)]) hx hb dX2_addressWork_31 rfl hl (by decide) rfl (fun ls hl => ?_)
      refine lv_aload_n hx hb dX2_addressWork_32 rfl (lv_at hl 0 rfl) ?_
      refine lv_aload_n hx hb dX2_addressWork_33 rfl (lv_at hl 1 rfl) ?_
      refine gB_X2_access hx hb hT hown hK hP (hT _ tF_X2_15) dX2_addressWork_34 ?_
      refine lv_aload_n hx hb dX2_addressWork_37 rfl (lv_at hl 0 rfl) ?_
      refine lv_aload_n hx hb dX2_addressWork_38 rfl (lv_at hl 1 rfl) ?_
      refine gB_X2_access hx hb hT hown hK hP (hT _ tF_X2_15) dX2_addressWork_39 ?_
      refine lv_aload_n hx hb dX2_addressWork_42 rfl (lv_at hl 0 rfl) ?_
      refine lv_iload_n hx hb dX2_addressWork_43 rfl (lv_at hl 2 rfl) ?_
      obtain ⟨r2, S4, h5, hs⟩ := bd_e hs
      refine kX2_operand C tM_X2_95 ⟨Nat.le_of_ble_eq_true rfl, Nat.le_of_ble_eq_true rfl⟩ ⟨Nat.le_of_ble_eq_true rfl, Nat.le_of_ble_eq_true rfl⟩ hK hP hS hl.1 (rest := [.ref (en e1), .ref (ad 3), .ref (en e1), .ref (ad 3), .ref (en e1)]) (Nat.le_of_ble_eq_true rfl) dX2_addressWork_44 h5 (fun H locs hP hS => ?_)
      obtain ⟨w1, S5, h6, hs⟩ := bd_e hs
      refine kX0_locate C tM_X2_150 ⟨Nat.le_of_ble_eq_true rfl, Nat.le_of_ble_eq_true rfl⟩ ⟨Nat.le_of_ble_eq_true rfl, Nat.le_of_ble_eq_true rfl⟩ hK hP hS hl.1 (rest := [.ref (en e1), .ref (ad 3), .ref (en e1)]) (Nat.le_of_ble_eq_true rfl) dX2_addressWork_47 h6 (fun H locs hP hS => ?_)
      obtain ⟨r3, S6, h7, hs⟩ := bd_e hs
      refine kX0_load C tM_X2_154 ⟨Nat.le_of_ble_eq_true rfl, Nat.le_of_ble_eq_true rfl⟩ ⟨Nat.le_of_ble_eq_true rfl, Nat.le_of_ble_eq_true rfl⟩ hK hP hS hl.1 (rest := [.ref (en e1)]) (Nat.le_of_ble_eq_true rfl) dX2_addressWork_50 h7 (fun H locs hP hS => ?_)
      obtain ⟨r4, S7, h8, hs⟩ := bd_e hs
      refine kX5_extend C tM_X2_200 ⟨Nat.le_of_ble_eq_true rfl, Nat.le_of_ble_eq_true rfl⟩ ⟨Nat.le_of_ble_eq_true rfl, Nat.le_of_ble_eq_true rfl⟩ hK hP hS hl.1 (rest := []) (Nat.le_of_ble_eq_true rfl) dX2_addressWork_53 h8 (fun H locs hP hS => ?_)
      refine lv_istore (lv' := [(4, .int r4), (3, .ref (en e1)), (0, .ref (ad 4)), (1, .int x1), (2, .int x2)]) hx hb dX2_addressWork_56 hl (by decide) rfl (fun ls hl => ?_)
      refine lv_bipush (v := 8) hx hb dX2_addressWork_58 (by decide) ?_
      refine lv_iload_n hx hb dX2_addressWork_60 rfl (lv_at hl 3 rfl) ?_
      obtain ⟨r5, S8, h9, hs⟩ := bd_e hs
      refine kX2_upper C tM_X2_101 ⟨Nat.le_of_ble_eq_true rfl, Nat.le_of_ble_eq_true rfl⟩ ⟨Nat.le_of_ble_eq_true rfl, Nat.le_of_ble_eq_true rfl⟩ hK hP hS hl.1 (rest := [.int 8]) (Nat.le_of_ble_eq_true rfl) dX2_addressWork_61 h9 (fun H locs hP hS => ?_)
      refine lv_iadd hx hb dX2_addressWork_64 ?_
      obtain ⟨v1, h10, hs⟩ := lt_e hs
      refine u_top h10 ?_
      refine lv_istore (lv' := [(5, .int v1), (4, .int r4), (3, .ref (en e1)), (0, .ref (ad 4)), (1, .int x1), (2, .int x2)]) hx hb dX2_addressWork_65 hl (by decide) rfl (fun ls hl => ?_)
      refine lv_iload_n hx hb dX2_addressWork_67 rfl (lv_at hl 5 rfl) ?_
      refine lv_bipush (v := 6) hx hb dX2_addressWork_68 (by decide) ?_
      refine lv_icmp_ne (tgt := 97) hx hb dX2_addressWork_70 (by decide) (fun c2 => ?_) (fun c2 => ?_)
      · have hs := if_f c2 hs
        refine lv_aload_n hx hb dX2_addressWork_97 rfl (lv_at hl 3 rfl) ?_
        refine gB_X2_registers hx hb hT hown hK hP (hT _ tF_X2_9) dX2_addressWork_98 ?_
        refine lv_iload hx hb dX2_addressWork_101 (lv_at hl 0 rfl) ?_
        refine lv_aload_n hx hb dX2_addressWork_103 rfl (lv_at hl 3 rfl) ?_
        refine gB_X2_registers hx hb hT hown hK hP (hT _ tF_X2_9) dX2_addressWork_104 ?_
        refine lv_iload hx hb dX2_addressWork_107 (lv_at hl 0 rfl) ?_
        obtain ⟨r6, S9, h11, hs⟩ := bd_e hs
        refine kX4_get C tM_X2_124 ⟨Nat.le_of_ble_eq_true rfl, Nat.le_of_ble_eq_true rfl⟩ ⟨Nat.le_of_ble_eq_true rfl, Nat.le_of_ble_eq_true rfl⟩ hK hP hS hl.1 (rest := [.int v1, .ref (ad 2)]) (Nat.le_of_ble_eq_true rfl) dX2_addressWork_109 h11 (fun H locs hP hS => ?_)
        refine lv_iload_n hx hb dX2_addressWork_112 rfl (lv_at hl 5 rfl) ?_
        refine lv_iconst (v := 2) hx hb dX2_addressWork_113 (by decide) ?_
        refine jn_e hs (fun K2 => ∀ (v2 : Int32) (H : Heap) (locs : List Loc) (ls : Array Slot), lv_has ls 6 [] → va_P D vwCl (wB ad cI cB S9) H → va_S (AX 10 ad s.heap.size) s.heap H locs → K2 v2 = some So → W p l e rmX2_addressWork s m ([.ref (ad 4), .int x1, .int x2] : List Value).toArray below meth c H locs 0 0 (MQ below (uQ D (wB ad cI cB) (none, So) (AX 10 ad s.heap.size)) ([.ref (ad 4), .int x1, .int x2] : List Value).toArray s 0 0 (AX 10 ad s.heap.size)) (F0 m 125 ls [.int v2, .int r6, .int v1, .ref (ad 2)])) ?_ (fun K2 J2 hs => ?_)
        · intro v2 H locs ls hl hP hS hs
          refine lv_iadd hx hb dX2_addressWork_125 ?_
          obtain ⟨S10, h12, hs⟩ := bv_e hs
          refine kX4_set C tM_X2_143 ⟨Nat.le_of_ble_eq_true rfl, Nat.le_of_ble_eq_true rfl⟩ ⟨Nat.le_of_ble_eq_true rfl, Nat.le_of_ble_eq_true rfl⟩ hK hP hS hl.1 (rest := []) (Nat.le_of_ble_eq_true rfl) dX2_addressWork_126 h12 (fun H locs hP hS => ?_)
          exact u_vret hx hb hr hlocks hP hS hs dX2_addressWork_129
        ·
          refine lv_icmp_ne (tgt := 123) hx hb dX2_addressWork_114 (by decide) (fun c3 => ?_) (fun c3 => ?_)
          · have hs := if_f c3 hs
            refine lv_iload hx hb dX2_addressWork_123 (lv_at hl 1 rfl) ?_
            exact J2 r4 _ _ _ (lv_sub hl [] rfl) hP hS hs
          · have hs := if_t c3 hs
            refine lv_iload hx hb dX2_addressWork_117 (lv_at hl 1 rfl) ?_
            refine lv_ineg hx hb dX2_addressWork_119 ?_
            refine lv_goto (tgt := 125) hx hb dX2_addressWork_120 (by decide) ?_
            exact J2 (-r4) _ _ _ (lv_sub hl [] rfl) hP hS hs
      · have hs := if_t c2 hs
        refine lv_aload_n hx hb dX2_addressWork_73 rfl (lv_at hl 3 rfl) ?_
        refine gB_X2_arithmetic hx hb hT hown hK hP (hT _ tF_X2_24) dX2_addressWork_74 ?_
        refine gS_LONG hx hb hown hK hS (hT _ tF_X2_46) dX2_addressWork_77 ?_
        refine lv_aload_n hx hb dX2_addressWork_80 rfl (lv_at hl 3 rfl) ?_
        refine gB_X2_registers hx hb hT hown hK hP (hT _ tF_X2_9) dX2_addressWork_81 ?_
        refine lv_iload hx hb dX2_addressWork_84 (lv_at hl 0 rfl) ?_
        obtain ⟨r7, S11, h13, hs⟩ := bd_e hs
        refine kX4_get C tM_X2_124 ⟨Nat.le_of_ble_eq_true rfl, Nat.le_of_ble_eq_true rfl⟩ ⟨Nat.le_of_ble_eq_true rfl, Nat.le_of_ble_eq_true rfl⟩ hK hP hS hl.1 (rest := [.ref (en 2), .ref (ad 5)]) (Nat.le_of_ble_eq_true rfl) dX2_addressWork_86 h13 (fun H locs hP hS => ?_)
        refine lv_iload hx hb dX2_addressWork_89 (lv_at hl 1 rfl) ?_
        obtain ⟨S12, h14, hs⟩ := bv_e hs
        refine kX1_compare C tM_X2_189 ⟨Nat.le_of_ble_eq_true rfl, Nat.le_of_ble_eq_true rfl⟩ ⟨Nat.le_of_ble_eq_true rfl, Nat.le_of_ble_eq_true rfl⟩ hK hP hS hl.1 (rest := []) (Nat.le_of_ble_eq_true rfl) dX2_addressWork_91 h14 (fun H locs hP hS => ?_)
        refine lv_goto (tgt := 129) hx hb dX2_addressWork_94 (by decide) ?_
        exact u_vret hx hb hr hlocks hP hS hs dX2_addressWork_129
    ·
      refine lv_if_eq (tgt := 28) hx hb dX2_addressWork_19 (by decide) (fun c4 => ?_) (fun c4 => ?_)
      · have hs := if_t c4 hs
        refine gS_WORD hx hb hown hK hS (hT _ tF_X2_49) dX2_addressWork_28 ?_
        exact J1 1 _ _ _ (lv_sub hl [0, 1, 2] rfl) hP hS hs
      · have hs := if_f c4 hs
        refine gS_LONG hx hb hown hK hS (hT _ tF_X2_46) dX2_addressWork_22 ?_
        refine lv_goto (tgt := 31) hx hb dX2_addressWork_25 (by decide) ?_
        exact J1 2 _ _ _ (lv_sub hl [0, 1, 2] rfl) hP hS hs
  · have hs := if_f c1 hs
    exact u_vret hx hb hr hlocks hP hS hs dX2_addressWork_14
theorem kX2_addressWork {p : Program} {l : Launch} {e : Env} {R : Room} {s : State} {m : MethodId} {args : Array Value} {below : List Frame} {meth : Method} {c : Code} {H : Heap} {locs : List Loc} {cells slots : Nat} {Q : State → Prop} {cc : ByteArray} {pc nL : Nat} {ls : Array Slot} {rest : List Value} {D : va_G} {ad : Nat → Nat} {cI cB : ClassId} {en : Nat → Nat} {S : St} {own : String} {index : Nat} {x1 : Int32} {x2 : Int32} {So : St} (C : CallFix p m c cc nL s args wG own) (hlk : Cond.methodLink own index yX2_addressWork ∈ wG) (hR : rmX2_addressWork.frames + 1 ≤ R.frames ∧ 8 + (6 + 11) + rmX2_addressWork.locals ≤ R.locals) (hc : cells ≤ R.cells ∧ slots ≤ R.slots) (hK : KB D ad cI cB en s) (hP : va_P D vwCl (wB ad cI cB S) H) (hS : va_S (AX 10 ad s.heap.size) s.heap H locs) (hls : ls.size = nL) (hrest : (rest.map fun v => v.category).sum ≤ 8) (hd : decode cc pc = .ok (.invokevirtual index, 3)) (hs : fX2_addressWork x1 x2 S = some So) (k : ∀ (H : Heap) (locs : List Loc), va_P D vwCl (wB ad cI cB So) H → va_S (AX 10 ad s.heap.size) s.heap H locs → W p l e R s m args below meth c H locs cells slots Q (F0 m (pc + 3) ls (rest))) : W p l e R s m args below meth c H locs cells slots Q (F0 m pc ls (.int x2 :: .int x1 :: .ref (ad 4) :: rest)) :=
  u_callV (n := 2) (mX2_addressWork l D ad cI cB en S x1 x2 So hs) C uK_B (wg_V hlk tI_X2_addressWork tS_X2_addressWork tN_X2 tK_X2_addressWork) rfl rfl rfl (by decide +kernel) hR rfl (va_recv hK.1 hP (ci := 2) (q0 := 4) rfl rfl) hK hP hS hls hrest hd hc rfl k
def fX2_pairWithX (x1 : Int32) (x2 : Int32) (S : St) : Option St :=
    (bd (fX2_sizeBits x1 S) fun r1 S1 => (bd (fX5_of r1 S1) fun e1 S2 => (gd (e1 < 3) (bd (fX2_pairMode x1 S2) fun r2 S3 => (bd (fX2_lower x1 S3) fun r3 S4 => (bd (fX0_locate e1 (r2 ||| r3) S4) fun w1 S5 => (bd (fX0_load e1 w1 S5) fun r4 S6 => (bd (fX2_pairMode x1 S6) fun r5 S7 => (bd (fX2_upper x1 S7) fun r6 S8 => (bd (fX0_locate e1 (r5 ||| r6) S8) fun w2 S9 => (bd (fX0_load e1 w2 S9) fun r7 S10 => (bd (fX1_joinedWithX x2 e1 r7 r4 S10) fun r8 S11 => (bv (fX0_store e1 w2 r8 S11) fun S12 => (some S12))))))))))))))
abbrev rmX2_pairWithX : Room := { frames := 3, cells := 0, slots := 0, locals := 78 }
set_option maxRecDepth 100000 in
set_option maxHeartbeats 4000000 in
theorem mX2_pairWithX (l : Launch) (D : va_G) (ad : Nat → Nat) (cI cB : ClassId) (en : Nat → Nat) (S : St) (x1 : Int32) (x2 : Int32) (So : St) (hs : fX2_pairWithX x1 x2 S = some So) : uM l yX2_pairWithX (wg yX2_pairWithX cX2_pairWithX 8 none) rmX2_pairWithX (KB D ad cI cB en) D (wB ad cI cB) (AX 10 ad) [.ref (ad 4), .int x1, .int x2] S (none, So) := by
  refine uM_start (by decide) rfl ?_
  intro p e s m below meth c hx hb hr hlocks hml hown hts hK hP
  have hT : ∀ w ∈ wG, w.before _ s = true := fun w h => hts w (List.mem_cons_of_mem _ h)
  have hS : va_S (AX 10 ad s.heap.size) s.heap s.heap [] := va_S.rf
  have hown : s.vm.findClass RX2 = some m.cls := hown
  have C : CallFix p m c cX2_pairWithX 8 s _ wG RX2 := ⟨hx, hb, hml, hown, hT⟩
  have hl := lv_entry ([.ref (ad 4), .int x1, .int x2]) (n := 8) (Nat.le_of_ble_eq_true rfl)
  rw [lg_entry_eq]
  generalize (lg_sl ([.ref (ad 4), .int x1, .int x2]) ++ List.replicate (8 - (lg_sl ([.ref (ad 4), .int x1, .int x2])).length) Slot.unset).toArray = ls at hl ⊢
  have hl : lv_has ls 8 [(0, .ref (ad 4)), (1, .int x1), (2, .int x2)] := hl
  unfold fX2_pairWithX at hs
  refine lv_iload_n hx hb dX2_pairWithX_0 rfl (lv_at hl 1 rfl) ?_
  obtain ⟨r1, S1, h1, hs⟩ := bd_e hs
  refine kX2_sizeBits C tM_X2_98 ⟨Nat.le_of_ble_eq_true rfl, Nat.le_of_ble_eq_true rfl⟩ ⟨Nat.le_of_ble_eq_true rfl, Nat.le_of_ble_eq_true rfl⟩ hK hP hS hl.1 (rest := []) (Nat.le_of_ble_eq_true rfl) dX2_pairWithX_1 h1 (fun H locs hP hS => ?_)
  obtain ⟨e1, S2, h2, hs⟩ := bd_e hs
  refine kX5_of C tM_X2_181 ⟨Nat.le_of_ble_eq_true rfl, Nat.le_of_ble_eq_true rfl⟩ ⟨Nat.le_of_ble_eq_true rfl, Nat.le_of_ble_eq_true rfl⟩ hK hP hS hl.1 (rest := []) (Nat.le_of_ble_eq_true rfl) dX2_pairWithX_4 h2 (fun H locs hP hS => ?_)
  obtain ⟨h3, hs⟩ := gd_e hs
  refine lv_astore_n (lv' := [(3, .ref (en e1)), (0, .ref (ad 4)), (1, .int x1), (2, .int x2)]) hx hb dX2_pairWithX_7 rfl hl (by decide) rfl (fun ls hl => ?_)
  refine lv_aload_n hx hb dX2_pairWithX_8 rfl (lv_at hl 1 rfl) ?_
  refine gB_X2_access hx hb hT hown hK hP (hT _ tF_X2_15) dX2_pairWithX_9 ?_
  refine lv_aload_n hx hb dX2_pairWithX_12 rfl (lv_at hl 0 rfl) ?_
  refine lv_aload_n hx hb dX2_pairWithX_13 rfl (lv_at hl 1 rfl) ?_
  refine gB_X2_access hx hb hT hown hK hP (hT _ tF_X2_15) dX2_pairWithX_14 ?_
  refine lv_aload_n hx hb dX2_pairWithX_17 rfl (lv_at hl 0 rfl) ?_
  refine lv_iload_n hx hb dX2_pairWithX_18 rfl (lv_at hl 2 rfl) ?_
  obtain ⟨r2, S3, h4, hs⟩ := bd_e hs
  refine kX2_pairMode C tM_X2_323 ⟨Nat.le_of_ble_eq_true rfl, Nat.le_of_ble_eq_true rfl⟩ ⟨Nat.le_of_ble_eq_true rfl, Nat.le_of_ble_eq_true rfl⟩ hK hP hS hl.1 (rest := [.ref (en e1), .ref (ad 3), .ref (en e1), .ref (ad 3)]) (Nat.le_of_ble_eq_true rfl) dX2_pairWithX_19 h4 (fun H locs hP hS => ?_)
  refine lv_iload_n hx hb dX2_pairWithX_22 rfl (lv_at hl 2 rfl) ?_
  obtain ⟨r3, S4, h5, hs⟩ := bd_e hs
  refine kX2_lower C tM_X2_121 ⟨Nat.le_of_ble_eq_true rfl, Nat.le_of_ble_eq_true rfl⟩ ⟨Nat.le_of_ble_eq_true rfl, Nat.le_of_ble_eq_true rfl⟩ hK hP hS hl.1 (rest := [.int r2, .ref (en e1), .ref (ad 3), .ref (en e1), .ref (ad 3)]) (Nat.le_of_ble_eq_true rfl) dX2_pairWithX_23 h5 (fun H locs hP hS => ?_)
  refine lv_ior hx hb dX2_pairWithX_26 ?_
  obtain ⟨w1, S5, h6, hs⟩ := bd_e hs
  refine kX0_locate C tM_X2_150 ⟨Nat.le_of_ble_eq_true rfl, Nat.le_of_ble_eq_true rfl⟩ ⟨Nat.le_of_ble_eq_true rfl, Nat.le_of_ble_eq_true rfl⟩ hK hP hS hl.1 (rest := [.ref (en e1), .ref (ad 3)]) (Nat.le_of_ble_eq_true rfl) dX2_pairWithX_27 h6 (fun H locs hP hS => ?_)
  obtain ⟨r4, S6, h7, hs⟩ := bd_e hs
  refine kX0_load C tM_X2_154 ⟨Nat.le_of_ble_eq_true rfl, Nat.le_of_ble_eq_true rfl⟩ ⟨Nat.le_of_ble_eq_true rfl, Nat.le_of_ble_eq_true rfl⟩ hK hP hS hl.1 (rest := []) (Nat.le_of_ble_eq_true rfl) dX2_pairWithX_30 h7 (fun H locs hP hS => ?_)
  refine lv_istore (lv' := [(4, .int r4), (3, .ref (en e1)), (0, .ref (ad 4)), (1, .int x1), (2, .int x2)]) hx hb dX2_pairWithX_33 hl (by decide) rfl (fun ls hl => ?_)
  refine lv_aload_n hx hb dX2_pairWithX_35 rfl (lv_at hl 2 rfl) ?_
  refine gB_X2_access hx hb hT hown hK hP (hT _ tF_X2_15) dX2_pairWithX_36 ?_
  refine lv_aload_n hx hb dX2_pairWithX_39 rfl (lv_at hl 1 rfl) ?_
  refine lv_iload_n hx hb dX2_pairWithX_40 rfl (lv_at hl 3 rfl) ?_
  obtain ⟨r5, S7, h8, hs⟩ := bd_e hs
  refine kX2_pairMode C tM_X2_323 ⟨Nat.le_of_ble_eq_true rfl, Nat.le_of_ble_eq_true rfl⟩ ⟨Nat.le_of_ble_eq_true rfl, Nat.le_of_ble_eq_true rfl⟩ hK hP hS hl.1 (rest := [.ref (en e1), .ref (ad 3)]) (Nat.le_of_ble_eq_true rfl) dX2_pairWithX_41 h8 (fun H locs hP hS => ?_)
  refine lv_iload_n hx hb dX2_pairWithX_44 rfl (lv_at hl 3 rfl) ?_
  obtain ⟨r6, S8, h9, hs⟩ := bd_e hs
  refine kX2_upper C tM_X2_101 ⟨Nat.le_of_ble_eq_true rfl, Nat.le_of_ble_eq_true rfl⟩ ⟨Nat.le_of_ble_eq_true rfl, Nat.le_of_ble_eq_true rfl⟩ hK hP hS hl.1 (rest := [.int r5, .ref (en e1), .ref (ad 3)]) (Nat.le_of_ble_eq_true rfl) dX2_pairWithX_45 h9 (fun H locs hP hS => ?_)
  refine lv_ior hx hb dX2_pairWithX_48 ?_
  obtain ⟨w2, S9, h10, hs⟩ := bd_e hs
  refine kX0_locate C tM_X2_150 ⟨Nat.le_of_ble_eq_true rfl, Nat.le_of_ble_eq_true rfl⟩ ⟨Nat.le_of_ble_eq_true rfl, Nat.le_of_ble_eq_true rfl⟩ hK hP hS hl.1 (rest := []) (Nat.le_of_ble_eq_true rfl) dX2_pairWithX_49 h10 (fun H locs hP hS => ?_)
  refine lv_lstore (lv' := [(5, .long w2), (4, .int r4), (3, .ref (en e1)), (0, .ref (ad 4)), (1, .int x1), (2, .int x2)]) hx hb dX2_pairWithX_52 hl (by decide) rfl (fun ls hl => ?_)
  refine lv_aload_n hx hb dX2_pairWithX_54 rfl (lv_at hl 3 rfl) ?_
  refine gB_X2_access hx hb hT hown hK hP (hT _ tF_X2_15) dX2_pairWithX_55 ?_
  refine lv_aload_n hx hb dX2_pairWithX_58 rfl (lv_at hl 2 rfl) ?_
  refine lv_lload hx hb dX2_pairWithX_59 (lv_at hl 0 rfl) ?_
  obtain ⟨r7, S10, h11, hs⟩ := bd_e hs
  refine kX0_load C tM_X2_154 ⟨Nat.le_of_ble_eq_true rfl, Nat.le_of_ble_eq_true rfl⟩ ⟨Nat.le_of_ble_eq_true rfl, Nat.le_of_ble_eq_true rfl⟩ hK hP hS hl.1 (rest := []) (Nat.le_of_ble_eq_true rfl) dX2_pairWithX_61 h11 (fun H locs hP hS => ?_)
  refine lv_istore (lv' := [(7, .int r7), (5, .long w2), (4, .int r4), (3, .ref (en e1)), (0, .ref (ad 4)), (1, .int x1), (2, .int x2)]) hx hb dX2_pairWithX_64 hl (by decide) rfl (fun ls hl => ?_)
  refine lv_aload_n hx hb dX2_pairWithX_66 rfl (lv_at hl 4 rfl) ?_
  refine gB_X2_access hx hb hT hown hK hP (hT _ tF_X2_15) dX2_pairWithX_67 ?_
  refine lv_aload_n hx hb dX2_pairWithX_70 rfl (lv_at hl 3 rfl) ?_
  refine lv_lload hx hb dX2_pairWithX_71 (lv_at hl 1 rfl) ?_
  refine lv_aload_n hx hb dX2_pairWithX_73 rfl (lv_at hl 4 rfl) ?_
  refine gB_X2_arithmetic hx hb hT hown hK hP (hT _ tF_X2_24) dX2_pairWithX_74 ?_
  refine lv_iload_n hx hb dX2_pairWithX_77 rfl (lv_at hl 6 rfl) ?_
  refine lv_aload_n hx hb dX2_pairWithX_78 rfl (lv_at hl 3 rfl) ?_
  refine lv_iload hx hb dX2_pairWithX_79 (lv_at hl 0 rfl) ?_
  refine lv_iload hx hb dX2_pairWithX_81 (lv_at hl 2 rfl) ?_
  obtain ⟨r8, S11, h12, hs⟩ := bd_e hs
  refine kX1_joinedWithX C tM_X2_242 ⟨Nat.le_of_ble_eq_true rfl, Nat.le_of_ble_eq_true rfl⟩ ⟨Nat.le_of_ble_eq_true rfl, Nat.le_of_ble_eq_true rfl⟩ hK hP hS hl.1 (rest := [.long w2, .ref (en e1), .ref (ad 3)]) (Nat.le_of_ble_eq_true rfl) dX2_pairWithX_83 h12 (fun H locs hP hS => ?_)
  obtain ⟨S12, h13, hs⟩ := bv_e hs
  refine kX0_store C tM_X2_161 ⟨Nat.le_of_ble_eq_true rfl, Nat.le_of_ble_eq_true rfl⟩ ⟨Nat.le_of_ble_eq_true rfl, Nat.le_of_ble_eq_true rfl⟩ hK hP hS hl.1 (rest := []) (Nat.le_of_ble_eq_true rfl) dX2_pairWithX_86 h13 (fun H locs hP hS => ?_)
  exact u_vret hx hb hr hlocks hP hS hs dX2_pairWithX_89
theorem kX2_pairWithX {p : Program} {l : Launch} {e : Env} {R : Room} {s : State} {m : MethodId} {args : Array Value} {below : List Frame} {meth : Method} {c : Code} {H : Heap} {locs : List Loc} {cells slots : Nat} {Q : State → Prop} {cc : ByteArray} {pc nL : Nat} {ls : Array Slot} {rest : List Value} {D : va_G} {ad : Nat → Nat} {cI cB : ClassId} {en : Nat → Nat} {S : St} {own : String} {index : Nat} {x1 : Int32} {x2 : Int32} {So : St} (C : CallFix p m c cc nL s args wG own) (hlk : Cond.methodLink own index yX2_pairWithX ∈ wG) (hR : rmX2_pairWithX.frames + 1 ≤ R.frames ∧ 8 + (8 + 11) + rmX2_pairWithX.locals ≤ R.locals) (hc : cells ≤ R.cells ∧ slots ≤ R.slots) (hK : KB D ad cI cB en s) (hP : va_P D vwCl (wB ad cI cB S) H) (hS : va_S (AX 10 ad s.heap.size) s.heap H locs) (hls : ls.size = nL) (hrest : (rest.map fun v => v.category).sum ≤ 8) (hd : decode cc pc = .ok (.invokevirtual index, 3)) (hs : fX2_pairWithX x1 x2 S = some So) (k : ∀ (H : Heap) (locs : List Loc), va_P D vwCl (wB ad cI cB So) H → va_S (AX 10 ad s.heap.size) s.heap H locs → W p l e R s m args below meth c H locs cells slots Q (F0 m (pc + 3) ls (rest))) : W p l e R s m args below meth c H locs cells slots Q (F0 m pc ls (.int x2 :: .int x1 :: .ref (ad 4) :: rest)) :=
  u_callV (n := 2) (mX2_pairWithX l D ad cI cB en S x1 x2 So hs) C uK_B (wg_V hlk tI_X2_pairWithX tS_X2_pairWithX tN_X2 tK_X2_pairWithX) rfl rfl rfl (by decide +kernel) hR rfl (va_recv hK.1 hP (ci := 2) (q0 := 4) rfl rfl) hK hP hS hls hrest hd hc rfl k
def fX2_sums (x1 : Int32) (x2 : Int32) (S : St) : Option St :=
    (bd (fX2_sizeBits x1 S) fun r1 S1 => (if r1 = 3 then (bv (fX2_addressWork x1 x2 S1) fun S5 => (some S5))
    else (if (x1 &&& 304) = 256 then (bv (fX2_pairWithX x1 x2 S1) fun S4 => (some S4))
    else (bd (fX2_isTo x1 S1) fun b1 S2 => (jn (fun (v1 : Int32) => (bv (fX2_combine x1 x2 v1 S2) fun S3 => (some S3))) fun K1 =>
    (if (zI b1) = 0 then (K1 4095)
    else (K1 508)))))))
abbrev rmX2_sums : Room := { frames := 4, cells := 0, slots := 0, locals := 106 }
set_option maxRecDepth 100000 in
set_option maxHeartbeats 4000000 in
theorem mX2_sums (l : Launch) (D : va_G) (ad : Nat → Nat) (cI cB : ClassId) (en : Nat → Nat) (S : St) (x1 : Int32) (x2 : Int32) (So : St) (hs : fX2_sums x1 x2 S = some So) : uM l yX2_sums (wg yX2_sums cX2_sums 3 none) rmX2_sums (KB D ad cI cB en) D (wB ad cI cB) (AX 10 ad) [.ref (ad 4), .int x1, .int x2] S (none, So) := by
  refine uM_start (by decide) rfl ?_
  intro p e s m below meth c hx hb hr hlocks hml hown hts hK hP
  have hT : ∀ w ∈ wG, w.before _ s = true := fun w h => hts w (List.mem_cons_of_mem _ h)
  have hS : va_S (AX 10 ad s.heap.size) s.heap s.heap [] := va_S.rf
  have hown : s.vm.findClass RX2 = some m.cls := hown
  have C : CallFix p m c cX2_sums 3 s _ wG RX2 := ⟨hx, hb, hml, hown, hT⟩
  have hl := lv_entry ([.ref (ad 4), .int x1, .int x2]) (n := 3) (Nat.le_of_ble_eq_true rfl)
  rw [lg_entry_eq]
  generalize (lg_sl ([.ref (ad 4), .int x1, .int x2]) ++ List.replicate (3 - (lg_sl ([.ref (ad 4), .int x1, .int x2])).length) Slot.unset).toArray = ls at hl ⊢
  have hl : lv_has ls 3 [(0, .ref (ad 4)), (1, .int x1), (2, .int x2)] := hl
  unfold fX2_sums at hs
  refine lv_iload_n hx hb dX2_sums_0 rfl (lv_at hl 1 rfl) ?_
  obtain ⟨r1, S1, h1, hs⟩ := bd_e hs
  refine kX2_sizeBits C tM_X2_98 ⟨Nat.le_of_ble_eq_true rfl, Nat.le_of_ble_eq_true rfl⟩ ⟨Nat.le_of_ble_eq_true rfl, Nat.le_of_ble_eq_true rfl⟩ hK hP hS hl.1 (rest := []) (Nat.le_of_ble_eq_true rfl) dX2_sums_1 h1 (fun H locs hP hS => ?_)
  refine lv_iconst (v := 3) hx hb dX2_sums_4 (by decide) ?_
  refine lv_icmp_ne (tgt := 17) hx hb dX2_sums_5 (by decide) (fun c1 => ?_) (fun c1 => ?_)
  · have hs := if_f c1 hs
    refine lv_iload_n hx hb dX2_sums_17 rfl (lv_at hl 1 rfl) ?_
    refine lv_sipush (v := 304) hx hb dX2_sums_18 (by decide) ?_
    refine lv_iand hx hb dX2_sums_21 ?_
    refine lv_sipush (v := 256) hx hb dX2_sums_22 (by decide) ?_
    refine lv_icmp_ne (tgt := 37) hx hb dX2_sums_25 (by decide) (fun c2 => ?_) (fun c2 => ?_)
    · have hs := if_f c2 hs
      refine lv_aload_n hx hb dX2_sums_37 rfl (lv_at hl 0 rfl) ?_
      refine lv_iload_n hx hb dX2_sums_38 rfl (lv_at hl 1 rfl) ?_
      refine lv_iload_n hx hb dX2_sums_39 rfl (lv_at hl 2 rfl) ?_
      refine lv_iload_n hx hb dX2_sums_40 rfl (lv_at hl 1 rfl) ?_
      obtain ⟨b1, S2, h2, hs⟩ := bd_e hs
      refine kX2_isTo C tM_X2_107 ⟨Nat.le_of_ble_eq_true rfl, Nat.le_of_ble_eq_true rfl⟩ ⟨Nat.le_of_ble_eq_true rfl, Nat.le_of_ble_eq_true rfl⟩ hK hP hS hl.1 (rest := [.int x2, .int x1, .ref (ad 4)]) (Nat.le_of_ble_eq_true rfl) dX2_sums_41 h2 (fun H locs hP hS => ?_)
      refine jn_e hs (fun K1 => ∀ (v1 : Int32) (H : Heap) (locs : List Loc) (ls : Array Slot), lv_has ls 3 [] → va_P D vwCl (wB ad cI cB S2) H → va_S (AX 10 ad s.heap.size) s.heap H locs → K1 v1 = some So → W p l e rmX2_sums s m ([.ref (ad 4), .int x1, .int x2] : List Value).toArray below meth c H locs 0 0 (MQ below (uQ D (wB ad cI cB) (none, So) (AX 10 ad s.heap.size)) ([.ref (ad 4), .int x1, .int x2] : List Value).toArray s 0 0 (AX 10 ad s.heap.size)) (F0 m 56 ls [.int v1, .int x2, .int x1, .ref (ad 4)])) ?_ (fun K1 J1 hs => ?_)
      · intro v1 H locs ls hl hP hS hs
        obtain ⟨S3, h3, hs⟩ := bv_e hs
        refine kX2_combine C tM_X2_302 ⟨Nat.le_of_ble_eq_true rfl, Nat.le_of_ble_eq_true rfl⟩ ⟨Nat.le_of_ble_eq_true rfl, Nat.le_of_ble_eq_true rfl⟩ hK hP hS hl.1 (rest := []) (Nat.le_of_ble_eq_true rfl) dX2_sums_56 h3 (fun H locs hP hS => ?_)
        exact u_vret hx hb hr hlocks hP hS hs dX2_sums_59
      ·
        refine lv_if_eq (tgt := 53) hx hb dX2_sums_44 (by decide) (fun c3 => ?_) (fun c3 => ?_)
        · have hs := if_t c3 hs
          refine lv_sipush (v := 4095) hx hb dX2_sums_53 (by decide) ?_
          exact J1 4095 _ _ _ (lv_sub hl [] rfl) hP hS hs
        · have hs := if_f c3 hs
          refine lv_sipush (v := 508) hx hb dX2_sums_47 (by decide) ?_
          refine lv_goto (tgt := 56) hx hb dX2_sums_50 (by decide) ?_
          exact J1 508 _ _ _ (lv_sub hl [] rfl) hP hS hs
    · have hs := if_t c2 hs
      refine lv_aload_n hx hb dX2_sums_28 rfl (lv_at hl 0 rfl) ?_
      refine lv_iload_n hx hb dX2_sums_29 rfl (lv_at hl 1 rfl) ?_
      refine lv_iload_n hx hb dX2_sums_30 rfl (lv_at hl 2 rfl) ?_
      obtain ⟨S4, h4, hs⟩ := bv_e hs
      refine kX2_pairWithX C tM_X2_320 ⟨Nat.le_of_ble_eq_true rfl, Nat.le_of_ble_eq_true rfl⟩ ⟨Nat.le_of_ble_eq_true rfl, Nat.le_of_ble_eq_true rfl⟩ hK hP hS hl.1 (rest := []) (Nat.le_of_ble_eq_true rfl) dX2_sums_31 h4 (fun H locs hP hS => ?_)
      refine lv_goto (tgt := 59) hx hb dX2_sums_34 (by decide) ?_
      exact u_vret hx hb hr hlocks hP hS hs dX2_sums_59
  · have hs := if_t c1 hs
    refine lv_aload_n hx hb dX2_sums_8 rfl (lv_at hl 0 rfl) ?_
    refine lv_iload_n hx hb dX2_sums_9 rfl (lv_at hl 1 rfl) ?_
    refine lv_iload_n hx hb dX2_sums_10 rfl (lv_at hl 2 rfl) ?_
    obtain ⟨S5, h5, hs⟩ := bv_e hs
    refine kX2_addressWork C tM_X2_306 ⟨Nat.le_of_ble_eq_true rfl, Nat.le_of_ble_eq_true rfl⟩ ⟨Nat.le_of_ble_eq_true rfl, Nat.le_of_ble_eq_true rfl⟩ hK hP hS hl.1 (rest := []) (Nat.le_of_ble_eq_true rfl) dX2_sums_11 h5 (fun H locs hP hS => ?_)
    refine lv_goto (tgt := 59) hx hb dX2_sums_14 (by decide) ?_
    exact u_vret hx hb hr hlocks hP hS hs dX2_sums_59
theorem kX2_sums {p : Program} {l : Launch} {e : Env} {R : Room} {s : State} {m : MethodId} {args : Array Value} {below : List Frame} {meth : Method} {c : Code} {H : Heap} {locs : List Loc} {cells slots : Nat} {Q : State → Prop} {cc : ByteArray} {pc nL : Nat} {ls : Array Slot} {rest : List Value} {D : va_G} {ad : Nat → Nat} {cI cB : ClassId} {en : Nat → Nat} {S : St} {own : String} {index : Nat} {x1 : Int32} {x2 : Int32} {So : St} (C : CallFix p m c cc nL s args wG own) (hlk : Cond.methodLink own index yX2_sums ∈ wG) (hR : rmX2_sums.frames + 1 ≤ R.frames ∧ 8 + (3 + 11) + rmX2_sums.locals ≤ R.locals) (hc : cells ≤ R.cells ∧ slots ≤ R.slots) (hK : KB D ad cI cB en s) (hP : va_P D vwCl (wB ad cI cB S) H) (hS : va_S (AX 10 ad s.heap.size) s.heap H locs) (hls : ls.size = nL) (hrest : (rest.map fun v => v.category).sum ≤ 8) (hd : decode cc pc = .ok (.invokevirtual index, 3)) (hs : fX2_sums x1 x2 S = some So) (k : ∀ (H : Heap) (locs : List Loc), va_P D vwCl (wB ad cI cB So) H → va_S (AX 10 ad s.heap.size) s.heap H locs → W p l e R s m args below meth c H locs cells slots Q (F0 m (pc + 3) ls (rest))) : W p l e R s m args below meth c H locs cells slots Q (F0 m pc ls (.int x2 :: .int x1 :: .ref (ad 4) :: rest)) :=
  u_callV (n := 2) (mX2_sums l D ad cI cB en S x1 x2 So hs) C uK_B (wg_V hlk tI_X2_sums tS_X2_sums tN_X2 tK_X2_sums) rfl rfl rfl (by decide +kernel) hR rfl (va_recv hK.1 hP (ci := 2) (q0 := 4) rfl rfl) hK hP hS hls hrest hd hc rfl k
def fX2_compare (x1 : Int32) (S : St) : Option St :=
    (bd (fX2_sizeBits x1 S) fun r1 S1 => (bd (fX5_of r1 S1) fun e1 S2 => (gd (e1 < 3) (bd (fX2_ofSize 4095 e1 S2) fun r2 S3 => (bd (fX2_operand x1 S3) fun r3 S4 => (bd (fX2_misfits r2 r3 S4) fun b1 S5 => (if (zI b1) = 0 then (bd (fX2_operand x1 S5) fun r4 S6 => (bd (fX0_locate e1 r4 S6) fun w1 S7 => (bd (fX0_load e1 w1 S7) fun r5 S8 => (bd (fX2_upper x1 S8) fun r6 S9 => (bd (fX4_get r6 S9) fun r7 S10 => (bv (fX1_compare e1 r7 r5 S10) fun S11 => (some S11)))))))
    else (some S5))))))))
abbrev rmX2_compare : Room := { frames := 3, cells := 0, slots := 0, locals := 75 }
set_option maxRecDepth 100000 in
set_option maxHeartbeats 4000000 in
theorem mX2_compare (l : Launch) (D : va_G) (ad : Nat → Nat) (cI cB : ClassId) (en : Nat → Nat) (S : St) (x1 : Int32) (So : St) (hs : fX2_compare x1 S = some So) : uM l yX2_compare (wg yX2_compare cX2_compare 4 none) rmX2_compare (KB D ad cI cB en) D (wB ad cI cB) (AX 10 ad) [.ref (ad 4), .int x1] S (none, So) := by
  refine uM_start (by decide) rfl ?_
  intro p e s m below meth c hx hb hr hlocks hml hown hts hK hP
  have hT : ∀ w ∈ wG, w.before _ s = true := fun w h => hts w (List.mem_cons_of_mem _ h)
  have hS : va_S (AX 10 ad s.heap.size) s.heap s.heap [] := va_S.rf
  have hown : s.vm.findClass RX2 = some m.cls := hown
  have C : CallFix p m c cX2_compare 4 s _ wG RX2 := ⟨hx, hb, hml, hown, hT⟩
  have hl := lv_entry ([.ref (ad 4), .int x1]) (n := 4) (Nat.le_of_ble_eq_true rfl)
  rw [lg_entry_eq]
  generalize (lg_sl ([.ref (ad 4), .int x1]) ++ List.replicate (4 - (lg_sl ([.ref (ad 4), .int x1])).length) Slot.unset).toArray = ls at hl ⊢
  have hl : lv_has ls 4 [(0, .ref (ad 4)), (1, .int x1)] := hl
  unfold fX2_compare at hs
  refine lv_iload_n hx hb dX2_compare_0 rfl (lv_at hl 1 rfl) ?_
  obtain ⟨r1, S1, h1, hs⟩ := bd_e hs
  refine kX2_sizeBits C tM_X2_98 ⟨Nat.le_of_ble_eq_true rfl, Nat.le_of_ble_eq_true rfl⟩ ⟨Nat.le_of_ble_eq_true rfl, Nat.le_of_ble_eq_true rfl⟩ hK hP hS hl.1 (rest := []) (Nat.le_of_ble_eq_true rfl) dX2_compare_1 h1 (fun H locs hP hS => ?_)
  obtain ⟨e1, S2, h2, hs⟩ := bd_e hs
  refine kX5_of C tM_X2_181 ⟨Nat.le_of_ble_eq_true rfl, Nat.le_of_ble_eq_true rfl⟩ ⟨Nat.le_of_ble_eq_true rfl, Nat.le_of_ble_eq_true rfl⟩ hK hP hS hl.1 (rest := []) (Nat.le_of_ble_eq_true rfl) dX2_compare_4 h2 (fun H locs hP hS => ?_)
  obtain ⟨h3, hs⟩ := gd_e hs
  refine lv_astore_n (lv' := [(2, .ref (en e1)), (0, .ref (ad 4)), (1, .int x1)]) hx hb dX2_compare_7 rfl hl (by decide) rfl (fun ls hl => ?_)
  refine lv_aload_n hx hb dX2_compare_8 rfl (lv_at hl 1 rfl) ?_
  refine lv_sipush (v := 4095) hx hb dX2_compare_9 (by decide) ?_
  refine lv_aload_n hx hb dX2_compare_12 rfl (lv_at hl 0 rfl) ?_
  obtain ⟨r2, S3, h4, hs⟩ := bd_e hs
  refine kX2_ofSize C tM_X2_196 ⟨Nat.le_of_ble_eq_true rfl, Nat.le_of_ble_eq_true rfl⟩ ⟨Nat.le_of_ble_eq_true rfl, Nat.le_of_ble_eq_true rfl⟩ hK hP hS hl.1 (rest := [.ref (ad 4)]) (Nat.le_of_ble_eq_true rfl) dX2_compare_13 h4 (fun H locs hP hS => ?_)
  refine lv_iload_n hx hb dX2_compare_16 rfl (lv_at hl 2 rfl) ?_
  obtain ⟨r3, S4, h5, hs⟩ := bd_e hs
  refine kX2_operand C tM_X2_95 ⟨Nat.le_of_ble_eq_true rfl, Nat.le_of_ble_eq_true rfl⟩ ⟨Nat.le_of_ble_eq_true rfl, Nat.le_of_ble_eq_true rfl⟩ hK hP hS hl.1 (rest := [.int r2, .ref (ad 4)]) (Nat.le_of_ble_eq_true rfl) dX2_compare_17 h5 (fun H locs hP hS => ?_)
  obtain ⟨b1, S5, h6, hs⟩ := bd_e hs
  refine kX2_misfits C tM_X2_146 ⟨Nat.le_of_ble_eq_true rfl, Nat.le_of_ble_eq_true rfl⟩ ⟨Nat.le_of_ble_eq_true rfl, Nat.le_of_ble_eq_true rfl⟩ hK hP hS hl.1 (rest := []) (Nat.le_of_ble_eq_true rfl) dX2_compare_20 h6 (fun H locs hP hS => ?_)
  refine lv_if_ne (tgt := 67) hx hb dX2_compare_23 (by decide) (fun c1 => ?_) (fun c1 => ?_)
  · have hs := if_f c1 hs
    exact u_vret hx hb hr hlocks hP hS hs dX2_compare_67
  · have hs := if_t c1 hs
    refine lv_aload_n hx hb dX2_compare_26 rfl (lv_at hl 1 rfl) ?_
    refine gB_X2_access hx hb hT hown hK hP (hT _ tF_X2_15) dX2_compare_27 ?_
    refine lv_aload_n hx hb dX2_compare_30 rfl (lv_at hl 0 rfl) ?_
    refine lv_aload_n hx hb dX2_compare_31 rfl (lv_at hl 1 rfl) ?_
    refine gB_X2_access hx hb hT hown hK hP (hT _ tF_X2_15) dX2_compare_32 ?_
    refine lv_aload_n hx hb dX2_compare_35 rfl (lv_at hl 0 rfl) ?_
    refine lv_iload_n hx hb dX2_compare_36 rfl (lv_at hl 2 rfl) ?_
    obtain ⟨r4, S6, h7, hs⟩ := bd_e hs
    refine kX2_operand C tM_X2_95 ⟨Nat.le_of_ble_eq_true rfl, Nat.le_of_ble_eq_true rfl⟩ ⟨Nat.le_of_ble_eq_true rfl, Nat.le_of_ble_eq_true rfl⟩ hK hP hS hl.1 (rest := [.ref (en e1), .ref (ad 3), .ref (en e1), .ref (ad 3)]) (Nat.le_of_ble_eq_true rfl) dX2_compare_37 h7 (fun H locs hP hS => ?_)
    obtain ⟨w1, S7, h8, hs⟩ := bd_e hs
    refine kX0_locate C tM_X2_150 ⟨Nat.le_of_ble_eq_true rfl, Nat.le_of_ble_eq_true rfl⟩ ⟨Nat.le_of_ble_eq_true rfl, Nat.le_of_ble_eq_true rfl⟩ hK hP hS hl.1 (rest := [.ref (en e1), .ref (ad 3)]) (Nat.le_of_ble_eq_true rfl) dX2_compare_40 h8 (fun H locs hP hS => ?_)
    obtain ⟨r5, S8, h9, hs⟩ := bd_e hs
    refine kX0_load C tM_X2_154 ⟨Nat.le_of_ble_eq_true rfl, Nat.le_of_ble_eq_true rfl⟩ ⟨Nat.le_of_ble_eq_true rfl, Nat.le_of_ble_eq_true rfl⟩ hK hP hS hl.1 (rest := []) (Nat.le_of_ble_eq_true rfl) dX2_compare_43 h9 (fun H locs hP hS => ?_)
    refine lv_istore_n (lv' := [(3, .int r5), (2, .ref (en e1)), (0, .ref (ad 4)), (1, .int x1)]) hx hb dX2_compare_46 rfl hl (by decide) rfl (fun ls hl => ?_)
    refine lv_aload_n hx hb dX2_compare_47 rfl (lv_at hl 2 rfl) ?_
    refine gB_X2_arithmetic hx hb hT hown hK hP (hT _ tF_X2_24) dX2_compare_48 ?_
    refine lv_aload_n hx hb dX2_compare_51 rfl (lv_at hl 1 rfl) ?_
    refine lv_aload_n hx hb dX2_compare_52 rfl (lv_at hl 2 rfl) ?_
    refine gB_X2_registers hx hb hT hown hK hP (hT _ tF_X2_9) dX2_compare_53 ?_
    refine lv_iload_n hx hb dX2_compare_56 rfl (lv_at hl 3 rfl) ?_
    obtain ⟨r6, S9, h10, hs⟩ := bd_e hs
    refine kX2_upper C tM_X2_101 ⟨Nat.le_of_ble_eq_true rfl, Nat.le_of_ble_eq_true rfl⟩ ⟨Nat.le_of_ble_eq_true rfl, Nat.le_of_ble_eq_true rfl⟩ hK hP hS hl.1 (rest := [.ref (ad 2), .ref (en e1), .ref (ad 5)]) (Nat.le_of_ble_eq_true rfl) dX2_compare_57 h10 (fun H locs hP hS => ?_)
    obtain ⟨r7, S10, h11, hs⟩ := bd_e hs
    refine kX4_get C tM_X2_124 ⟨Nat.le_of_ble_eq_true rfl, Nat.le_of_ble_eq_true rfl⟩ ⟨Nat.le_of_ble_eq_true rfl, Nat.le_of_ble_eq_true rfl⟩ hK hP hS hl.1 (rest := [.ref (en e1), .ref (ad 5)]) (Nat.le_of_ble_eq_true rfl) dX2_compare_60 h11 (fun H locs hP hS => ?_)
    refine lv_iload_n hx hb dX2_compare_63 rfl (lv_at hl 0 rfl) ?_
    obtain ⟨S11, h12, hs⟩ := bv_e hs
    refine kX1_compare C tM_X2_189 ⟨Nat.le_of_ble_eq_true rfl, Nat.le_of_ble_eq_true rfl⟩ ⟨Nat.le_of_ble_eq_true rfl, Nat.le_of_ble_eq_true rfl⟩ hK hP hS hl.1 (rest := []) (Nat.le_of_ble_eq_true rfl) dX2_compare_64 h12 (fun H locs hP hS => ?_)
    exact u_vret hx hb hr hlocks hP hS hs dX2_compare_67
theorem kX2_compare {p : Program} {l : Launch} {e : Env} {R : Room} {s : State} {m : MethodId} {args : Array Value} {below : List Frame} {meth : Method} {c : Code} {H : Heap} {locs : List Loc} {cells slots : Nat} {Q : State → Prop} {cc : ByteArray} {pc nL : Nat} {ls : Array Slot} {rest : List Value} {D : va_G} {ad : Nat → Nat} {cI cB : ClassId} {en : Nat → Nat} {S : St} {own : String} {index : Nat} {x1 : Int32} {So : St} (C : CallFix p m c cc nL s args wG own) (hlk : Cond.methodLink own index yX2_compare ∈ wG) (hR : rmX2_compare.frames + 1 ≤ R.frames ∧ 8 + (4 + 11) + rmX2_compare.locals ≤ R.locals) (hc : cells ≤ R.cells ∧ slots ≤ R.slots) (hK : KB D ad cI cB en s) (hP : va_P D vwCl (wB ad cI cB S) H) (hS : va_S (AX 10 ad s.heap.size) s.heap H locs) (hls : ls.size = nL) (hrest : (rest.map fun v => v.category).sum ≤ 8) (hd : decode cc pc = .ok (.invokevirtual index, 3)) (hs : fX2_compare x1 S = some So) (k : ∀ (H : Heap) (locs : List Loc), va_P D vwCl (wB ad cI cB So) H → va_S (AX 10 ad s.heap.size) s.heap H locs → W p l e R s m args below meth c H locs cells slots Q (F0 m (pc + 3) ls (rest))) : W p l e R s m args below meth c H locs cells slots Q (F0 m pc ls (.int x1 :: .ref (ad 4) :: rest)) :=
  u_callV (n := 1) (mX2_compare l D ad cI cB en S x1 So hs) C uK_B (wg_V hlk tI_X2_compare tS_X2_compare tN_X2 tK_X2_compare) rfl rfl rfl (by decide +kernel) hR rfl (va_recv hK.1 hP (ci := 2) (q0 := 4) rfl rfl) hK hP hS hls hrest hd hc rfl k
def fX2_comparePair (x1 : Int32) (S : St) : Option St :=
    (bd (fX2_sizeBits x1 S) fun r1 S1 => (bd (fX5_of r1 S1) fun e1 S2 => (gd (e1 < 3) (bd (fX2_lower x1 S2) fun r2 S3 => (bd (fX0_locate e1 (24 ||| r2) S3) fun w1 S4 => (bd (fX0_load e1 w1 S4) fun r3 S5 => (bd (fX2_upper x1 S5) fun r4 S6 => (bd (fX0_locate e1 (24 ||| r4) S6) fun w2 S7 => (bd (fX0_load e1 w2 S7) fun r5 S8 => (bv (fX1_compare e1 r5 r3 S8) fun S9 => (some S9)))))))))))
abbrev rmX2_comparePair : Room := { frames := 3, cells := 0, slots := 0, locals := 75 }
set_option maxRecDepth 100000 in
set_option maxHeartbeats 4000000 in
theorem mX2_comparePair (l : Launch) (D : va_G) (ad : Nat → Nat) (cI cB : ClassId) (en : Nat → Nat) (S : St) (x1 : Int32) (So : St) (hs : fX2_comparePair x1 S = some So) : uM l yX2_comparePair (wg yX2_comparePair cX2_comparePair 5 none) rmX2_comparePair (KB D ad cI cB en) D (wB ad cI cB) (AX 10 ad) [.ref (ad 4), .int x1] S (none, So) := by
  refine uM_start (by decide) rfl ?_
  intro p e s m below meth c hx hb hr hlocks hml hown hts hK hP
  have hT : ∀ w ∈ wG, w.before _ s = true := fun w h => hts w (List.mem_cons_of_mem _ h)
  have hS : va_S (AX 10 ad s.heap.size) s.heap s.heap [] := va_S.rf
  have hown : s.vm.findClass RX2 = some m.cls := hown
  have C : CallFix p m c cX2_comparePair 5 s _ wG RX2 := ⟨hx, hb, hml, hown, hT⟩
  have hl := lv_entry ([.ref (ad 4), .int x1]) (n := 5) (Nat.le_of_ble_eq_true rfl)
  rw [lg_entry_eq]
  generalize (lg_sl ([.ref (ad 4), .int x1]) ++ List.replicate (5 - (lg_sl ([.ref (ad 4), .int x1])).length) Slot.unset).toArray = ls at hl ⊢
  have hl : lv_has ls 5 [(0, .ref (ad 4)), (1, .int x1)] := hl
  unfold fX2_comparePair at hs
  refine lv_iload_n hx hb dX2_comparePair_0 rfl (lv_at hl 1 rfl) ?_
  obtain ⟨r1, S1, h1, hs⟩ := bd_e hs
  refine kX2_sizeBits C tM_X2_98 ⟨Nat.le_of_ble_eq_true rfl, Nat.le_of_ble_eq_true rfl⟩ ⟨Nat.le_of_ble_eq_true rfl, Nat.le_of_ble_eq_true rfl⟩ hK hP hS hl.1 (rest := []) (Nat.le_of_ble_eq_true rfl) dX2_comparePair_1 h1 (fun H locs hP hS => ?_)
  obtain ⟨e1, S2, h2, hs⟩ := bd_e hs
  refine kX5_of C tM_X2_181 ⟨Nat.le_of_ble_eq_true rfl, Nat.le_of_ble_eq_true rfl⟩ ⟨Nat.le_of_ble_eq_true rfl, Nat.le_of_ble_eq_true rfl⟩ hK hP hS hl.1 (rest := []) (Nat.le_of_ble_eq_true rfl) dX2_comparePair_4 h2 (fun H locs hP hS => ?_)
  obtain ⟨h3, hs⟩ := gd_e hs
  refine lv_astore_n (lv' := [(2, .ref (en e1)), (0, .ref (ad 4)), (1, .int x1)]) hx hb dX2_comparePair_7 rfl hl (by decide) rfl (fun ls hl => ?_)
  refine lv_aload_n hx hb dX2_comparePair_8 rfl (lv_at hl 1 rfl) ?_
  refine gB_X2_access hx hb hT hown hK hP (hT _ tF_X2_15) dX2_comparePair_9 ?_
  refine lv_aload_n hx hb dX2_comparePair_12 rfl (lv_at hl 0 rfl) ?_
  refine lv_aload_n hx hb dX2_comparePair_13 rfl (lv_at hl 1 rfl) ?_
  refine gB_X2_access hx hb hT hown hK hP (hT _ tF_X2_15) dX2_comparePair_14 ?_
  refine lv_aload_n hx hb dX2_comparePair_17 rfl (lv_at hl 0 rfl) ?_
  refine lv_bipush (v := 24) hx hb dX2_comparePair_18 (by decide) ?_
  refine lv_iload_n hx hb dX2_comparePair_20 rfl (lv_at hl 2 rfl) ?_
  obtain ⟨r2, S3, h4, hs⟩ := bd_e hs
  refine kX2_lower C tM_X2_121 ⟨Nat.le_of_ble_eq_true rfl, Nat.le_of_ble_eq_true rfl⟩ ⟨Nat.le_of_ble_eq_true rfl, Nat.le_of_ble_eq_true rfl⟩ hK hP hS hl.1 (rest := [.int 24, .ref (en e1), .ref (ad 3), .ref (en e1), .ref (ad 3)]) (Nat.le_of_ble_eq_true rfl) dX2_comparePair_21 h4 (fun H locs hP hS => ?_)
  refine lv_ior hx hb dX2_comparePair_24 ?_
  obtain ⟨w1, S4, h5, hs⟩ := bd_e hs
  refine kX0_locate C tM_X2_150 ⟨Nat.le_of_ble_eq_true rfl, Nat.le_of_ble_eq_true rfl⟩ ⟨Nat.le_of_ble_eq_true rfl, Nat.le_of_ble_eq_true rfl⟩ hK hP hS hl.1 (rest := [.ref (en e1), .ref (ad 3)]) (Nat.le_of_ble_eq_true rfl) dX2_comparePair_25 h5 (fun H locs hP hS => ?_)
  obtain ⟨r3, S5, h6, hs⟩ := bd_e hs
  refine kX0_load C tM_X2_154 ⟨Nat.le_of_ble_eq_true rfl, Nat.le_of_ble_eq_true rfl⟩ ⟨Nat.le_of_ble_eq_true rfl, Nat.le_of_ble_eq_true rfl⟩ hK hP hS hl.1 (rest := []) (Nat.le_of_ble_eq_true rfl) dX2_comparePair_28 h6 (fun H locs hP hS => ?_)
  refine lv_istore_n (lv' := [(3, .int r3), (2, .ref (en e1)), (0, .ref (ad 4)), (1, .int x1)]) hx hb dX2_comparePair_31 rfl hl (by decide) rfl (fun ls hl => ?_)
  refine lv_aload_n hx hb dX2_comparePair_32 rfl (lv_at hl 2 rfl) ?_
  refine gB_X2_access hx hb hT hown hK hP (hT _ tF_X2_15) dX2_comparePair_33 ?_
  refine lv_aload_n hx hb dX2_comparePair_36 rfl (lv_at hl 1 rfl) ?_
  refine lv_aload_n hx hb dX2_comparePair_37 rfl (lv_at hl 2 rfl) ?_
  refine gB_X2_access hx hb hT hown hK hP (hT _ tF_X2_15) dX2_comparePair_38 ?_
  refine lv_aload_n hx hb dX2_comparePair_41 rfl (lv_at hl 1 rfl) ?_
  refine lv_bipush (v := 24) hx hb dX2_comparePair_42 (by decide) ?_
  refine lv_iload_n hx hb dX2_comparePair_44 rfl (lv_at hl 3 rfl) ?_
  obtain ⟨r4, S6, h7, hs⟩ := bd_e hs
  refine kX2_upper C tM_X2_101 ⟨Nat.le_of_ble_eq_true rfl, Nat.le_of_ble_eq_true rfl⟩ ⟨Nat.le_of_ble_eq_true rfl, Nat.le_of_ble_eq_true rfl⟩ hK hP hS hl.1 (rest := [.int 24, .ref (en e1), .ref (ad 3), .ref (en e1), .ref (ad 3)]) (Nat.le_of_ble_eq_true rfl) dX2_comparePair_45 h7 (fun H locs hP hS => ?_)
  refine lv_ior hx hb dX2_comparePair_48 ?_
  obtain ⟨w2, S7, h8, hs⟩ := bd_e hs
  refine kX0_locate C tM_X2_150 ⟨Nat.le_of_ble_eq_true rfl, Nat.le_of_ble_eq_true rfl⟩ ⟨Nat.le_of_ble_eq_true rfl, Nat.le_of_ble_eq_true rfl⟩ hK hP hS hl.1 (rest := [.ref (en e1), .ref (ad 3)]) (Nat.le_of_ble_eq_true rfl) dX2_comparePair_49 h8 (fun H locs hP hS => ?_)
  obtain ⟨r5, S8, h9, hs⟩ := bd_e hs
  refine kX0_load C tM_X2_154 ⟨Nat.le_of_ble_eq_true rfl, Nat.le_of_ble_eq_true rfl⟩ ⟨Nat.le_of_ble_eq_true rfl, Nat.le_of_ble_eq_true rfl⟩ hK hP hS hl.1 (rest := []) (Nat.le_of_ble_eq_true rfl) dX2_comparePair_52 h9 (fun H locs hP hS => ?_)
  refine lv_istore (lv' := [(4, .int r5), (3, .int r3), (2, .ref (en e1)), (0, .ref (ad 4)), (1, .int x1)]) hx hb dX2_comparePair_55 hl (by decide) rfl (fun ls hl => ?_)
  refine lv_aload_n hx hb dX2_comparePair_57 rfl (lv_at hl 3 rfl) ?_
  refine gB_X2_arithmetic hx hb hT hown hK hP (hT _ tF_X2_24) dX2_comparePair_58 ?_
  refine lv_aload_n hx hb dX2_comparePair_61 rfl (lv_at hl 2 rfl) ?_
  refine lv_iload hx hb dX2_comparePair_62 (lv_at hl 0 rfl) ?_
  refine lv_iload_n hx hb dX2_comparePair_64 rfl (lv_at hl 1 rfl) ?_
  obtain ⟨S9, h10, hs⟩ := bv_e hs
  refine kX1_compare C tM_X2_189 ⟨Nat.le_of_ble_eq_true rfl, Nat.le_of_ble_eq_true rfl⟩ ⟨Nat.le_of_ble_eq_true rfl, Nat.le_of_ble_eq_true rfl⟩ hK hP hS hl.1 (rest := []) (Nat.le_of_ble_eq_true rfl) dX2_comparePair_65 h10 (fun H locs hP hS => ?_)
  exact u_vret hx hb hr hlocks hP hS hs dX2_comparePair_68
theorem kX2_comparePair {p : Program} {l : Launch} {e : Env} {R : Room} {s : State} {m : MethodId} {args : Array Value} {below : List Frame} {meth : Method} {c : Code} {H : Heap} {locs : List Loc} {cells slots : Nat} {Q : State → Prop} {cc : ByteArray} {pc nL : Nat} {ls : Array Slot} {rest : List Value} {D : va_G} {ad : Nat → Nat} {cI cB : ClassId} {en : Nat → Nat} {S : St} {own : String} {index : Nat} {x1 : Int32} {So : St} (C : CallFix p m c cc nL s args wG own) (hlk : Cond.methodLink own index yX2_comparePair ∈ wG) (hR : rmX2_comparePair.frames + 1 ≤ R.frames ∧ 8 + (5 + 11) + rmX2_comparePair.locals ≤ R.locals) (hc : cells ≤ R.cells ∧ slots ≤ R.slots) (hK : KB D ad cI cB en s) (hP : va_P D vwCl (wB ad cI cB S) H) (hS : va_S (AX 10 ad s.heap.size) s.heap H locs) (hls : ls.size = nL) (hrest : (rest.map fun v => v.category).sum ≤ 8) (hd : decode cc pc = .ok (.invokevirtual index, 3)) (hs : fX2_comparePair x1 S = some So) (k : ∀ (H : Heap) (locs : List Loc), va_P D vwCl (wB ad cI cB So) H → va_S (AX 10 ad s.heap.size) s.heap H locs → W p l e R s m args below meth c H locs cells slots Q (F0 m (pc + 3) ls (rest))) : W p l e R s m args below meth c H locs cells slots Q (F0 m pc ls (.int x1 :: .ref (ad 4) :: rest)) :=
  u_callV (n := 1) (mX2_comparePair l D ad cI cB en S x1 So hs) C uK_B (wg_V hlk tI_X2_comparePair tS_X2_comparePair tN_X2 tK_X2_comparePair) rfl rfl rfl (by decide +kernel) hR rfl (va_recv hK.1 hP (ci := 2) (q0 := 4) rfl rfl) hK hP hS hls hrest hd hc rfl k
def fX2_lineEleven (x1 : Int32) (S : St) : Option St :=
    (bd (fX2_sizeBits x1 S) fun r1 S1 => (if r1 = 3 then (bv (fX2_addressWork x1 6 S1) fun S7 => (some S7))
    else (bd (fX2_isTo x1 S1) fun b1 S2 => (if (zI b1) = 0 then (bv (fX2_compare x1 S2) fun S6 => (some S6))
    else (bd (fX2_operand x1 S2) fun r2 S3 => (if (ush r2 3) = 1 then (bv (fX2_comparePair x1 S3) fun S5 => (some S5))
    else (bv (fX2_combine x1 5 509 S3) fun S4 => (some S4))))))))
abbrev rmX2_lineEleven : Room := { frames := 4, cells := 0, slots := 0, locals := 106 }
set_option maxRecDepth 100000 in
set_option maxHeartbeats 4000000 in
theorem mX2_lineEleven (l : Launch) (D : va_G) (ad : Nat → Nat) (cI cB : ClassId) (en : Nat → Nat) (S : St) (x1 : Int32) (So : St) (hs : fX2_lineEleven x1 S = some So) : uM l yX2_lineEleven (wg yX2_lineEleven cX2_lineEleven 2 none) rmX2_lineEleven (KB D ad cI cB en) D (wB ad cI cB) (AX 10 ad) [.ref (ad 4), .int x1] S (none, So) := by
  refine uM_start (by decide) rfl ?_
  intro p e s m below meth c hx hb hr hlocks hml hown hts hK hP
  have hT : ∀ w ∈ wG, w.before _ s = true := fun w h => hts w (List.mem_cons_of_mem _ h)
  have hS : va_S (AX 10 ad s.heap.size) s.heap s.heap [] := va_S.rf
  have hown : s.vm.findClass RX2 = some m.cls := hown
  have C : CallFix p m c cX2_lineEleven 2 s _ wG RX2 := ⟨hx, hb, hml, hown, hT⟩
  have hl := lv_entry ([.ref (ad 4), .int x1]) (n := 2) (Nat.le_of_ble_eq_true rfl)
  rw [lg_entry_eq]
  generalize (lg_sl ([.ref (ad 4), .int x1]) ++ List.replicate (2 - (lg_sl ([.ref (ad 4), .int x1])).length) Slot.unset).toArray = ls at hl ⊢
  have hl : lv_has ls 2 [(0, .ref (ad 4)), (1, .int x1)] := hl
  unfold fX2_lineEleven at hs
  refine lv_iload_n hx hb dX2_lineEleven_0 rfl (lv_at hl 1 rfl) ?_
  obtain ⟨r1, S1, h1, hs⟩ := bd_e hs
  refine kX2_sizeBits C tM_X2_98 ⟨Nat.le_of_ble_eq_true rfl, Nat.le_of_ble_eq_true rfl⟩ ⟨Nat.le_of_ble_eq_true rfl, Nat.le_of_ble_eq_true rfl⟩ hK hP hS hl.1 (rest := []) (Nat.le_of_ble_eq_true rfl) dX2_lineEleven_1 h1 (fun H locs hP hS => ?_)
  refine lv_iconst (v := 3) hx hb dX2_lineEleven_4 (by decide) ?_
  refine lv_icmp_ne (tgt := 18) hx hb dX2_lineEleven_5 (by decide) (fun c1 => ?_) (fun c1 => ?_)
  · have hs := if_f c1 hs
    refine lv_iload_n hx hb dX2_lineEleven_18 rfl (lv_at hl 1 rfl) ?_
    obtain ⟨b1, S2, h2, hs⟩ := bd_e hs
    refine kX2_isTo C tM_X2_107 ⟨Nat.le_of_ble_eq_true rfl, Nat.le_of_ble_eq_true rfl⟩ ⟨Nat.le_of_ble_eq_true rfl, Nat.le_of_ble_eq_true rfl⟩ hK hP hS hl.1 (rest := []) (Nat.le_of_ble_eq_true rfl) dX2_lineEleven_19 h2 (fun H locs hP hS => ?_)
    refine lv_if_ne (tgt := 33) hx hb dX2_lineEleven_22 (by decide) (fun c2 => ?_) (fun c2 => ?_)
    · have hs := if_f c2 hs
      refine lv_iload_n hx hb dX2_lineEleven_33 rfl (lv_at hl 1 rfl) ?_
      obtain ⟨r2, S3, h3, hs⟩ := bd_e hs
      refine kX2_operand C tM_X2_95 ⟨Nat.le_of_ble_eq_true rfl, Nat.le_of_ble_eq_true rfl⟩ ⟨Nat.le_of_ble_eq_true rfl, Nat.le_of_ble_eq_true rfl⟩ hK hP hS hl.1 (rest := []) (Nat.le_of_ble_eq_true rfl) dX2_lineEleven_34 h3 (fun H locs hP hS => ?_)
      refine lv_iconst (v := 3) hx hb dX2_lineEleven_37 (by decide) ?_
      refine lv_iushr (v := (ush r2 3)) hx hb dX2_lineEleven_38 rfl ?_
      refine lv_iconst (v := 1) hx hb dX2_lineEleven_39 (by decide) ?_
      refine lv_icmp_ne (tgt := 51) hx hb dX2_lineEleven_40 (by decide) (fun c3 => ?_) (fun c3 => ?_)
      · have hs := if_f c3 hs
        refine lv_aload_n hx hb dX2_lineEleven_51 rfl (lv_at hl 0 rfl) ?_
        refine lv_iload_n hx hb dX2_lineEleven_52 rfl (lv_at hl 1 rfl) ?_
        refine lv_iconst (v := 5) hx hb dX2_lineEleven_53 (by decide) ?_
        refine lv_sipush (v := 509) hx hb dX2_lineEleven_54 (by decide) ?_
        obtain ⟨S4, h4, hs⟩ := bv_e hs
        refine kX2_combine C tM_X2_302 ⟨Nat.le_of_ble_eq_true rfl, Nat.le_of_ble_eq_true rfl⟩ ⟨Nat.le_of_ble_eq_true rfl, Nat.le_of_ble_eq_true rfl⟩ hK hP hS hl.1 (rest := []) (Nat.le_of_ble_eq_true rfl) dX2_lineEleven_57 h4 (fun H locs hP hS => ?_)
        exact u_vret hx hb hr hlocks hP hS hs dX2_lineEleven_60
      · have hs := if_t c3 hs
        refine lv_aload_n hx hb dX2_lineEleven_43 rfl (lv_at hl 0 rfl) ?_
        refine lv_iload_n hx hb dX2_lineEleven_44 rfl (lv_at hl 1 rfl) ?_
        obtain ⟨S5, h5, hs⟩ := bv_e hs
        refine kX2_comparePair C tM_X2_311 ⟨Nat.le_of_ble_eq_true rfl, Nat.le_of_ble_eq_true rfl⟩ ⟨Nat.le_of_ble_eq_true rfl, Nat.le_of_ble_eq_true rfl⟩ hK hP hS hl.1 (rest := []) (Nat.le_of_ble_eq_true rfl) dX2_lineEleven_45 h5 (fun H locs hP hS => ?_)
        refine lv_goto (tgt := 60) hx hb dX2_lineEleven_48 (by decide) ?_
        exact u_vret hx hb hr hlocks hP hS hs dX2_lineEleven_60
    · have hs := if_t c2 hs
      refine lv_aload_n hx hb dX2_lineEleven_25 rfl (lv_at hl 0 rfl) ?_
      refine lv_iload_n hx hb dX2_lineEleven_26 rfl (lv_at hl 1 rfl) ?_
      obtain ⟨S6, h6, hs⟩ := bv_e hs
      refine kX2_compare C tM_X2_309 ⟨Nat.le_of_ble_eq_true rfl, Nat.le_of_ble_eq_true rfl⟩ ⟨Nat.le_of_ble_eq_true rfl, Nat.le_of_ble_eq_true rfl⟩ hK hP hS hl.1 (rest := []) (Nat.le_of_ble_eq_true rfl) dX2_lineEleven_27 h6 (fun H locs hP hS => ?_)
      refine lv_goto (tgt := 60) hx hb dX2_lineEleven_30 (by decide) ?_
      exact u_vret hx hb hr hlocks hP hS hs dX2_lineEleven_60
  · have hs := if_t c1 hs
    refine lv_aload_n hx hb dX2_lineEleven_8 rfl (lv_at hl 0 rfl) ?_
    refine lv_iload_n hx hb dX2_lineEleven_9 rfl (lv_at hl 1 rfl) ?_
    refine lv_bipush (v := 6) hx hb dX2_lineEleven_10 (by decide) ?_
    obtain ⟨S7, h7, hs⟩ := bv_e hs
    refine kX2_addressWork C tM_X2_306 ⟨Nat.le_of_ble_eq_true rfl, Nat.le_of_ble_eq_true rfl⟩ ⟨Nat.le_of_ble_eq_true rfl, Nat.le_of_ble_eq_true rfl⟩ hK hP hS hl.1 (rest := []) (Nat.le_of_ble_eq_true rfl) dX2_lineEleven_12 h7 (fun H locs hP hS => ?_)
    refine lv_goto (tgt := 60) hx hb dX2_lineEleven_15 (by decide) ?_
    exact u_vret hx hb hr hlocks hP hS hs dX2_lineEleven_60
theorem kX2_lineEleven {p : Program} {l : Launch} {e : Env} {R : Room} {s : State} {m : MethodId} {args : Array Value} {below : List Frame} {meth : Method} {c : Code} {H : Heap} {locs : List Loc} {cells slots : Nat} {Q : State → Prop} {cc : ByteArray} {pc nL : Nat} {ls : Array Slot} {rest : List Value} {D : va_G} {ad : Nat → Nat} {cI cB : ClassId} {en : Nat → Nat} {S : St} {own : String} {index : Nat} {x1 : Int32} {So : St} (C : CallFix p m c cc nL s args wG own) (hlk : Cond.methodLink own index yX2_lineEleven ∈ wG) (hR : rmX2_lineEleven.frames + 1 ≤ R.frames ∧ 8 + (2 + 11) + rmX2_lineEleven.locals ≤ R.locals) (hc : cells ≤ R.cells ∧ slots ≤ R.slots) (hK : KB D ad cI cB en s) (hP : va_P D vwCl (wB ad cI cB S) H) (hS : va_S (AX 10 ad s.heap.size) s.heap H locs) (hls : ls.size = nL) (hrest : (rest.map fun v => v.category).sum ≤ 8) (hd : decode cc pc = .ok (.invokevirtual index, 3)) (hs : fX2_lineEleven x1 S = some So) (k : ∀ (H : Heap) (locs : List Loc), va_P D vwCl (wB ad cI cB So) H → va_S (AX 10 ad s.heap.size) s.heap H locs → W p l e R s m args below meth c H locs cells slots Q (F0 m (pc + 3) ls (rest))) : W p l e R s m args below meth c H locs cells slots Q (F0 m pc ls (.int x1 :: .ref (ad 4) :: rest)) :=
  u_callV (n := 1) (mX2_lineEleven l D ad cI cB en S x1 So hs) C uK_B (wg_V hlk tI_X2_lineEleven tS_X2_lineEleven tN_X2 tK_X2_lineEleven) rfl rfl rfl (by decide +kernel) hR rfl (va_recv hK.1 hP (ci := 2) (q0 := 4) rfl rfl) hK hP hS hls hrest hd hc rfl k
def fX2_multiply (x1 : Int32) (z2 : Bool) (S : St) : Option St :=
    (bd (fX2_operand x1 S) fun r1 S1 => (bd (fX2_misfits 4093 r1 S1) fun b1 S2 => (if (zI b1) = 0 then (bd (fX2_upper x1 S2) fun r2 S3 => (bd (fX2_operand x1 S3) fun r3 S4 => (bd (fX0_locate 1 r3 S4) fun w1 S5 => (bd (fX0_load 1 w1 S5) fun r4 S6 => (bd (fX4_get r2 S6) fun r5 S7 => (jn (fun (v1 : Int32) => (bd (fX1_logic 2 v1 S7) fun r6 S8 => (bv (fX4_set r2 r6 S8) fun S9 => (some S9)))) fun K1 =>
    (if (zI z2) = 0 then (K1 ((r5 &&& 65535) * r4))
    else (K1 ((r5.toInt16.toInt32) * (r4.toInt16.toInt32))))))))))
    else (some S2))))
abbrev rmX2_multiply : Room := { frames := 3, cells := 0, slots := 0, locals := 70 }
set_option maxRecDepth 100000 in
set_option maxHeartbeats 4000000 in
theorem mX2_multiply (l : Launch) (D : va_G) (ad : Nat → Nat) (cI cB : ClassId) (en : Nat → Nat) (S : St) (x1 : Int32) (z2 : Bool) (So : St) (hs : fX2_multiply x1 z2 S = some So) : uM l yX2_multiply (wg yX2_multiply cX2_multiply 7 none) rmX2_multiply (KB D ad cI cB en) D (wB ad cI cB) (AX 10 ad) [.ref (ad 4), .int x1, .int (zI z2)] S (none, So) := by
  refine uM_start (by decide) rfl ?_
  intro p e s m below meth c hx hb hr hlocks hml hown hts hK hP
  have hT : ∀ w ∈ wG, w.before _ s = true := fun w h => hts w (List.mem_cons_of_mem _ h)
  have hS : va_S (AX 10 ad s.heap.size) s.heap s.heap [] := va_S.rf
  have hown : s.vm.findClass RX2 = some m.cls := hown
  have C : CallFix p m c cX2_multiply 7 s _ wG RX2 := ⟨hx, hb, hml, hown, hT⟩
  have hl := lv_entry ([.ref (ad 4), .int x1, .int (zI z2)]) (n := 7) (Nat.le_of_ble_eq_true rfl)
  rw [lg_entry_eq]
  generalize (lg_sl ([.ref (ad 4), .int x1, .int (zI z2)]) ++ List.replicate (7 - (lg_sl ([.ref (ad 4), .int x1, .int (zI z2)])).length) Slot.unset).toArray = ls at hl ⊢
  have hl : lv_has ls 7 [(0, .ref (ad 4)), (1, .int x1), (2, .int (zI z2))] := hl
  unfold fX2_multiply at hs
  refine lv_aload_n hx hb dX2_multiply_0 rfl (lv_at hl 0 rfl) ?_
  refine lv_sipush (v := 4093) hx hb dX2_multiply_1 (by decide) ?_
  refine lv_iload_n hx hb dX2_multiply_4 rfl (lv_at hl 1 rfl) ?_
  obtain ⟨r1, S1, h1, hs⟩ := bd_e hs
  refine kX2_operand C tM_X2_95 ⟨Nat.le_of_ble_eq_true rfl, Nat.le_of_ble_eq_true rfl⟩ ⟨Nat.le_of_ble_eq_true rfl, Nat.le_of_ble_eq_true rfl⟩ hK hP hS hl.1 (rest := [.int 4093, .ref (ad 4)]) (Nat.le_of_ble_eq_true rfl) dX2_multiply_5 h1 (fun H locs hP hS => ?_)
  obtain ⟨b1, S2, h2, hs⟩ := bd_e hs
  refine kX2_misfits C tM_X2_146 ⟨Nat.le_of_ble_eq_true rfl, Nat.le_of_ble_eq_true rfl⟩ ⟨Nat.le_of_ble_eq_true rfl, Nat.le_of_ble_eq_true rfl⟩ hK hP hS hl.1 (rest := []) (Nat.le_of_ble_eq_true rfl) dX2_multiply_8 h2 (fun H locs hP hS => ?_)
  refine lv_if_eq (tgt := 15) hx hb dX2_multiply_11 (by decide) (fun c1 => ?_) (fun c1 => ?_)
  · have hs := if_t c1 hs
    refine lv_iload_n hx hb dX2_multiply_15 rfl (lv_at hl 1 rfl) ?_
    obtain ⟨r2, S3, h3, hs⟩ := bd_e hs
    refine kX2_upper C tM_X2_101 ⟨Nat.le_of_ble_eq_true rfl, Nat.le_of_ble_eq_true rfl⟩ ⟨Nat.le_of_ble_eq_true rfl, Nat.le_of_ble_eq_true rfl⟩ hK hP hS hl.1 (rest := []) (Nat.le_of_ble_eq_true rfl) dX2_multiply_16 h3 (fun H locs hP hS => ?_)
    refine lv_istore_n (lv' := [(3, .int r2), (0, .ref (ad 4)), (1, .int x1), (2, .int (zI z2))]) hx hb dX2_multiply_19 rfl hl (by decide) rfl (fun ls hl => ?_)
    refine lv_aload_n hx hb dX2_multiply_20 rfl (lv_at hl 1 rfl) ?_
    refine gB_X2_access hx hb hT hown hK hP (hT _ tF_X2_15) dX2_multiply_21 ?_
    refine gS_WORD hx hb hown hK hS (hT _ tF_X2_49) dX2_multiply_24 ?_
    refine lv_aload_n hx hb dX2_multiply_27 rfl (lv_at hl 1 rfl) ?_
    refine gB_X2_access hx hb hT hown hK hP (hT _ tF_X2_15) dX2_multiply_28 ?_
    refine gS_WORD hx hb hown hK hS (hT _ tF_X2_49) dX2_multiply_31 ?_
    refine lv_iload_n hx hb dX2_multiply_34 rfl (lv_at hl 2 rfl) ?_
    obtain ⟨r3, S4, h4, hs⟩ := bd_e hs
    refine kX2_operand C tM_X2_95 ⟨Nat.le_of_ble_eq_true rfl, Nat.le_of_ble_eq_true rfl⟩ ⟨Nat.le_of_ble_eq_true rfl, Nat.le_of_ble_eq_true rfl⟩ hK hP hS hl.1 (rest := [.ref (en 1), .ref (ad 3), .ref (en 1), .ref (ad 3)]) (Nat.le_of_ble_eq_true rfl) dX2_multiply_35 h4 (fun H locs hP hS => ?_)
    obtain ⟨w1, S5, h5, hs⟩ := bd_e hs
    refine kX0_locate C tM_X2_150 ⟨Nat.le_of_ble_eq_true rfl, Nat.le_of_ble_eq_true rfl⟩ ⟨Nat.le_of_ble_eq_true rfl, Nat.le_of_ble_eq_true rfl⟩ hK hP hS hl.1 (rest := [.ref (en 1), .ref (ad 3)]) (Nat.le_of_ble_eq_true rfl) dX2_multiply_38 h5 (fun H locs hP hS => ?_)
    obtain ⟨r4, S6, h6, hs⟩ := bd_e hs
    refine kX0_load C tM_X2_154 ⟨Nat.le_of_ble_eq_true rfl, Nat.le_of_ble_eq_true rfl⟩ ⟨Nat.le_of_ble_eq_true rfl, Nat.le_of_ble_eq_true rfl⟩ hK hP hS hl.1 (rest := []) (Nat.le_of_ble_eq_true rfl) dX2_multiply_41 h6 (fun H locs hP hS => ?_)
    refine lv_istore (lv' := [(4, .int r4), (3, .int r2), (0, .ref (ad 4)), (1, .int x1), (2, .int (zI z2))]) hx hb dX2_multiply_44 hl (by decide) rfl (fun ls hl => ?_)
    refine lv_aload_n hx hb dX2_multiply_46 rfl (lv_at hl 2 rfl) ?_
    refine gB_X2_registers hx hb hT hown hK hP (hT _ tF_X2_9) dX2_multiply_47 ?_
    refine lv_iload_n hx hb dX2_multiply_50 rfl (lv_at hl 1 rfl) ?_
    obtain ⟨r5, S7, h7, hs⟩ := bd_e hs
    refine kX4_get C tM_X2_124 ⟨Nat.le_of_ble_eq_true rfl, Nat.le_of_ble_eq_true rfl⟩ ⟨Nat.le_of_ble_eq_true rfl, Nat.le_of_ble_eq_true rfl⟩ hK hP hS hl.1 (rest := []) (Nat.le_of_ble_eq_true rfl) dX2_multiply_51 h7 (fun H locs hP hS => ?_)
    refine lv_istore (lv' := [(5, .int r5), (4, .int r4), (3, .int r2), (0, .ref (ad 4)), (1, .int x1), (2, .int (zI z2))]) hx hb dX2_multiply_54 hl (by decide) rfl (fun ls hl => ?_)
    refine lv_iload_n hx hb dX2_multiply_56 rfl (lv_at hl 5 rfl) ?_
    refine jn_e hs (fun K1 => ∀ (v1 : Int32) (H : Heap) (locs : List Loc) (ls : Array Slot), lv_has ls 7 [(3, .int r2), (0, .ref (ad 4))] → va_P D vwCl (wB ad cI cB S7) H → va_S (AX 10 ad s.heap.size) s.heap H locs → K1 v1 = some So → W p l e rmX2_multiply s m ([.ref (ad 4), .int x1, .int (zI z2)] : List Value).toArray below meth c H locs 0 0 (MQ below (uQ D (wB ad cI cB) (none, So) (AX 10 ad s.heap.size)) ([.ref (ad 4), .int x1, .int (zI z2)] : List Value).toArray s 0 0 (AX 10 ad s.heap.size)) (F0 m 79 ls [.int v1])) ?_ (fun K1 J1 hs => ?_)
    · intro v1 H locs ls hl hP hS hs
      refine lv_istore (lv' := [(6, .int v1), (3, .int r2), (0, .ref (ad 4))]) hx hb dX2_multiply_79 hl (by decide) rfl (fun ls hl => ?_)
      refine lv_aload_n hx hb dX2_multiply_81 rfl (lv_at hl 2 rfl) ?_
      refine gB_X2_registers hx hb hT hown hK hP (hT _ tF_X2_9) dX2_multiply_82 ?_
      refine lv_iload_n hx hb dX2_multiply_85 rfl (lv_at hl 1 rfl) ?_
      refine lv_aload_n hx hb dX2_multiply_86 rfl (lv_at hl 2 rfl) ?_
      refine gB_X2_arithmetic hx hb hT hown hK hP (hT _ tF_X2_24) dX2_multiply_87 ?_
      refine gS_LONG hx hb hown hK hS (hT _ tF_X2_46) dX2_multiply_90 ?_
      refine lv_iload hx hb dX2_multiply_93 (lv_at hl 0 rfl) ?_
      obtain ⟨r6, S8, h8, hs⟩ := bd_e hs
      refine kX1_logic C tM_X2_203 ⟨Nat.le_of_ble_eq_true rfl, Nat.le_of_ble_eq_true rfl⟩ ⟨Nat.le_of_ble_eq_true rfl, Nat.le_of_ble_eq_true rfl⟩ hK hP hS hl.1 (rest := [.int r2, .ref (ad 2)]) (Nat.le_of_ble_eq_true rfl) dX2_multiply_95 h8 (fun H locs hP hS => ?_)
      obtain ⟨S9, h9, hs⟩ := bv_e hs
      refine kX4_set C tM_X2_143 ⟨Nat.le_of_ble_eq_true rfl, Nat.le_of_ble_eq_true rfl⟩ ⟨Nat.le_of_ble_eq_true rfl, Nat.le_of_ble_eq_true rfl⟩ hK hP hS hl.1 (rest := []) (Nat.le_of_ble_eq_true rfl) dX2_multiply_98 h9 (fun H locs hP hS => ?_)
      exact u_vret hx hb hr hlocks hP hS hs dX2_multiply_101
    ·
      refine lv_if_eq (tgt := 70) hx hb dX2_multiply_57 (by decide) (fun c2 => ?_) (fun c2 => ?_)
      · have hs := if_t c2 hs
        refine lv_iload hx hb dX2_multiply_70 (lv_at hl 0 rfl) ?_
        refine lv_ldcw (v := 65535) hx hb hown (hT _ tC_X2_329) dX2_multiply_72 ?_
        refine lv_iand hx hb dX2_multiply_75 ?_
        refine lv_iload hx hb dX2_multiply_76 (lv_at hl 1 rfl) ?_
        refine lv_imul hx hb dX2_multiply_78 ?_
        exact J1 ((r5 &&& 65535) * r4) _ _ _ (lv_sub hl [2, 3] rfl) hP hS hs
      · have hs := if_f c2 hs
        refine lv_iload hx hb dX2_multiply_60 (lv_at hl 0 rfl) ?_
        refine lv_i2s (v := (r5.toInt16.toInt32)) hx hb dX2_multiply_62 rfl ?_
        refine lv_iload hx hb dX2_multiply_63 (lv_at hl 1 rfl) ?_
        refine lv_i2s (v := (r4.toInt16.toInt32)) hx hb dX2_multiply_65 rfl ?_
        refine lv_imul hx hb dX2_multiply_66 ?_
        refine lv_goto (tgt := 79) hx hb dX2_multiply_67 (by decide) ?_
        exact J1 ((r5.toInt16.toInt32) * (r4.toInt16.toInt32)) _ _ _ (lv_sub hl [2, 3] rfl) hP hS hs
  · have hs := if_f c1 hs
    exact u_vret hx hb hr hlocks hP hS hs dX2_multiply_14
theorem kX2_multiply {p : Program} {l : Launch} {e : Env} {R : Room} {s : State} {m : MethodId} {args : Array Value} {below : List Frame} {meth : Method} {c : Code} {H : Heap} {locs : List Loc} {cells slots : Nat} {Q : State → Prop} {cc : ByteArray} {pc nL : Nat} {ls : Array Slot} {rest : List Value} {D : va_G} {ad : Nat → Nat} {cI cB : ClassId} {en : Nat → Nat} {S : St} {own : String} {index : Nat} {x1 : Int32} {z2 : Bool} {So : St} (C : CallFix p m c cc nL s args wG own) (hlk : Cond.methodLink own index yX2_multiply ∈ wG) (hR : rmX2_multiply.frames + 1 ≤ R.frames ∧ 8 + (7 + 11) + rmX2_multiply.locals ≤ R.locals) (hc : cells ≤ R.cells ∧ slots ≤ R.slots) (hK : KB D ad cI cB en s) (hP : va_P D vwCl (wB ad cI cB S) H) (hS : va_S (AX 10 ad s.heap.size) s.heap H locs) (hls : ls.size = nL) (hrest : (rest.map fun v => v.category).sum ≤ 8) (hd : decode cc pc = .ok (.invokevirtual index, 3)) (hs : fX2_multiply x1 z2 S = some So) (k : ∀ (H : Heap) (locs : List Loc), va_P D vwCl (wB ad cI cB So) H → va_S (AX 10 ad s.heap.size) s.heap H locs → W p l e R s m args below meth c H locs cells slots Q (F0 m (pc + 3) ls (rest))) : W p l e R s m args below meth c H locs cells slots Q (F0 m pc ls (.int (zI z2) :: .int x1 :: .ref (ad 4) :: rest)) :=
  u_callV (n := 2) (mX2_multiply l D ad cI cB en S x1 z2 So hs) C uK_B (wg_V hlk tI_X2_multiply tS_X2_multiply tN_X2 tK_X2_multiply) rfl rfl rfl (by decide +kernel) hR rfl (va_recv hK.1 hP (ci := 2) (q0 := 4) rfl rfl) hK hP hS hls hrest hd hc rfl k
def fX2_exchange (x1 : Int32) (x2 : Int32) (S : St) : Option St :=
    (bd (fX4_get x1 S) fun r1 S1 => (bd (fX4_get x2 S1) fun r2 S2 => (bv (fX4_set x1 r2 S2) fun S3 => (bv (fX4_set x2 r1 S3) fun S4 => (some S4)))))
abbrev rmX2_exchange : Room := { frames := 1, cells := 0, slots := 0, locals := 22 }
set_option maxRecDepth 100000 in
set_option maxHeartbeats 4000000 in
theorem mX2_exchange (l : Launch) (D : va_G) (ad : Nat → Nat) (cI cB : ClassId) (en : Nat → Nat) (S : St) (x1 : Int32) (x2 : Int32) (So : St) (hs : fX2_exchange x1 x2 S = some So) : uM l yX2_exchange (wg yX2_exchange cX2_exchange 4 none) rmX2_exchange (KB D ad cI cB en) D (wB ad cI cB) (AX 10 ad) [.ref (ad 4), .int x1, .int x2] S (none, So) := by
  refine uM_start (by decide) rfl ?_
  intro p e s m below meth c hx hb hr hlocks hml hown hts hK hP
  have hT : ∀ w ∈ wG, w.before _ s = true := fun w h => hts w (List.mem_cons_of_mem _ h)
  have hS : va_S (AX 10 ad s.heap.size) s.heap s.heap [] := va_S.rf
  have hown : s.vm.findClass RX2 = some m.cls := hown
  have C : CallFix p m c cX2_exchange 4 s _ wG RX2 := ⟨hx, hb, hml, hown, hT⟩
  have hl := lv_entry ([.ref (ad 4), .int x1, .int x2]) (n := 4) (Nat.le_of_ble_eq_true rfl)
  rw [lg_entry_eq]
  generalize (lg_sl ([.ref (ad 4), .int x1, .int x2]) ++ List.replicate (4 - (lg_sl ([.ref (ad 4), .int x1, .int x2])).length) Slot.unset).toArray = ls at hl ⊢
  have hl : lv_has ls 4 [(0, .ref (ad 4)), (1, .int x1), (2, .int x2)] := hl
  unfold fX2_exchange at hs
  refine lv_aload_n hx hb dX2_exchange_0 rfl (lv_at hl 0 rfl) ?_
  refine gB_X2_registers hx hb hT hown hK hP (hT _ tF_X2_9) dX2_exchange_1 ?_
  refine lv_iload_n hx hb dX2_exchange_4 rfl (lv_at hl 1 rfl) ?_
  obtain ⟨r1, S1, h1, hs⟩ := bd_e hs
  refine kX4_get C tM_X2_124 ⟨Nat.le_of_ble_eq_true rfl, Nat.le_of_ble_eq_true rfl⟩ ⟨Nat.le_of_ble_eq_true rfl, Nat.le_of_ble_eq_true rfl⟩ hK hP hS hl.1 (rest := []) (Nat.le_of_ble_eq_true rfl) dX2_exchange_5 h1 (fun H locs hP hS => ?_)
  refine lv_istore_n (lv' := [(3, .int r1), (0, .ref (ad 4)), (1, .int x1), (2, .int x2)]) hx hb dX2_exchange_8 rfl hl (by decide) rfl (fun ls hl => ?_)
  refine lv_aload_n hx hb dX2_exchange_9 rfl (lv_at hl 1 rfl) ?_
  refine gB_X2_registers hx hb hT hown hK hP (hT _ tF_X2_9) dX2_exchange_10 ?_
  refine lv_iload_n hx hb dX2_exchange_13 rfl (lv_at hl 2 rfl) ?_
  refine lv_aload_n hx hb dX2_exchange_14 rfl (lv_at hl 1 rfl) ?_
  refine gB_X2_registers hx hb hT hown hK hP (hT _ tF_X2_9) dX2_exchange_15 ?_
  refine lv_iload_n hx hb dX2_exchange_18 rfl (lv_at hl 3 rfl) ?_
  obtain ⟨r2, S2, h2, hs⟩ := bd_e hs
  refine kX4_get C tM_X2_124 ⟨Nat.le_of_ble_eq_true rfl, Nat.le_of_ble_eq_true rfl⟩ ⟨Nat.le_of_ble_eq_true rfl, Nat.le_of_ble_eq_true rfl⟩ hK hP hS hl.1 (rest := [.int x1, .ref (ad 2)]) (Nat.le_of_ble_eq_true rfl) dX2_exchange_19 h2 (fun H locs hP hS => ?_)
  obtain ⟨S3, h3, hs⟩ := bv_e hs
  refine kX4_set C tM_X2_143 ⟨Nat.le_of_ble_eq_true rfl, Nat.le_of_ble_eq_true rfl⟩ ⟨Nat.le_of_ble_eq_true rfl, Nat.le_of_ble_eq_true rfl⟩ hK hP hS hl.1 (rest := []) (Nat.le_of_ble_eq_true rfl) dX2_exchange_22 h3 (fun H locs hP hS => ?_)
  refine lv_aload_n hx hb dX2_exchange_25 rfl (lv_at hl 1 rfl) ?_
  refine gB_X2_registers hx hb hT hown hK hP (hT _ tF_X2_9) dX2_exchange_26 ?_
  refine lv_iload_n hx hb dX2_exchange_29 rfl (lv_at hl 3 rfl) ?_
  refine lv_iload_n hx hb dX2_exchange_30 rfl (lv_at hl 0 rfl) ?_
  obtain ⟨S4, h4, hs⟩ := bv_e hs
  refine kX4_set C tM_X2_143 ⟨Nat.le_of_ble_eq_true rfl, Nat.le_of_ble_eq_true rfl⟩ ⟨Nat.le_of_ble_eq_true rfl, Nat.le_of_ble_eq_true rfl⟩ hK hP hS hl.1 (rest := []) (Nat.le_of_ble_eq_true rfl) dX2_exchange_31 h4 (fun H locs hP hS => ?_)
  exact u_vret hx hb hr hlocks hP hS hs dX2_exchange_34
theorem kX2_exchange {p : Program} {l : Launch} {e : Env} {R : Room} {s : State} {m : MethodId} {args : Array Value} {below : List Frame} {meth : Method} {c : Code} {H : Heap} {locs : List Loc} {cells slots : Nat} {Q : State → Prop} {cc : ByteArray} {pc nL : Nat} {ls : Array Slot} {rest : List Value} {D : va_G} {ad : Nat → Nat} {cI cB : ClassId} {en : Nat → Nat} {S : St} {own : String} {index : Nat} {x1 : Int32} {x2 : Int32} {So : St} (C : CallFix p m c cc nL s args wG own) (hlk : Cond.methodLink own index yX2_exchange ∈ wG) (hR : rmX2_exchange.frames + 1 ≤ R.frames ∧ 8 + (4 + 11) + rmX2_exchange.locals ≤ R.locals) (hc : cells ≤ R.cells ∧ slots ≤ R.slots) (hK : KB D ad cI cB en s) (hP : va_P D vwCl (wB ad cI cB S) H) (hS : va_S (AX 10 ad s.heap.size) s.heap H locs) (hls : ls.size = nL) (hrest : (rest.map fun v => v.category).sum ≤ 8) (hd : decode cc pc = .ok (.invokevirtual index, 3)) (hs : fX2_exchange x1 x2 S = some So) (k : ∀ (H : Heap) (locs : List Loc), va_P D vwCl (wB ad cI cB So) H → va_S (AX 10 ad s.heap.size) s.heap H locs → W p l e R s m args below meth c H locs cells slots Q (F0 m (pc + 3) ls (rest))) : W p l e R s m args below meth c H locs cells slots Q (F0 m pc ls (.int x2 :: .int x1 :: .ref (ad 4) :: rest)) :=
  u_callV (n := 2) (mX2_exchange l D ad cI cB en S x1 x2 So hs) C uK_B (wg_V hlk tI_X2_exchange tS_X2_exchange tN_X2 tK_X2_exchange) rfl rfl rfl (by decide +kernel) hR rfl (va_recv hK.1 hP (ci := 2) (q0 := 4) rfl rfl) hK hP hS hls hrest hd hc rfl k
def fX2_lineTwelve (x1 : Int32) (S : St) : Option St :=
    (bd (fX2_sizeBits x1 S) fun r1 S1 => (if r1 = 3 then (bd (fX2_isTo x1 S1) fun b2 S15 => (bv (fX2_multiply x1 b2 S15) fun S16 => (some S16)))
    else (if (x1 &&& 504) = 256 then (bv (fX2_decimalPair x1 3 S1) fun S2 => (some S2))
    else (if (x1 &&& 504) = 264 then (bv (fX2_decimalPair x1 3 S1) fun S3 => (some S3))
    else (if (x1 &&& 504) = 320 then (bd (fX2_upper x1 S1) fun r2 S4 => (bd (fX2_lower x1 S4) fun r3 S5 => (bv (fX2_exchange r2 r3 S5) fun S6 => (some S6))))
    else (if (x1 &&& 504) = 328 then (bd (fX2_upper x1 S1) fun r4 S7 => (bd (fX2_lower x1 S7) fun r5 S8 => (bv (fX2_exchange (8 + r4) (8 + r5) S8) fun S9 => (some S9))))
    else (if (x1 &&& 504) = 392 then (bd (fX2_upper x1 S1) fun r6 S10 => (bd (fX2_lower x1 S10) fun r7 S11 => (bv (fX2_exchange r6 (8 + r7) S11) fun S12 => (some S12))))
    else (bd (fX2_isTo x1 S1) fun b1 S13 => (jn (fun (v1 : Int32) => (bv (fX2_combine x1 1 v1 S13) fun S14 => (some S14))) fun K1 =>
    (if (zI b1) = 0 then (K1 4093)
    else (K1 508)))))))))))
abbrev rmX2_lineTwelve : Room := { frames := 4, cells := 0, slots := 0, locals := 106 }
set_option maxRecDepth 100000 in
set_option maxHeartbeats 4000000 in
theorem mX2_lineTwelve (l : Launch) (D : va_G) (ad : Nat → Nat) (cI cB : ClassId) (en : Nat → Nat) (S : St) (x1 : Int32) (So : St) (hs : fX2_lineTwelve x1 S = some So) : uM l yX2_lineTwelve (wg yX2_lineTwelve cX2_lineTwelve 2 none) rmX2_lineTwelve (KB D ad cI cB en) D (wB ad cI cB) (AX 10 ad) [.ref (ad 4), .int x1] S (none, So) := by
  refine uM_start (by decide) rfl ?_
  intro p e s m below meth c hx hb hr hlocks hml hown hts hK hP
  have hT : ∀ w ∈ wG, w.before _ s = true := fun w h => hts w (List.mem_cons_of_mem _ h)
  have hS : va_S (AX 10 ad s.heap.size) s.heap s.heap [] := va_S.rf
  have hown : s.vm.findClass RX2 = some m.cls := hown
  have C : CallFix p m c cX2_lineTwelve 2 s _ wG RX2 := ⟨hx, hb, hml, hown, hT⟩
  have hl := lv_entry ([.ref (ad 4), .int x1]) (n := 2) (Nat.le_of_ble_eq_true rfl)
  rw [lg_entry_eq]
  generalize (lg_sl ([.ref (ad 4), .int x1]) ++ List.replicate (2 - (lg_sl ([.ref (ad 4), .int x1])).length) Slot.unset).toArray = ls at hl ⊢
  have hl : lv_has ls 2 [(0, .ref (ad 4)), (1, .int x1)] := hl
  unfold fX2_lineTwelve at hs
  refine lv_iload_n hx hb dX2_lineTwelve_0 rfl (lv_at hl 1 rfl) ?_
  obtain ⟨r1, S1, h1, hs⟩ := bd_e hs
  refine kX2_sizeBits C tM_X2_98 ⟨Nat.le_of_ble_eq_true rfl, Nat.le_of_ble_eq_true rfl⟩ ⟨Nat.le_of_ble_eq_true rfl, Nat.le_of_ble_eq_true rfl⟩ hK hP hS hl.1 (rest := []) (Nat.le_of_ble_eq_true rfl) dX2_lineTwelve_1 h1 (fun H locs hP hS => ?_)
  refine lv_iconst (v := 3) hx hb dX2_lineTwelve_4 (by decide) ?_
  refine lv_icmp_ne (tgt := 18) hx hb dX2_lineTwelve_5 (by decide) (fun c1 => ?_) (fun c1 => ?_)
  · have hs := if_f c1 hs
    refine lv_iload_n hx hb dX2_lineTwelve_18 rfl (lv_at hl 1 rfl) ?_
    refine lv_sipush (v := 504) hx hb dX2_lineTwelve_19 (by decide) ?_
    refine lv_iand hx hb dX2_lineTwelve_22 ?_
    by_cases c2 : (x1 &&& 504) = 256
    · have hs := if_t c2 hs
      refine lv_lookup (off := 49) (tgt := 72) hx hb dX2_lineTwelve_23 (by decide) (by rw [c2]; decide) (by decide) ?_
      refine lv_aload_n hx hb dX2_lineTwelve_72 rfl (lv_at hl 0 rfl) ?_
      refine lv_iload_n hx hb dX2_lineTwelve_73 rfl (lv_at hl 1 rfl) ?_
      refine lv_iconst (v := 3) hx hb dX2_lineTwelve_74 (by decide) ?_
      obtain ⟨S2, h2, hs⟩ := bv_e hs
      refine kX2_decimalPair C tM_X2_299 ⟨Nat.le_of_ble_eq_true rfl, Nat.le_of_ble_eq_true rfl⟩ ⟨Nat.le_of_ble_eq_true rfl, Nat.le_of_ble_eq_true rfl⟩ hK hP hS hl.1 (rest := []) (Nat.le_of_ble_eq_true rfl) dX2_lineTwelve_75 h2 (fun H locs hP hS => ?_)
      refine lv_goto (tgt := 157) hx hb dX2_lineTwelve_78 (by decide) ?_
      exact u_vret hx hb hr hlocks hP hS hs dX2_lineTwelve_157
    have hs := if_f c2 hs
    by_cases c3 : (x1 &&& 504) = 264
    · have hs := if_t c3 hs
      refine lv_lookup (off := 49) (tgt := 72) hx hb dX2_lineTwelve_23 (by decide) (by rw [c3]; decide) (by decide) ?_
      refine lv_aload_n hx hb dX2_lineTwelve_72 rfl (lv_at hl 0 rfl) ?_
      refine lv_iload_n hx hb dX2_lineTwelve_73 rfl (lv_at hl 1 rfl) ?_
      refine lv_iconst (v := 3) hx hb dX2_lineTwelve_74 (by decide) ?_
      obtain ⟨S3, h3, hs⟩ := bv_e hs
      refine kX2_decimalPair C tM_X2_299 ⟨Nat.le_of_ble_eq_true rfl, Nat.le_of_ble_eq_true rfl⟩ ⟨Nat.le_of_ble_eq_true rfl, Nat.le_of_ble_eq_true rfl⟩ hK hP hS hl.1 (rest := []) (Nat.le_of_ble_eq_true rfl) dX2_lineTwelve_75 h3 (fun H locs hP hS => ?_)
      refine lv_goto (tgt := 157) hx hb dX2_lineTwelve_78 (by decide) ?_
      exact u_vret hx hb hr hlocks hP hS hs dX2_lineTwelve_157
    have hs := if_f c3 hs
    by_cases c4 : (x1 &&& 504) = 320
    · have hs := if_t c4 hs
      refine lv_lookup (off := 58) (tgt := 81) hx hb dX2_lineTwelve_23 (by decide) (by rw [c4]; decide) (by decide) ?_
      refine lv_aload_n hx hb dX2_lineTwelve_81 rfl (lv_at hl 0 rfl) ?_
      refine lv_iload_n hx hb dX2_lineTwelve_82 rfl (lv_at hl 1 rfl) ?_
      obtain ⟨r2, S4, h4, hs⟩ := bd_e hs
      refine kX2_upper C tM_X2_101 ⟨Nat.le_of_ble_eq_true rfl, Nat.le_of_ble_eq_true rfl⟩ ⟨Nat.le_of_ble_eq_true rfl, Nat.le_of_ble_eq_true rfl⟩ hK hP hS hl.1 (rest := [.ref (ad 4)]) (Nat.le_of_ble_eq_true rfl) dX2_lineTwelve_83 h4 (fun H locs hP hS => ?_)
      refine lv_iload_n hx hb dX2_lineTwelve_86 rfl (lv_at hl 1 rfl) ?_
      obtain ⟨r3, S5, h5, hs⟩ := bd_e hs
      refine kX2_lower C tM_X2_121 ⟨Nat.le_of_ble_eq_true rfl, Nat.le_of_ble_eq_true rfl⟩ ⟨Nat.le_of_ble_eq_true rfl, Nat.le_of_ble_eq_true rfl⟩ hK hP hS hl.1 (rest := [.int r2, .ref (ad 4)]) (Nat.le_of_ble_eq_true rfl) dX2_lineTwelve_87 h5 (fun H locs hP hS => ?_)
      obtain ⟨S6, h6, hs⟩ := bv_e hs
      refine kX2_exchange C tM_X2_317 ⟨Nat.le_of_ble_eq_true rfl, Nat.le_of_ble_eq_true rfl⟩ ⟨Nat.le_of_ble_eq_true rfl, Nat.le_of_ble_eq_true rfl⟩ hK hP hS hl.1 (rest := []) (Nat.le_of_ble_eq_true rfl) dX2_lineTwelve_90 h6 (fun H locs hP hS => ?_)
      refine lv_goto (tgt := 157) hx hb dX2_lineTwelve_93 (by decide) ?_
      exact u_vret hx hb hr hlocks hP hS hs dX2_lineTwelve_157
    have hs := if_f c4 hs
    by_cases c5 : (x1 &&& 504) = 328
    · have hs := if_t c5 hs
      refine lv_lookup (off := 73) (tgt := 96) hx hb dX2_lineTwelve_23 (by decide) (by rw [c5]; decide) (by decide) ?_
      refine lv_aload_n hx hb dX2_lineTwelve_96 rfl (lv_at hl 0 rfl) ?_
      refine lv_bipush (v := 8) hx hb dX2_lineTwelve_97 (by decide) ?_
      refine lv_iload_n hx hb dX2_lineTwelve_99 rfl (lv_at hl 1 rfl) ?_
      obtain ⟨r4, S7, h7, hs⟩ := bd_e hs
      refine kX2_upper C tM_X2_101 ⟨Nat.le_of_ble_eq_true rfl, Nat.le_of_ble_eq_true rfl⟩ ⟨Nat.le_of_ble_eq_true rfl, Nat.le_of_ble_eq_true rfl⟩ hK hP hS hl.1 (rest := [.int 8, .ref (ad 4)]) (Nat.le_of_ble_eq_true rfl) dX2_lineTwelve_100 h7 (fun H locs hP hS => ?_)
      refine lv_iadd hx hb dX2_lineTwelve_103 ?_
      refine lv_bipush (v := 8) hx hb dX2_lineTwelve_104 (by decide) ?_
      refine lv_iload_n hx hb dX2_lineTwelve_106 rfl (lv_at hl 1 rfl) ?_
      obtain ⟨r5, S8, h8, hs⟩ := bd_e hs
      refine kX2_lower C tM_X2_121 ⟨Nat.le_of_ble_eq_true rfl, Nat.le_of_ble_eq_true rfl⟩ ⟨Nat.le_of_ble_eq_true rfl, Nat.le_of_ble_eq_true rfl⟩ hK hP hS hl.1 (rest := [.int 8, .int (8 + r4), .ref (ad 4)]) (Nat.le_of_ble_eq_true rfl) dX2_lineTwelve_107 h8 (fun H locs hP hS => ?_)
      refine lv_iadd hx hb dX2_lineTwelve_110 ?_
      obtain ⟨S9, h9, hs⟩ := bv_e hs
      refine kX2_exchange C tM_X2_317 ⟨Nat.le_of_ble_eq_true rfl, Nat.le_of_ble_eq_true rfl⟩ ⟨Nat.le_of_ble_eq_true rfl, Nat.le_of_ble_eq_true rfl⟩ hK hP hS hl.1 (rest := []) (Nat.le_of_ble_eq_true rfl) dX2_lineTwelve_111 h9 (fun H locs hP hS => ?_)
      refine lv_goto (tgt := 157) hx hb dX2_lineTwelve_114 (by decide) ?_
      exact u_vret hx hb hr hlocks hP hS hs dX2_lineTwelve_157
    have hs := if_f c5 hs
    by_cases c6 : (x1 &&& 504) = 392
    · have hs := if_t c6 hs
      refine lv_lookup (off := 94) (tgt := 117) hx hb dX2_lineTwelve_23 (by decide) (by rw [c6]; decide) (by decide) ?_
      refine lv_aload_n hx hb dX2_lineTwelve_117 rfl (lv_at hl 0 rfl) ?_
      refine lv_iload_n hx hb dX2_lineTwelve_118 rfl (lv_at hl 1 rfl) ?_
      obtain ⟨r6, S10, h10, hs⟩ := bd_e hs
      refine kX2_upper C tM_X2_101 ⟨Nat.le_of_ble_eq_true rfl, Nat.le_of_ble_eq_true rfl⟩ ⟨Nat.le_of_ble_eq_true rfl, Nat.le_of_ble_eq_true rfl⟩ hK hP hS hl.1 (rest := [.ref (ad 4)]) (Nat.le_of_ble_eq_true rfl) dX2_lineTwelve_119 h10 (fun H locs hP hS => ?_)
      refine lv_bipush (v := 8) hx hb dX2_lineTwelve_122 (by decide) ?_
      refine lv_iload_n hx hb dX2_lineTwelve_124 rfl (lv_at hl 1 rfl) ?_
      obtain ⟨r7, S11, h11, hs⟩ := bd_e hs
      refine kX2_lower C tM_X2_121 ⟨Nat.le_of_ble_eq_true rfl, Nat.le_of_ble_eq_true rfl⟩ ⟨Nat.le_of_ble_eq_true rfl, Nat.le_of_ble_eq_true rfl⟩ hK hP hS hl.1 (rest := [.int 8, .int r6, .ref (ad 4)]) (Nat.le_of_ble_eq_true rfl) dX2_lineTwelve_125 h11 (fun H locs hP hS => ?_)
      refine lv_iadd hx hb dX2_lineTwelve_128 ?_
      obtain ⟨S12, h12, hs⟩ := bv_e hs
      refine kX2_exchange C tM_X2_317 ⟨Nat.le_of_ble_eq_true rfl, Nat.le_of_ble_eq_true rfl⟩ ⟨Nat.le_of_ble_eq_true rfl, Nat.le_of_ble_eq_true rfl⟩ hK hP hS hl.1 (rest := []) (Nat.le_of_ble_eq_true rfl) dX2_lineTwelve_129 h12 (fun H locs hP hS => ?_)
      refine lv_goto (tgt := 157) hx hb dX2_lineTwelve_132 (by decide) ?_
      exact u_vret hx hb hr hlocks hP hS hs dX2_lineTwelve_157
    have hs := if_f c6 hs
    refine lv_lookup (off := 112) (tgt := 135) hx hb dX2_lineTwelve_23 (by decide) ((lv_osw c2 (by decide)).trans ((lv_osw c3 (by decide)).trans ((lv_osw c4 (by decide)).trans ((lv_osw c5 (by decide)).trans ((lv_osw c6 (by decide)).trans (rfl)))))) (by decide) ?_
    refine lv_aload_n hx hb dX2_lineTwelve_135 rfl (lv_at hl 0 rfl) ?_
    refine lv_iload_n hx hb dX2_lineTwelve_136 rfl (lv_at hl 1 rfl) ?_
    refine lv_iconst (v := 1) hx hb dX2_lineTwelve_137 (by decide) ?_
    refine lv_iload_n hx hb dX2_lineTwelve_138 rfl (lv_at hl 1 rfl) ?_
    obtain ⟨b1, S13, h13, hs⟩ := bd_e hs
    refine kX2_isTo C tM_X2_107 ⟨Nat.le_of_ble_eq_true rfl, Nat.le_of_ble_eq_true rfl⟩ ⟨Nat.le_of_ble_eq_true rfl, Nat.le_of_ble_eq_true rfl⟩ hK hP hS hl.1 (rest := [.int 1, .int x1, .ref (ad 4)]) (Nat.le_of_ble_eq_true rfl) dX2_lineTwelve_139 h13 (fun H locs hP hS => ?_)
    refine jn_e hs (fun K1 => ∀ (v1 : Int32) (H : Heap) (locs : List Loc) (ls : Array Slot), lv_has ls 2 [] → va_P D vwCl (wB ad cI cB S13) H → va_S (AX 10 ad s.heap.size) s.heap H locs → K1 v1 = some So → W p l e rmX2_lineTwelve s m ([.ref (ad 4), .int x1] : List Value).toArray below meth c H locs 0 0 (MQ below (uQ D (wB ad cI cB) (none, So) (AX 10 ad s.heap.size)) ([.ref (ad 4), .int x1] : List Value).toArray s 0 0 (AX 10 ad s.heap.size)) (F0 m 154 ls [.int v1, .int 1, .int x1, .ref (ad 4)])) ?_ (fun K1 J1 hs => ?_)
    · intro v1 H locs ls hl hP hS hs
      obtain ⟨S14, h14, hs⟩ := bv_e hs
      refine kX2_combine C tM_X2_302 ⟨Nat.le_of_ble_eq_true rfl, Nat.le_of_ble_eq_true rfl⟩ ⟨Nat.le_of_ble_eq_true rfl, Nat.le_of_ble_eq_true rfl⟩ hK hP hS hl.1 (rest := []) (Nat.le_of_ble_eq_true rfl) dX2_lineTwelve_154 h14 (fun H locs hP hS => ?_)
      exact u_vret hx hb hr hlocks hP hS hs dX2_lineTwelve_157
    ·
      refine lv_if_eq (tgt := 151) hx hb dX2_lineTwelve_142 (by decide) (fun c7 => ?_) (fun c7 => ?_)
      · have hs := if_t c7 hs
        refine lv_sipush (v := 4093) hx hb dX2_lineTwelve_151 (by decide) ?_
        exact J1 4093 _ _ _ (lv_sub hl [] rfl) hP hS hs
      · have hs := if_f c7 hs
        refine lv_sipush (v := 508) hx hb dX2_lineTwelve_145 (by decide) ?_
        refine lv_goto (tgt := 154) hx hb dX2_lineTwelve_148 (by decide) ?_
        exact J1 508 _ _ _ (lv_sub hl [] rfl) hP hS hs
  · have hs := if_t c1 hs
    refine lv_aload_n hx hb dX2_lineTwelve_8 rfl (lv_at hl 0 rfl) ?_
    refine lv_iload_n hx hb dX2_lineTwelve_9 rfl (lv_at hl 1 rfl) ?_
    refine lv_iload_n hx hb dX2_lineTwelve_10 rfl (lv_at hl 1 rfl) ?_
    obtain ⟨b2, S15, h15, hs⟩ := bd_e hs
    refine kX2_isTo C tM_X2_107 ⟨Nat.le_of_ble_eq_true rfl, Nat.le_of_ble_eq_true rfl⟩ ⟨Nat.le_of_ble_eq_true rfl, Nat.le_of_ble_eq_true rfl⟩ hK hP hS hl.1 (rest := [.int x1, .ref (ad 4)]) (Nat.le_of_ble_eq_true rfl) dX2_lineTwelve_11 h15 (fun H locs hP hS => ?_)
    obtain ⟨S16, h16, hs⟩ := bv_e hs
    refine kX2_multiply C tM_X2_314 ⟨Nat.le_of_ble_eq_true rfl, Nat.le_of_ble_eq_true rfl⟩ ⟨Nat.le_of_ble_eq_true rfl, Nat.le_of_ble_eq_true rfl⟩ hK hP hS hl.1 (rest := []) (Nat.le_of_ble_eq_true rfl) dX2_lineTwelve_14 h16 (fun H locs hP hS => ?_)
    exact u_vret hx hb hr hlocks hP hS hs dX2_lineTwelve_17
theorem kX2_lineTwelve {p : Program} {l : Launch} {e : Env} {R : Room} {s : State} {m : MethodId} {args : Array Value} {below : List Frame} {meth : Method} {c : Code} {H : Heap} {locs : List Loc} {cells slots : Nat} {Q : State → Prop} {cc : ByteArray} {pc nL : Nat} {ls : Array Slot} {rest : List Value} {D : va_G} {ad : Nat → Nat} {cI cB : ClassId} {en : Nat → Nat} {S : St} {own : String} {index : Nat} {x1 : Int32} {So : St} (C : CallFix p m c cc nL s args wG own) (hlk : Cond.methodLink own index yX2_lineTwelve ∈ wG) (hR : rmX2_lineTwelve.frames + 1 ≤ R.frames ∧ 8 + (2 + 11) + rmX2_lineTwelve.locals ≤ R.locals) (hc : cells ≤ R.cells ∧ slots ≤ R.slots) (hK : KB D ad cI cB en s) (hP : va_P D vwCl (wB ad cI cB S) H) (hS : va_S (AX 10 ad s.heap.size) s.heap H locs) (hls : ls.size = nL) (hrest : (rest.map fun v => v.category).sum ≤ 8) (hd : decode cc pc = .ok (.invokevirtual index, 3)) (hs : fX2_lineTwelve x1 S = some So) (k : ∀ (H : Heap) (locs : List Loc), va_P D vwCl (wB ad cI cB So) H → va_S (AX 10 ad s.heap.size) s.heap H locs → W p l e R s m args below meth c H locs cells slots Q (F0 m (pc + 3) ls (rest))) : W p l e R s m args below meth c H locs cells slots Q (F0 m pc ls (.int x1 :: .ref (ad 4) :: rest)) :=
  u_callV (n := 1) (mX2_lineTwelve l D ad cI cB en S x1 So hs) C uK_B (wg_V hlk tI_X2_lineTwelve tS_X2_lineTwelve tN_X2 tK_X2_lineTwelve) rfl rfl rfl (by decide +kernel) hR rfl (va_recv hK.1 hP (ci := 2) (q0 := 4) rfl rfl) hK hP hS hls hrest hd hc rfl k
def fX2_times (x1 : Int32) (S : St) : Option (Int32 × St) :=
    (if (x1 &&& 32) = 0 then (bd (fX2_upper x1 S) fun r1 S1 => (if r1 = 0 then (some (8, S1))
    else (bd (fX2_upper x1 S1) fun r2 S2 => (some (r2, S2)))))
    else (bd (fX2_upper x1 S) fun r3 S3 => (bd (fX4_get r3 S3) fun r4 S4 => (some ((r4 &&& 63), S4)))))
abbrev rmX2_times : Room := { frames := 1, cells := 0, slots := 0, locals := 21 }
set_option maxRecDepth 100000 in
set_option maxHeartbeats 4000000 in
theorem mX2_times (l : Launch) (D : va_G) (ad : Nat → Nat) (cI cB : ClassId) (en : Nat → Nat) (S : St) (x1 : Int32) (ro : Int32) (So : St) (hs : fX2_times x1 S = some (ro, So)) : uM l yX2_times (wg yX2_times cX2_times 2 (some .int)) rmX2_times (KB D ad cI cB en) D (wB ad cI cB) (AX 10 ad) [.ref (ad 4), .int x1] S (some (.int ro), So) := by
  refine uM_start (by decide) rfl ?_
  intro p e s m below meth c hx hb hr hlocks hml hown hts hK hP
  have hT : ∀ w ∈ wG, w.before _ s = true := fun w h => hts w (List.mem_cons_of_mem _ h)
  have hS : va_S (AX 10 ad s.heap.size) s.heap s.heap [] := va_S.rf
  have hown : s.vm.findClass RX2 = some m.cls := hown
  have C : CallFix p m c cX2_times 2 s _ wG RX2 := ⟨hx, hb, hml, hown, hT⟩
  have hl := lv_entry ([.ref (ad 4), .int x1]) (n := 2) (Nat.le_of_ble_eq_true rfl)
  rw [lg_entry_eq]
  generalize (lg_sl ([.ref (ad 4), .int x1]) ++ List.replicate (2 - (lg_sl ([.ref (ad 4), .int x1])).length) Slot.unset).toArray = ls at hl ⊢
  have hl : lv_has ls 2 [(0, .ref (ad 4)), (1, .int x1)] := hl
  unfold fX2_times at hs
  refine lv_iload_n hx hb dX2_times_0 rfl (lv_at hl 1 rfl) ?_
  refine lv_bipush (v := 32) hx hb dX2_times_1 (by decide) ?_
  refine lv_iand hx hb dX2_times_3 ?_
  refine lv_if_eq (tgt := 22) hx hb dX2_times_4 (by decide) (fun c1 => ?_) (fun c1 => ?_)
  · have hs := if_t c1 hs
    refine lv_iload_n hx hb dX2_times_22 rfl (lv_at hl 1 rfl) ?_
    obtain ⟨r1, S1, h1, hs⟩ := bd_e hs
    refine kX2_upper C tM_X2_101 ⟨Nat.le_of_ble_eq_true rfl, Nat.le_of_ble_eq_true rfl⟩ ⟨Nat.le_of_ble_eq_true rfl, Nat.le_of_ble_eq_true rfl⟩ hK hP hS hl.1 (rest := []) (Nat.le_of_ble_eq_true rfl) dX2_times_23 h1 (fun H locs hP hS => ?_)
    refine lv_if_ne (tgt := 34) hx hb dX2_times_26 (by decide) (fun c2 => ?_) (fun c2 => ?_)
    · have hs := if_f c2 hs
      refine lv_iload_n hx hb dX2_times_34 rfl (lv_at hl 1 rfl) ?_
      obtain ⟨r2, S2, h2, hs⟩ := bd_e hs
      refine kX2_upper C tM_X2_101 ⟨Nat.le_of_ble_eq_true rfl, Nat.le_of_ble_eq_true rfl⟩ ⟨Nat.le_of_ble_eq_true rfl, Nat.le_of_ble_eq_true rfl⟩ hK hP hS hl.1 (rest := []) (Nat.le_of_ble_eq_true rfl) dX2_times_35 h2 (fun H locs hP hS => ?_)
      exact u_iret hx hb hr hlocks hP hS hs dX2_times_38
    · have hs := if_t c2 hs
      refine lv_bipush (v := 8) hx hb dX2_times_29 (by decide) ?_
      refine lv_goto (tgt := 38) hx hb dX2_times_31 (by decide) ?_
      exact u_iret hx hb hr hlocks hP hS hs dX2_times_38
  · have hs := if_f c1 hs
    refine lv_aload_n hx hb dX2_times_7 rfl (lv_at hl 0 rfl) ?_
    refine gB_X2_registers hx hb hT hown hK hP (hT _ tF_X2_9) dX2_times_8 ?_
    refine lv_iload_n hx hb dX2_times_11 rfl (lv_at hl 1 rfl) ?_
    obtain ⟨r3, S3, h3, hs⟩ := bd_e hs
    refine kX2_upper C tM_X2_101 ⟨Nat.le_of_ble_eq_true rfl, Nat.le_of_ble_eq_true rfl⟩ ⟨Nat.le_of_ble_eq_true rfl, Nat.le_of_ble_eq_true rfl⟩ hK hP hS hl.1 (rest := [.ref (ad 2)]) (Nat.le_of_ble_eq_true rfl) dX2_times_12 h3 (fun H locs hP hS => ?_)
    obtain ⟨r4, S4, h4, hs⟩ := bd_e hs
    refine kX4_get C tM_X2_124 ⟨Nat.le_of_ble_eq_true rfl, Nat.le_of_ble_eq_true rfl⟩ ⟨Nat.le_of_ble_eq_true rfl, Nat.le_of_ble_eq_true rfl⟩ hK hP hS hl.1 (rest := []) (Nat.le_of_ble_eq_true rfl) dX2_times_15 h4 (fun H locs hP hS => ?_)
    refine lv_bipush (v := 63) hx hb dX2_times_18 (by decide) ?_
    refine lv_iand hx hb dX2_times_20 ?_
    exact u_iret hx hb hr hlocks hP hS hs dX2_times_21
theorem kX2_times {p : Program} {l : Launch} {e : Env} {R : Room} {s : State} {m : MethodId} {args : Array Value} {below : List Frame} {meth : Method} {c : Code} {H : Heap} {locs : List Loc} {cells slots : Nat} {Q : State → Prop} {cc : ByteArray} {pc nL : Nat} {ls : Array Slot} {rest : List Value} {D : va_G} {ad : Nat → Nat} {cI cB : ClassId} {en : Nat → Nat} {S : St} {own : String} {index : Nat} {x1 : Int32} {ro : Int32} {So : St} (C : CallFix p m c cc nL s args wG own) (hlk : Cond.methodLink own index yX2_times ∈ wG) (hR : rmX2_times.frames + 1 ≤ R.frames ∧ 8 + (2 + 11) + rmX2_times.locals ≤ R.locals) (hc : cells ≤ R.cells ∧ slots ≤ R.slots) (hK : KB D ad cI cB en s) (hP : va_P D vwCl (wB ad cI cB S) H) (hS : va_S (AX 10 ad s.heap.size) s.heap H locs) (hls : ls.size = nL) (hrest : (rest.map fun v => v.category).sum ≤ 8) (hd : decode cc pc = .ok (.invokevirtual index, 3)) (hs : fX2_times x1 S = some (ro, So)) (k : ∀ (H : Heap) (locs : List Loc), va_P D vwCl (wB ad cI cB So) H → va_S (AX 10 ad s.heap.size) s.heap H locs → W p l e R s m args below meth c H locs cells slots Q (F0 m (pc + 3) ls (.int ro :: rest))) : W p l e R s m args below meth c H locs cells slots Q (F0 m pc ls (.int x1 :: .ref (ad 4) :: rest)) :=
  u_callV (n := 1) (mX2_times l D ad cI cB en S x1 ro So hs) C uK_B (wg_V hlk tI_X2_times tS_X2_times tN_X2 tK_X2_times) rfl rfl rfl (by decide +kernel) hR rfl (va_recv hK.1 hP (ci := 2) (q0 := 4) rfl rfl) hK hP hS hls hrest hd hc rfl k
def fX2_shift (x1 : Int32) (S : St) : Option St :=
    (bd (fX2_isTo x1 S) fun b1 S1 => (bd (fX2_sizeBits x1 S1) fun r1 S2 => (if r1 = 3 then (if (x1 &&& 2048) = 0 then (bd (fX2_operand x1 S2) fun r2 S3 => (bd (fX2_misfits 508 r2 S3) fun b2 S4 => (if (zI b2) = 0 then (bd (fX2_operand x1 S4) fun r3 S5 => (bd (fX0_locate 1 r3 S5) fun w1 S6 => (bd (fX0_load 1 w1 S6) fun r4 S7 => (bd (fX1_shifted 1 r4 1 ((ush x1 9) &&& 3) b1 S7) fun r5 S8 => (bv (fX0_store 1 w1 r5 S8) fun S9 => (some S9))))))
    else (some S4))))
    else (bv (fX2_illegal S2) fun S10 => (some S10)))
    else (bd (fX2_sizeBits x1 S2) fun r6 S11 => (bd (fX5_of r6 S11) fun e1 S12 => (gd (e1 < 3) (bd (fX2_lower x1 S12) fun r7 S13 => (bd (fX0_inRegister r7 S13) fun w2 S14 => (bd (fX0_load e1 w2 S14) fun r8 S15 => (bd (fX2_times x1 S15) fun r9 S16 => (bd (fX1_shifted e1 r8 r9 ((ush x1 3) &&& 3) b1 S16) fun r10 S17 => (bv (fX0_store e1 w2 r10 S17) fun S18 => (some S18)))))))))))))
abbrev rmX2_shift : Room := { frames := 3, cells := 0, slots := 0, locals := 73 }
set_option maxRecDepth 100000 in
set_option maxHeartbeats 4000000 in
theorem mX2_shift (l : Launch) (D : va_G) (ad : Nat → Nat) (cI cB : ClassId) (en : Nat → Nat) (S : St) (x1 : Int32) (So : St) (hs : fX2_shift x1 S = some So) : uM l yX2_shift (wg yX2_shift cX2_shift 7 none) rmX2_shift (KB D ad cI cB en) D (wB ad cI cB) (AX 10 ad) [.ref (ad 4), .int x1] S (none, So) := by
  refine uM_start (by decide) rfl ?_
  intro p e s m below meth c hx hb hr hlocks hml hown hts hK hP
  have hT : ∀ w ∈ wG, w.before _ s = true := fun w h => hts w (List.mem_cons_of_mem _ h)
  have hS : va_S (AX 10 ad s.heap.size) s.heap s.heap [] := va_S.rf
  have hown : s.vm.findClass RX2 = some m.cls := hown
  have C : CallFix p m c cX2_shift 7 s _ wG RX2 := ⟨hx, hb, hml, hown, hT⟩
  have hl := lv_entry ([.ref (ad 4), .int x1]) (n := 7) (Nat.le_of_ble_eq_true rfl)
  rw [lg_entry_eq]
  generalize (lg_sl ([.ref (ad 4), .int x1]) ++ List.replicate (7 - (lg_sl ([.ref (ad 4), .int x1])).length) Slot.unset).toArray = ls at hl ⊢
  have hl : lv_has ls 7 [(0, .ref (ad 4)), (1, .int x1)] := hl
  unfold fX2_shift at hs
  refine lv_iload_n hx hb dX2_shift_0 rfl (lv_at hl 1 rfl) ?_
  obtain ⟨b1, S1, h1, hs⟩ := bd_e hs
  refine kX2_isTo C tM_X2_107 ⟨Nat.le_of_ble_eq_true rfl, Nat.le_of_ble_eq_true rfl⟩ ⟨Nat.le_of_ble_eq_true rfl, Nat.le_of_ble_eq_true rfl⟩ hK hP hS hl.1 (rest := []) (Nat.le_of_ble_eq_true rfl) dX2_shift_1 h1 (fun H locs hP hS => ?_)
  refine lv_istore_n (lv' := [(2, .int (zI b1)), (0, .ref (ad 4)), (1, .int x1)]) hx hb dX2_shift_4 rfl hl (by decide) rfl (fun ls hl => ?_)
  refine lv_iload_n hx hb dX2_shift_5 rfl (lv_at hl 2 rfl) ?_
  obtain ⟨r1, S2, h2, hs⟩ := bd_e hs
  refine kX2_sizeBits C tM_X2_98 ⟨Nat.le_of_ble_eq_true rfl, Nat.le_of_ble_eq_true rfl⟩ ⟨Nat.le_of_ble_eq_true rfl, Nat.le_of_ble_eq_true rfl⟩ hK hP hS hl.1 (rest := []) (Nat.le_of_ble_eq_true rfl) dX2_shift_6 h2 (fun H locs hP hS => ?_)
  refine lv_iconst (v := 3) hx hb dX2_shift_9 (by decide) ?_
  refine lv_icmp_eq (tgt := 76) hx hb dX2_shift_10 (by decide) (fun c1 => ?_) (fun c1 => ?_)
  · have hs := if_t c1 hs
    refine lv_iload_n hx hb dX2_shift_76 rfl (lv_at hl 2 rfl) ?_
    refine lv_sipush (v := 2048) hx hb dX2_shift_77 (by decide) ?_
    refine lv_iand hx hb dX2_shift_80 ?_
    refine lv_if_eq (tgt := 91) hx hb dX2_shift_81 (by decide) (fun c2 => ?_) (fun c2 => ?_)
    · have hs := if_t c2 hs
      refine lv_aload_n hx hb dX2_shift_91 rfl (lv_at hl 1 rfl) ?_
      refine lv_sipush (v := 508) hx hb dX2_shift_92 (by decide) ?_
      refine lv_iload_n hx hb dX2_shift_95 rfl (lv_at hl 2 rfl) ?_
      obtain ⟨r2, S3, h3, hs⟩ := bd_e hs
      refine kX2_operand C tM_X2_95 ⟨Nat.le_of_ble_eq_true rfl, Nat.le_of_ble_eq_true rfl⟩ ⟨Nat.le_of_ble_eq_true rfl, Nat.le_of_ble_eq_true rfl⟩ hK hP hS hl.1 (rest := [.int 508, .ref (ad 4)]) (Nat.le_of_ble_eq_true rfl) dX2_shift_96 h3 (fun H locs hP hS => ?_)
      obtain ⟨b2, S4, h4, hs⟩ := bd_e hs
      refine kX2_misfits C tM_X2_146 ⟨Nat.le_of_ble_eq_true rfl, Nat.le_of_ble_eq_true rfl⟩ ⟨Nat.le_of_ble_eq_true rfl, Nat.le_of_ble_eq_true rfl⟩ hK hP hS hl.1 (rest := []) (Nat.le_of_ble_eq_true rfl) dX2_shift_99 h4 (fun H locs hP hS => ?_)
      refine lv_if_ne (tgt := 164) hx hb dX2_shift_102 (by decide) (fun c3 => ?_) (fun c3 => ?_)
      · have hs := if_f c3 hs
        exact u_vret hx hb hr hlocks hP hS hs dX2_shift_164
      · have hs := if_t c3 hs
        refine lv_aload_n hx hb dX2_shift_105 rfl (lv_at hl 1 rfl) ?_
        refine gB_X2_access hx hb hT hown hK hP (hT _ tF_X2_15) dX2_shift_106 ?_
        refine gS_WORD hx hb hown hK hS (hT _ tF_X2_49) dX2_shift_109 ?_
        refine lv_iload_n hx hb dX2_shift_112 rfl (lv_at hl 2 rfl) ?_
        obtain ⟨r3, S5, h5, hs⟩ := bd_e hs
        refine kX2_operand C tM_X2_95 ⟨Nat.le_of_ble_eq_true rfl, Nat.le_of_ble_eq_true rfl⟩ ⟨Nat.le_of_ble_eq_true rfl, Nat.le_of_ble_eq_true rfl⟩ hK hP hS hl.1 (rest := [.ref (en 1), .ref (ad 3)]) (Nat.le_of_ble_eq_true rfl) dX2_shift_113 h5 (fun H locs hP hS => ?_)
        obtain ⟨w1, S6, h6, hs⟩ := bd_e hs
        refine kX0_locate C tM_X2_150 ⟨Nat.le_of_ble_eq_true rfl, Nat.le_of_ble_eq_true rfl⟩ ⟨Nat.le_of_ble_eq_true rfl, Nat.le_of_ble_eq_true rfl⟩ hK hP hS hl.1 (rest := []) (Nat.le_of_ble_eq_true rfl) dX2_shift_116 h6 (fun H locs hP hS => ?_)
        refine lv_lstore_n (lv' := [(3, .long w1), (2, .int (zI b1)), (0, .ref (ad 4)), (1, .int x1)]) hx hb dX2_shift_119 rfl hl (by decide) rfl (fun ls hl => ?_)
        refine lv_aload_n hx hb dX2_shift_120 rfl (lv_at hl 2 rfl) ?_
        refine gB_X2_access hx hb hT hown hK hP (hT _ tF_X2_15) dX2_shift_121 ?_
        refine gS_WORD hx hb hown hK hS (hT _ tF_X2_49) dX2_shift_124 ?_
        refine lv_lload_n hx hb dX2_shift_127 rfl (lv_at hl 0 rfl) ?_
        obtain ⟨r4, S7, h7, hs⟩ := bd_e hs
        refine kX0_load C tM_X2_154 ⟨Nat.le_of_ble_eq_true rfl, Nat.le_of_ble_eq_true rfl⟩ ⟨Nat.le_of_ble_eq_true rfl, Nat.le_of_ble_eq_true rfl⟩ hK hP hS hl.1 (rest := []) (Nat.le_of_ble_eq_true rfl) dX2_shift_128 h7 (fun H locs hP hS => ?_)
        refine lv_istore (lv' := [(5, .int r4), (3, .long w1), (2, .int (zI b1)), (0, .ref (ad 4)), (1, .int x1)]) hx hb dX2_shift_131 hl (by decide) rfl (fun ls hl => ?_)
        refine lv_aload_n hx hb dX2_shift_133 rfl (lv_at hl 3 rfl) ?_
        refine gB_X2_access hx hb hT hown hK hP (hT _ tF_X2_15) dX2_shift_134 ?_
        refine gS_WORD hx hb hown hK hS (hT _ tF_X2_49) dX2_shift_137 ?_
        refine lv_lload_n hx hb dX2_shift_140 rfl (lv_at hl 1 rfl) ?_
        refine lv_aload_n hx hb dX2_shift_141 rfl (lv_at hl 3 rfl) ?_
        refine gB_X2_arithmetic hx hb hT hown hK hP (hT _ tF_X2_24) dX2_shift_142 ?_
        refine gS_WORD hx hb hown hK hS (hT _ tF_X2_49) dX2_shift_145 ?_
        refine lv_iload hx hb dX2_shift_148 (lv_at hl 0 rfl) ?_
        refine lv_iconst (v := 1) hx hb dX2_shift_150 (by decide) ?_
        refine lv_iload_n hx hb dX2_shift_151 rfl (lv_at hl 4 rfl) ?_
        refine lv_bipush (v := 9) hx hb dX2_shift_152 (by decide) ?_
        refine lv_iushr (v := (ush x1 9)) hx hb dX2_shift_154 rfl ?_
        refine lv_iconst (v := 3) hx hb dX2_shift_155 (by decide) ?_
        refine lv_iand hx hb dX2_shift_156 ?_
        refine lv_iload_n hx hb dX2_shift_157 rfl (lv_at hl 2 rfl) ?_
        obtain ⟨r5, S8, h8, hs⟩ := bd_e hs
        refine kX1_shifted C tM_X2_338 ⟨Nat.le_of_ble_eq_true rfl, Nat.le_of_ble_eq_true rfl⟩ ⟨Nat.le_of_ble_eq_true rfl, Nat.le_of_ble_eq_true rfl⟩ hK hP hS hl.1 (rest := [.long w1, .ref (en 1), .ref (ad 3)]) (Nat.le_of_ble_eq_true rfl) dX2_shift_158 h8 (fun H locs hP hS => ?_)
        obtain ⟨S9, h9, hs⟩ := bv_e hs
        refine kX0_store C tM_X2_161 ⟨Nat.le_of_ble_eq_true rfl, Nat.le_of_ble_eq_true rfl⟩ ⟨Nat.le_of_ble_eq_true rfl, Nat.le_of_ble_eq_true rfl⟩ hK hP hS hl.1 (rest := []) (Nat.le_of_ble_eq_true rfl) dX2_shift_161 h9 (fun H locs hP hS => ?_)
        exact u_vret hx hb hr hlocks hP hS hs dX2_shift_164
    · have hs := if_f c2 hs
      refine lv_aload_n hx hb dX2_shift_84 rfl (lv_at hl 1 rfl) ?_
      obtain ⟨S10, h10, hs⟩ := bv_e hs
      refine kX2_illegal C tM_X2_178 ⟨Nat.le_of_ble_eq_true rfl, Nat.le_of_ble_eq_true rfl⟩ ⟨Nat.le_of_ble_eq_true rfl, Nat.le_of_ble_eq_true rfl⟩ hK hP hS hl.1 (rest := []) (Nat.le_of_ble_eq_true rfl) dX2_shift_85 h10 (fun H locs hP hS => ?_)
      refine lv_goto (tgt := 164) hx hb dX2_shift_88 (by decide) ?_
      exact u_vret hx hb hr hlocks hP hS hs dX2_shift_164
  · have hs := if_f c1 hs
    refine lv_iload_n hx hb dX2_shift_13 rfl (lv_at hl 2 rfl) ?_
    obtain ⟨r6, S11, h11, hs⟩ := bd_e hs
    refine kX2_sizeBits C tM_X2_98 ⟨Nat.le_of_ble_eq_true rfl, Nat.le_of_ble_eq_true rfl⟩ ⟨Nat.le_of_ble_eq_true rfl, Nat.le_of_ble_eq_true rfl⟩ hK hP hS hl.1 (rest := []) (Nat.le_of_ble_eq_true rfl) dX2_shift_14 h11 (fun H locs hP hS => ?_)
    obtain ⟨e1, S12, h12, hs⟩ := bd_e hs
    refine kX5_of C tM_X2_181 ⟨Nat.le_of_ble_eq_true rfl, Nat.le_of_ble_eq_true rfl⟩ ⟨Nat.le_of_ble_eq_true rfl, Nat.le_of_ble_eq_true rfl⟩ hK hP hS hl.1 (rest := []) (Nat.le_of_ble_eq_true rfl) dX2_shift_17 h12 (fun H locs hP hS => ?_)
    obtain ⟨h13, hs⟩ := gd_e hs
    refine lv_astore_n (lv' := [(3, .ref (en e1)), (2, .int (zI b1)), (0, .ref (ad 4)), (1, .int x1)]) hx hb dX2_shift_20 rfl hl (by decide) rfl (fun ls hl => ?_)
    refine lv_iload_n hx hb dX2_shift_21 rfl (lv_at hl 3 rfl) ?_
    obtain ⟨r7, S13, h14, hs⟩ := bd_e hs
    refine kX2_lower C tM_X2_121 ⟨Nat.le_of_ble_eq_true rfl, Nat.le_of_ble_eq_true rfl⟩ ⟨Nat.le_of_ble_eq_true rfl, Nat.le_of_ble_eq_true rfl⟩ hK hP hS hl.1 (rest := []) (Nat.le_of_ble_eq_true rfl) dX2_shift_22 h14 (fun H locs hP hS => ?_)
    obtain ⟨w2, S14, h15, hs⟩ := bd_e hs
    refine kX0_inRegister C tM_X2_256 ⟨Nat.le_of_ble_eq_true rfl, Nat.le_of_ble_eq_true rfl⟩ ⟨Nat.le_of_ble_eq_true rfl, Nat.le_of_ble_eq_true rfl⟩ hK hP hS hl.1 (rest := []) (Nat.le_of_ble_eq_true rfl) dX2_shift_25 h15 (fun H locs hP hS => ?_)
    refine lv_lstore (lv' := [(4, .long w2), (3, .ref (en e1)), (2, .int (zI b1)), (0, .ref (ad 4)), (1, .int x1)]) hx hb dX2_shift_28 hl (by decide) rfl (fun ls hl => ?_)
    refine lv_aload_n hx hb dX2_shift_30 rfl (lv_at hl 3 rfl) ?_
    refine gB_X2_access hx hb hT hown hK hP (hT _ tF_X2_15) dX2_shift_31 ?_
    refine lv_aload_n hx hb dX2_shift_34 rfl (lv_at hl 1 rfl) ?_
    refine lv_lload hx hb dX2_shift_35 (lv_at hl 0 rfl) ?_
    obtain ⟨r8, S15, h16, hs⟩ := bd_e hs
    refine kX0_load C tM_X2_154 ⟨Nat.le_of_ble_eq_true rfl, Nat.le_of_ble_eq_true rfl⟩ ⟨Nat.le_of_ble_eq_true rfl, Nat.le_of_ble_eq_true rfl⟩ hK hP hS hl.1 (rest := []) (Nat.le_of_ble_eq_true rfl) dX2_shift_37 h16 (fun H locs hP hS => ?_)
    refine lv_istore (lv' := [(6, .int r8), (4, .long w2), (3, .ref (en e1)), (2, .int (zI b1)), (0, .ref (ad 4)), (1, .int x1)]) hx hb dX2_shift_40 hl (by decide) rfl (fun ls hl => ?_)
    refine lv_aload_n hx hb dX2_shift_42 rfl (lv_at hl 4 rfl) ?_
    refine gB_X2_access hx hb hT hown hK hP (hT _ tF_X2_15) dX2_shift_43 ?_
    refine lv_aload_n hx hb dX2_shift_46 rfl (lv_at hl 2 rfl) ?_
    refine lv_lload hx hb dX2_shift_47 (lv_at hl 1 rfl) ?_
    refine lv_aload_n hx hb dX2_shift_49 rfl (lv_at hl 4 rfl) ?_
    refine gB_X2_arithmetic hx hb hT hown hK hP (hT _ tF_X2_24) dX2_shift_50 ?_
    refine lv_aload_n hx hb dX2_shift_53 rfl (lv_at hl 2 rfl) ?_
    refine lv_iload hx hb dX2_shift_54 (lv_at hl 0 rfl) ?_
    refine lv_aload_n hx hb dX2_shift_56 rfl (lv_at hl 4 rfl) ?_
    refine lv_iload_n hx hb dX2_shift_57 rfl (lv_at hl 5 rfl) ?_
    obtain ⟨r9, S16, h17, hs⟩ := bd_e hs
    refine kX2_times C tM_X2_335 ⟨Nat.le_of_ble_eq_true rfl, Nat.le_of_ble_eq_true rfl⟩ ⟨Nat.le_of_ble_eq_true rfl, Nat.le_of_ble_eq_true rfl⟩ hK hP hS hl.1 (rest := [.int r8, .ref (en e1), .ref (ad 5), .long w2, .ref (en e1), .ref (ad 3)]) (Nat.le_of_ble_eq_true rfl) dX2_shift_58 h17 (fun H locs hP hS => ?_)
    refine lv_iload_n hx hb dX2_shift_61 rfl (lv_at hl 5 rfl) ?_
    refine lv_iconst (v := 3) hx hb dX2_shift_62 (by decide) ?_
    refine lv_iushr (v := (ush x1 3)) hx hb dX2_shift_63 rfl ?_
    refine lv_iconst (v := 3) hx hb dX2_shift_64 (by decide) ?_
    refine lv_iand hx hb dX2_shift_65 ?_
    refine lv_iload_n hx hb dX2_shift_66 rfl (lv_at hl 3 rfl) ?_
    obtain ⟨r10, S17, h18, hs⟩ := bd_e hs
    refine kX1_shifted C tM_X2_338 ⟨Nat.le_of_ble_eq_true rfl, Nat.le_of_ble_eq_true rfl⟩ ⟨Nat.le_of_ble_eq_true rfl, Nat.le_of_ble_eq_true rfl⟩ hK hP hS hl.1 (rest := [.long w2, .ref (en e1), .ref (ad 3)]) (Nat.le_of_ble_eq_true rfl) dX2_shift_67 h18 (fun H locs hP hS => ?_)
    obtain ⟨S18, h19, hs⟩ := bv_e hs
    refine kX0_store C tM_X2_161 ⟨Nat.le_of_ble_eq_true rfl, Nat.le_of_ble_eq_true rfl⟩ ⟨Nat.le_of_ble_eq_true rfl, Nat.le_of_ble_eq_true rfl⟩ hK hP hS hl.1 (rest := []) (Nat.le_of_ble_eq_true rfl) dX2_shift_70 h19 (fun H locs hP hS => ?_)
    refine lv_goto (tgt := 164) hx hb dX2_shift_73 (by decide) ?_
    exact u_vret hx hb hr hlocks hP hS hs dX2_shift_164
theorem kX2_shift {p : Program} {l : Launch} {e : Env} {R : Room} {s : State} {m : MethodId} {args : Array Value} {below : List Frame} {meth : Method} {c : Code} {H : Heap} {locs : List Loc} {cells slots : Nat} {Q : State → Prop} {cc : ByteArray} {pc nL : Nat} {ls : Array Slot} {rest : List Value} {D : va_G} {ad : Nat → Nat} {cI cB : ClassId} {en : Nat → Nat} {S : St} {own : String} {index : Nat} {x1 : Int32} {So : St} (C : CallFix p m c cc nL s args wG own) (hlk : Cond.methodLink own index yX2_shift ∈ wG) (hR : rmX2_shift.frames + 1 ≤ R.frames ∧ 8 + (7 + 11) + rmX2_shift.locals ≤ R.locals) (hc : cells ≤ R.cells ∧ slots ≤ R.slots) (hK : KB D ad cI cB en s) (hP : va_P D vwCl (wB ad cI cB S) H) (hS : va_S (AX 10 ad s.heap.size) s.heap H locs) (hls : ls.size = nL) (hrest : (rest.map fun v => v.category).sum ≤ 8) (hd : decode cc pc = .ok (.invokevirtual index, 3)) (hs : fX2_shift x1 S = some So) (k : ∀ (H : Heap) (locs : List Loc), va_P D vwCl (wB ad cI cB So) H → va_S (AX 10 ad s.heap.size) s.heap H locs → W p l e R s m args below meth c H locs cells slots Q (F0 m (pc + 3) ls (rest))) : W p l e R s m args below meth c H locs cells slots Q (F0 m pc ls (.int x1 :: .ref (ad 4) :: rest)) :=
  u_callV (n := 1) (mX2_shift l D ad cI cB en S x1 So hs) C uK_B (wg_V hlk tI_X2_shift tS_X2_shift tN_X2 tK_X2_shift) rfl rfl rfl (by decide +kernel) hR rfl (va_recv hK.1 hP (ci := 2) (q0 := 4) rfl rfl) hK hP hS hls hrest hd hc rfl k
def fX2_obey (x1 : Int32) (S : St) : Option St :=
    (lt (sZ S 0 false) fun S1 => (if (ush x1 12) = 0 then (bv (fX2_lineZero x1 S1) fun S2 => (some S2))
    else (if (ush x1 12) = 1 then (bv (fX2_move x1 0 S1) fun S3 => (some S3))
    else (if (ush x1 12) = 2 then (bv (fX2_move x1 2 S1) fun S4 => (some S4))
    else (if (ush x1 12) = 3 then (bv (fX2_move x1 1 S1) fun S5 => (some S5))
    else (if (ush x1 12) = 4 then (bv (fX2_lineFour x1 S1) fun S6 => (some S6))
    else (if (ush x1 12) = 5 then (bv (fX2_lineFive x1 S1) fun S7 => (some S7))
    else (if (ush x1 12) = 6 then (bv (fX2_branch x1 S1) fun S8 => (some S8))
    else (if (ush x1 12) = 7 then (bv (fX2_moveQuick x1 S1) fun S9 => (some S9))
    else (if (ush x1 12) = 8 then (bv (fX2_lineEight x1 S1) fun S10 => (some S10))
    else (if (ush x1 12) = 9 then (bv (fX2_sums x1 2 S1) fun S11 => (some S11))
    else (if (ush x1 12) = 10 then (bv (fX0_raise 10 S1) fun S12 => (some S12))
    else (if (ush x1 12) = 11 then (bv (fX2_lineEleven x1 S1) fun S13 => (some S13))
    else (if (ush x1 12) = 12 then (bv (fX2_lineTwelve x1 S1) fun S14 => (some S14))
    else (if (ush x1 12) = 13 then (bv (fX2_sums x1 3 S1) fun S15 => (some S15))
    else (if (ush x1 12) = 14 then (bv (fX2_shift x1 S1) fun S16 => (some S16))
    else (bv (fX0_raise 11 S1) fun S17 => (some S17))))))))))))))))))
abbrev rmX2_obey : Room := { frames := 5, cells := 0, slots := 0, locals := 128 }
set_option maxRecDepth 100000 in
set_option maxHeartbeats 4000000 in
theorem mX2_obey (l : Launch) (D : va_G) (ad : Nat → Nat) (cI cB : ClassId) (en : Nat → Nat) (S : St) (x1 : Int32) (So : St) (hs : fX2_obey x1 S = some So) : uM l yX2_obey (wg yX2_obey cX2_obey 2 none) rmX2_obey (KB D ad cI cB en) D (wB ad cI cB) (AX 10 ad) [.ref (ad 4), .int x1] S (none, So) := by
  refine uM_start (by decide) rfl ?_
  intro p e s m below meth c hx hb hr hlocks hml hown hts hK hP
  have hT : ∀ w ∈ wG, w.before _ s = true := fun w h => hts w (List.mem_cons_of_mem _ h)
  have hS : va_S (AX 10 ad s.heap.size) s.heap s.heap [] := va_S.rf
  have hown : s.vm.findClass RX2 = some m.cls := hown
  have C : CallFix p m c cX2_obey 2 s _ wG RX2 := ⟨hx, hb, hml, hown, hT⟩
  have hl := lv_entry ([.ref (ad 4), .int x1]) (n := 2) (Nat.le_of_ble_eq_true rfl)
  rw [lg_entry_eq]
  generalize (lg_sl ([.ref (ad 4), .int x1]) ++ List.replicate (2 - (lg_sl ([.ref (ad 4), .int x1])).length) Slot.unset).toArray = ls at hl ⊢
  have hl : lv_has ls 2 [(0, .ref (ad 4)), (1, .int x1)] := hl
  unfold fX2_obey at hs
  refine lv_aload_n hx hb dX2_obey_0 rfl (lv_at hl 0 rfl) ?_
  refine lv_iconst (v := 0) hx hb dX2_obey_1 (by decide) ?_
  obtain ⟨S1, h1, hs⟩ := lt_e hs
  refine pB_X2_stopping hx hb hT hown hK hP hS (hT _ tF_X2_28) dX2_obey_2 (v := false) h1 (fun H locs hP hS => ?_)
  refine lv_iload_n hx hb dX2_obey_5 rfl (lv_at hl 1 rfl) ?_
  refine lv_bipush (v := 12) hx hb dX2_obey_6 (by decide) ?_
  refine lv_iushr (v := (ush x1 12)) hx hb dX2_obey_8 rfl ?_
  by_cases c1 : (ush x1 12) = 0
  · have hs := if_t c1 hs
    refine u_table (k := 0) (a := 0) (off := 75) (tgt := 84) hx hb dX2_obey_9 c1 (by decide) (by decide) (by decide) (by decide) (by decide) ?_
    refine lv_aload_n hx hb dX2_obey_84 rfl (lv_at hl 0 rfl) ?_
    refine lv_iload_n hx hb dX2_obey_85 rfl (lv_at hl 1 rfl) ?_
    obtain ⟨S2, h2, hs⟩ := bv_e hs
    refine kX2_lineZero C tM_X2_32 ⟨Nat.le_of_ble_eq_true rfl, Nat.le_of_ble_eq_true rfl⟩ ⟨Nat.le_of_ble_eq_true rfl, Nat.le_of_ble_eq_true rfl⟩ hK hP hS hl.1 (rest := []) (Nat.le_of_ble_eq_true rfl) dX2_obey_86 h2 (fun H locs hP hS => ?_)
    refine lv_goto (tgt := 228) hx hb dX2_obey_89 (by decide) ?_
    exact u_vret hx hb hr hlocks hP hS hs dX2_obey_228
  have hs := if_f c1 hs
  by_cases c2 : (ush x1 12) = 1
  · have hs := if_t c2 hs
    refine u_table (k := 1) (a := 1) (off := 83) (tgt := 92) hx hb dX2_obey_9 c2 (by decide) (by decide) (by decide) (by decide) (by decide) ?_
    refine lv_aload_n hx hb dX2_obey_92 rfl (lv_at hl 0 rfl) ?_
    refine lv_iload_n hx hb dX2_obey_93 rfl (lv_at hl 1 rfl) ?_
    refine gS_BYTE hx hb hown hK hS (hT _ tF_X2_36) dX2_obey_94 ?_
    obtain ⟨S3, h3, hs⟩ := bv_e hs
    refine kX2_move C tM_X2_42 ⟨Nat.le_of_ble_eq_true rfl, Nat.le_of_ble_eq_true rfl⟩ ⟨Nat.le_of_ble_eq_true rfl, Nat.le_of_ble_eq_true rfl⟩ hK hP hS hl.1 (rest := []) (Nat.le_of_ble_eq_true rfl) dX2_obey_97 h3 (fun H locs hP hS => ?_)
    refine lv_goto (tgt := 228) hx hb dX2_obey_100 (by decide) ?_
    exact u_vret hx hb hr hlocks hP hS hs dX2_obey_228
  have hs := if_f c2 hs
  by_cases c3 : (ush x1 12) = 2
  · have hs := if_t c3 hs
    refine u_table (k := 2) (a := 2) (off := 94) (tgt := 103) hx hb dX2_obey_9 c3 (by decide) (by decide) (by decide) (by decide) (by decide) ?_
    refine lv_aload_n hx hb dX2_obey_103 rfl (lv_at hl 0 rfl) ?_
    refine lv_iload_n hx hb dX2_obey_104 rfl (lv_at hl 1 rfl) ?_
    refine gS_LONG hx hb hown hK hS (hT _ tF_X2_46) dX2_obey_105 ?_
    obtain ⟨S4, h4, hs⟩ := bv_e hs
    refine kX2_move C tM_X2_42 ⟨Nat.le_of_ble_eq_true rfl, Nat.le_of_ble_eq_true rfl⟩ ⟨Nat.le_of_ble_eq_true rfl, Nat.le_of_ble_eq_true rfl⟩ hK hP hS hl.1 (rest := []) (Nat.le_of_ble_eq_true rfl) dX2_obey_108 h4 (fun H locs hP hS => ?_)
    refine lv_goto (tgt := 228) hx hb dX2_obey_111 (by decide) ?_
    exact u_vret hx hb hr hlocks hP hS hs dX2_obey_228
  have hs := if_f c3 hs
  by_cases c4 : (ush x1 12) = 3
  · have hs := if_t c4 hs
    refine u_table (k := 3) (a := 3) (off := 105) (tgt := 114) hx hb dX2_obey_9 c4 (by decide) (by decide) (by decide) (by decide) (by decide) ?_
    refine lv_aload_n hx hb dX2_obey_114 rfl (lv_at hl 0 rfl) ?_
    refine lv_iload_n hx hb dX2_obey_115 rfl (lv_at hl 1 rfl) ?_
    refine gS_WORD hx hb hown hK hS (hT _ tF_X2_49) dX2_obey_116 ?_
    obtain ⟨S5, h5, hs⟩ := bv_e hs
    refine kX2_move C tM_X2_42 ⟨Nat.le_of_ble_eq_true rfl, Nat.le_of_ble_eq_true rfl⟩ ⟨Nat.le_of_ble_eq_true rfl, Nat.le_of_ble_eq_true rfl⟩ hK hP hS hl.1 (rest := []) (Nat.le_of_ble_eq_true rfl) dX2_obey_119 h5 (fun H locs hP hS => ?_)
    refine lv_goto (tgt := 228) hx hb dX2_obey_122 (by decide) ?_
    exact u_vret hx hb hr hlocks hP hS hs dX2_obey_228
  have hs := if_f c4 hs
  by_cases c5 : (ush x1 12) = 4
  · have hs := if_t c5 hs
    refine u_table (k := 4) (a := 4) (off := 116) (tgt := 125) hx hb dX2_obey_9 c5 (by decide) (by decide) (by decide) (by decide) (by decide) ?_
    refine lv_aload_n hx hb dX2_obey_125 rfl (lv_at hl 0 rfl) ?_
    refine lv_iload_n hx hb dX2_obey_126 rfl (lv_at hl 1 rfl) ?_
    obtain ⟨S6, h6, hs⟩ := bv_e hs
    refine kX2_lineFour C tM_X2_52 ⟨Nat.le_of_ble_eq_true rfl, Nat.le_of_ble_eq_true rfl⟩ ⟨Nat.le_of_ble_eq_true rfl, Nat.le_of_ble_eq_true rfl⟩ hK hP hS hl.1 (rest := []) (Nat.le_of_ble_eq_true rfl) dX2_obey_127 h6 (fun H locs hP hS => ?_)
    refine lv_goto (tgt := 228) hx hb dX2_obey_130 (by decide) ?_
    exact u_vret hx hb hr hlocks hP hS hs dX2_obey_228
  have hs := if_f c5 hs
  by_cases c6 : (ush x1 12) = 5
  · have hs := if_t c6 hs
    refine u_table (k := 5) (a := 5) (off := 124) (tgt := 133) hx hb dX2_obey_9 c6 (by decide) (by decide) (by decide) (by decide) (by decide) ?_
    refine lv_aload_n hx hb dX2_obey_133 rfl (lv_at hl 0 rfl) ?_
    refine lv_iload_n hx hb dX2_obey_134 rfl (lv_at hl 1 rfl) ?_
    obtain ⟨S7, h7, hs⟩ := bv_e hs
    refine kX2_lineFive C tM_X2_55 ⟨Nat.le_of_ble_eq_true rfl, Nat.le_of_ble_eq_true rfl⟩ ⟨Nat.le_of_ble_eq_true rfl, Nat.le_of_ble_eq_true rfl⟩ hK hP hS hl.1 (rest := []) (Nat.le_of_ble_eq_true rfl) dX2_obey_135 h7 (fun H locs hP hS => ?_)
    refine lv_goto (tgt := 228) hx hb dX2_obey_138 (by decide) ?_
    exact u_vret hx hb hr hlocks hP hS hs dX2_obey_228
  have hs := if_f c6 hs
  by_cases c7 : (ush x1 12) = 6
  · have hs := if_t c7 hs
    refine u_table (k := 6) (a := 6) (off := 132) (tgt := 141) hx hb dX2_obey_9 c7 (by decide) (by decide) (by decide) (by decide) (by decide) ?_
    refine lv_aload_n hx hb dX2_obey_141 rfl (lv_at hl 0 rfl) ?_
    refine lv_iload_n hx hb dX2_obey_142 rfl (lv_at hl 1 rfl) ?_
    obtain ⟨S8, h8, hs⟩ := bv_e hs
    refine kX2_branch C tM_X2_58 ⟨Nat.le_of_ble_eq_true rfl, Nat.le_of_ble_eq_true rfl⟩ ⟨Nat.le_of_ble_eq_true rfl, Nat.le_of_ble_eq_true rfl⟩ hK hP hS hl.1 (rest := []) (Nat.le_of_ble_eq_true rfl) dX2_obey_143 h8 (fun H locs hP hS => ?_)
    refine lv_goto (tgt := 228) hx hb dX2_obey_146 (by decide) ?_
    exact u_vret hx hb hr hlocks hP hS hs dX2_obey_228
  have hs := if_f c7 hs
  by_cases c8 : (ush x1 12) = 7
  · have hs := if_t c8 hs
    refine u_table (k := 7) (a := 7) (off := 140) (tgt := 149) hx hb dX2_obey_9 c8 (by decide) (by decide) (by decide) (by decide) (by decide) ?_
    refine lv_aload_n hx hb dX2_obey_149 rfl (lv_at hl 0 rfl) ?_
    refine lv_iload_n hx hb dX2_obey_150 rfl (lv_at hl 1 rfl) ?_
    obtain ⟨S9, h9, hs⟩ := bv_e hs
    refine kX2_moveQuick C tM_X2_61 ⟨Nat.le_of_ble_eq_true rfl, Nat.le_of_ble_eq_true rfl⟩ ⟨Nat.le_of_ble_eq_true rfl, Nat.le_of_ble_eq_true rfl⟩ hK hP hS hl.1 (rest := []) (Nat.le_of_ble_eq_true rfl) dX2_obey_151 h9 (fun H locs hP hS => ?_)
    refine lv_goto (tgt := 228) hx hb dX2_obey_154 (by decide) ?_
    exact u_vret hx hb hr hlocks hP hS hs dX2_obey_228
  have hs := if_f c8 hs
  by_cases c9 : (ush x1 12) = 8
  · have hs := if_t c9 hs
    refine u_table (k := 8) (a := 8) (off := 148) (tgt := 157) hx hb dX2_obey_9 c9 (by decide) (by decide) (by decide) (by decide) (by decide) ?_
    refine lv_aload_n hx hb dX2_obey_157 rfl (lv_at hl 0 rfl) ?_
    refine lv_iload_n hx hb dX2_obey_158 rfl (lv_at hl 1 rfl) ?_
    obtain ⟨S10, h10, hs⟩ := bv_e hs
    refine kX2_lineEight C tM_X2_64 ⟨Nat.le_of_ble_eq_true rfl, Nat.le_of_ble_eq_true rfl⟩ ⟨Nat.le_of_ble_eq_true rfl, Nat.le_of_ble_eq_true rfl⟩ hK hP hS hl.1 (rest := []) (Nat.le_of_ble_eq_true rfl) dX2_obey_159 h10 (fun H locs hP hS => ?_)
    refine lv_goto (tgt := 228) hx hb dX2_obey_162 (by decide) ?_
    exact u_vret hx hb hr hlocks hP hS hs dX2_obey_228
  have hs := if_f c9 hs
  by_cases c10 : (ush x1 12) = 9
  · have hs := if_t c10 hs
    refine u_table (k := 9) (a := 9) (off := 156) (tgt := 165) hx hb dX2_obey_9 c10 (by decide) (by decide) (by decide) (by decide) (by decide) ?_
    refine lv_aload_n hx hb dX2_obey_165 rfl (lv_at hl 0 rfl) ?_
    refine lv_iload_n hx hb dX2_obey_166 rfl (lv_at hl 1 rfl) ?_
    refine lv_iconst (v := 2) hx hb dX2_obey_167 (by decide) ?_
    obtain ⟨S11, h11, hs⟩ := bv_e hs
    refine kX2_sums C tM_X2_67 ⟨Nat.le_of_ble_eq_true rfl, Nat.le_of_ble_eq_true rfl⟩ ⟨Nat.le_of_ble_eq_true rfl, Nat.le_of_ble_eq_true rfl⟩ hK hP hS hl.1 (rest := []) (Nat.le_of_ble_eq_true rfl) dX2_obey_168 h11 (fun H locs hP hS => ?_)
    refine lv_goto (tgt := 228) hx hb dX2_obey_171 (by decide) ?_
    exact u_vret hx hb hr hlocks hP hS hs dX2_obey_228
  have hs := if_f c10 hs
  by_cases c11 : (ush x1 12) = 10
  · have hs := if_t c11 hs
    refine u_table (k := 10) (a := 10) (off := 165) (tgt := 174) hx hb dX2_obey_9 c11 (by decide) (by decide) (by decide) (by decide) (by decide) ?_
    refine lv_aload_n hx hb dX2_obey_174 rfl (lv_at hl 0 rfl) ?_
    refine gB_X2_access hx hb hT hown hK hP (hT _ tF_X2_15) dX2_obey_175 ?_
    refine lv_bipush (v := 10) hx hb dX2_obey_178 (by decide) ?_
    obtain ⟨S12, h12, hs⟩ := bv_e hs
    refine kX0_raise C tM_X2_71 ⟨Nat.le_of_ble_eq_true rfl, Nat.le_of_ble_eq_true rfl⟩ ⟨Nat.le_of_ble_eq_true rfl, Nat.le_of_ble_eq_true rfl⟩ hK hP hS hl.1 (rest := []) (Nat.le_of_ble_eq_true rfl) dX2_obey_180 h12 (fun H locs hP hS => ?_)
    refine lv_goto (tgt := 228) hx hb dX2_obey_183 (by decide) ?_
    exact u_vret hx hb hr hlocks hP hS hs dX2_obey_228
  have hs := if_f c11 hs
  by_cases c12 : (ush x1 12) = 11
  · have hs := if_t c12 hs
    refine u_table (k := 11) (a := 11) (off := 177) (tgt := 186) hx hb dX2_obey_9 c12 (by decide) (by decide) (by decide) (by decide) (by decide) ?_
    refine lv_aload_n hx hb dX2_obey_186 rfl (lv_at hl 0 rfl) ?_
    refine lv_iload_n hx hb dX2_obey_187 rfl (lv_at hl 1 rfl) ?_
    obtain ⟨S13, h13, hs⟩ := bv_e hs
    refine kX2_lineEleven C tM_X2_76 ⟨Nat.le_of_ble_eq_true rfl, Nat.le_of_ble_eq_true rfl⟩ ⟨Nat.le_of_ble_eq_true rfl, Nat.le_of_ble_eq_true rfl⟩ hK hP hS hl.1 (rest := []) (Nat.le_of_ble_eq_true rfl) dX2_obey_188 h13 (fun H locs hP hS => ?_)
    refine lv_goto (tgt := 228) hx hb dX2_obey_191 (by decide) ?_
    exact u_vret hx hb hr hlocks hP hS hs dX2_obey_228
  have hs := if_f c12 hs
  by_cases c13 : (ush x1 12) = 12
  · have hs := if_t c13 hs
    refine u_table (k := 12) (a := 12) (off := 185) (tgt := 194) hx hb dX2_obey_9 c13 (by decide) (by decide) (by decide) (by decide) (by decide) ?_
    refine lv_aload_n hx hb dX2_obey_194 rfl (lv_at hl 0 rfl) ?_
    refine lv_iload_n hx hb dX2_obey_195 rfl (lv_at hl 1 rfl) ?_
    obtain ⟨S14, h14, hs⟩ := bv_e hs
    refine kX2_lineTwelve C tM_X2_79 ⟨Nat.le_of_ble_eq_true rfl, Nat.le_of_ble_eq_true rfl⟩ ⟨Nat.le_of_ble_eq_true rfl, Nat.le_of_ble_eq_true rfl⟩ hK hP hS hl.1 (rest := []) (Nat.le_of_ble_eq_true rfl) dX2_obey_196 h14 (fun H locs hP hS => ?_)
    refine lv_goto (tgt := 228) hx hb dX2_obey_199 (by decide) ?_
    exact u_vret hx hb hr hlocks hP hS hs dX2_obey_228
  have hs := if_f c13 hs
  by_cases c14 : (ush x1 12) = 13
  · have hs := if_t c14 hs
    refine u_table (k := 13) (a := 13) (off := 193) (tgt := 202) hx hb dX2_obey_9 c14 (by decide) (by decide) (by decide) (by decide) (by decide) ?_
    refine lv_aload_n hx hb dX2_obey_202 rfl (lv_at hl 0 rfl) ?_
    refine lv_iload_n hx hb dX2_obey_203 rfl (lv_at hl 1 rfl) ?_
    refine lv_iconst (v := 3) hx hb dX2_obey_204 (by decide) ?_
    obtain ⟨S15, h15, hs⟩ := bv_e hs
    refine kX2_sums C tM_X2_67 ⟨Nat.le_of_ble_eq_true rfl, Nat.le_of_ble_eq_true rfl⟩ ⟨Nat.le_of_ble_eq_true rfl, Nat.le_of_ble_eq_true rfl⟩ hK hP hS hl.1 (rest := []) (Nat.le_of_ble_eq_true rfl) dX2_obey_205 h15 (fun H locs hP hS => ?_)
    refine lv_goto (tgt := 228) hx hb dX2_obey_208 (by decide) ?_
    exact u_vret hx hb hr hlocks hP hS hs dX2_obey_228
  have hs := if_f c14 hs
  by_cases c15 : (ush x1 12) = 14
  · have hs := if_t c15 hs
    refine u_table (k := 14) (a := 14) (off := 202) (tgt := 211) hx hb dX2_obey_9 c15 (by decide) (by decide) (by decide) (by decide) (by decide) ?_
    refine lv_aload_n hx hb dX2_obey_211 rfl (lv_at hl 0 rfl) ?_
    refine lv_iload_n hx hb dX2_obey_212 rfl (lv_at hl 1 rfl) ?_
    obtain ⟨S16, h16, hs⟩ := bv_e hs
    refine kX2_shift C tM_X2_82 ⟨Nat.le_of_ble_eq_true rfl, Nat.le_of_ble_eq_true rfl⟩ ⟨Nat.le_of_ble_eq_true rfl, Nat.le_of_ble_eq_true rfl⟩ hK hP hS hl.1 (rest := []) (Nat.le_of_ble_eq_true rfl) dX2_obey_213 h16 (fun H locs hP hS => ?_)
    refine lv_goto (tgt := 228) hx hb dX2_obey_216 (by decide) ?_
    exact u_vret hx hb hr hlocks hP hS hs dX2_obey_228
  have hs := if_f c15 hs
  refine u_tableD (tgt := 219) hx hb dX2_obey_9 (fun hlo hhi => ?_) (by decide) ?_
  · have hz : ((ush x1 12)).toInt = 0 ∨ ((ush x1 12)).toInt = 1 ∨ ((ush x1 12)).toInt = 2 ∨ ((ush x1 12)).toInt = 3 ∨ ((ush x1 12)).toInt = 4 ∨ ((ush x1 12)).toInt = 5 ∨ ((ush x1 12)).toInt = 6 ∨ ((ush x1 12)).toInt = 7 ∨ ((ush x1 12)).toInt = 8 ∨ ((ush x1 12)).toInt = 9 ∨ ((ush x1 12)).toInt = 10 ∨ ((ush x1 12)).toInt = 11 ∨ ((ush x1 12)).toInt = 12 ∨ ((ush x1 12)).toInt = 13 ∨ ((ush x1 12)).toInt = 14 := by omega
    rcases hz with hz | hz | hz | hz | hz | hz | hz | hz | hz | hz | hz | hz | hz | hz | hz
    · exact absurd hz (lv_neT c1 (by decide))
    · exact absurd hz (lv_neT c2 (by decide))
    · exact absurd hz (lv_neT c3 (by decide))
    · exact absurd hz (lv_neT c4 (by decide))
    · exact absurd hz (lv_neT c5 (by decide))
    · exact absurd hz (lv_neT c6 (by decide))
    · exact absurd hz (lv_neT c7 (by decide))
    · exact absurd hz (lv_neT c8 (by decide))
    · exact absurd hz (lv_neT c9 (by decide))
    · exact absurd hz (lv_neT c10 (by decide))
    · exact absurd hz (lv_neT c11 (by decide))
    · exact absurd hz (lv_neT c12 (by decide))
    · exact absurd hz (lv_neT c13 (by decide))
    · exact absurd hz (lv_neT c14 (by decide))
    · exact absurd hz (lv_neT c15 (by decide))
  refine lv_aload_n hx hb dX2_obey_219 rfl (lv_at hl 0 rfl) ?_
  refine gB_X2_access hx hb hT hown hK hP (hT _ tF_X2_15) dX2_obey_220 ?_
  refine lv_bipush (v := 11) hx hb dX2_obey_223 (by decide) ?_
  obtain ⟨S17, h17, hs⟩ := bv_e hs
  refine kX0_raise C tM_X2_71 ⟨Nat.le_of_ble_eq_true rfl, Nat.le_of_ble_eq_true rfl⟩ ⟨Nat.le_of_ble_eq_true rfl, Nat.le_of_ble_eq_true rfl⟩ hK hP hS hl.1 (rest := []) (Nat.le_of_ble_eq_true rfl) dX2_obey_225 h17 (fun H locs hP hS => ?_)
  exact u_vret hx hb hr hlocks hP hS hs dX2_obey_228
theorem kX2_obey {p : Program} {l : Launch} {e : Env} {R : Room} {s : State} {m : MethodId} {args : Array Value} {below : List Frame} {meth : Method} {c : Code} {H : Heap} {locs : List Loc} {cells slots : Nat} {Q : State → Prop} {cc : ByteArray} {pc nL : Nat} {ls : Array Slot} {rest : List Value} {D : va_G} {ad : Nat → Nat} {cI cB : ClassId} {en : Nat → Nat} {S : St} {own : String} {index : Nat} {x1 : Int32} {So : St} (C : CallFix p m c cc nL s args wG own) (hlk : Cond.methodLink own index yX2_obey ∈ wG) (hR : rmX2_obey.frames + 1 ≤ R.frames ∧ 8 + (2 + 11) + rmX2_obey.locals ≤ R.locals) (hc : cells ≤ R.cells ∧ slots ≤ R.slots) (hK : KB D ad cI cB en s) (hP : va_P D vwCl (wB ad cI cB S) H) (hS : va_S (AX 10 ad s.heap.size) s.heap H locs) (hls : ls.size = nL) (hrest : (rest.map fun v => v.category).sum ≤ 8) (hd : decode cc pc = .ok (.invokevirtual index, 3)) (hs : fX2_obey x1 S = some So) (k : ∀ (H : Heap) (locs : List Loc), va_P D vwCl (wB ad cI cB So) H → va_S (AX 10 ad s.heap.size) s.heap H locs → W p l e R s m args below meth c H locs cells slots Q (F0 m (pc + 3) ls (rest))) : W p l e R s m args below meth c H locs cells slots Q (F0 m pc ls (.int x1 :: .ref (ad 4) :: rest)) :=
  u_callV (n := 1) (mX2_obey l D ad cI cB en S x1 So hs) C uK_B (wg_V hlk tI_X2_obey tS_X2_obey tN_X2 tK_X2_obey) rfl rfl rfl (by decide +kernel) hR rfl (va_recv hK.1 hP (ci := 2) (q0 := 4) rfl rfl) hK hP hS hls hrest hd hc rfl k
def fX2_stops  (S : St) : Option (Bool × St) :=
    (some ((S.2.1 0), S))
abbrev rmX2_stops : Room := { frames := 0, cells := 0, slots := 0, locals := 0 }
set_option maxRecDepth 100000 in
set_option maxHeartbeats 4000000 in
theorem mX2_stops (l : Launch) (D : va_G) (ad : Nat → Nat) (cI cB : ClassId) (en : Nat → Nat) (S : St)  (ro : Bool) (So : St) (hs : fX2_stops  S = some (ro, So)) : uM l yX2_stops (wg yX2_stops cX2_stops 1 (some .boolean)) rmX2_stops (KB D ad cI cB en) D (wB ad cI cB) (AX 10 ad) [.ref (ad 4)] S (some (.int (zI ro)), So) := by
  refine uM_start (by decide) rfl ?_
  intro p e s m below meth c hx hb hr hlocks hml hown hts hK hP
  have hT : ∀ w ∈ wG, w.before _ s = true := fun w h => hts w (List.mem_cons_of_mem _ h)
  have hS : va_S (AX 10 ad s.heap.size) s.heap s.heap [] := va_S.rf
  have hown : s.vm.findClass RX2 = some m.cls := hown
  have C : CallFix p m c cX2_stops 1 s _ wG RX2 := ⟨hx, hb, hml, hown, hT⟩
  have hl := lv_entry ([.ref (ad 4)]) (n := 1) (Nat.le_of_ble_eq_true rfl)
  rw [lg_entry_eq]
  generalize (lg_sl ([.ref (ad 4)]) ++ List.replicate (1 - (lg_sl ([.ref (ad 4)])).length) Slot.unset).toArray = ls at hl ⊢
  have hl : lv_has ls 1 [(0, .ref (ad 4))] := hl
  unfold fX2_stops at hs
  refine lv_aload_n hx hb dX2_stops_0 rfl (lv_at hl 0 rfl) ?_
  refine gB_X2_stopping hx hb hT hown hK hP (hT _ tF_X2_28) dX2_stops_1 ?_
  exact u_zret (v := (S.2.1 0)) hx hb hr hlocks hP hS hs dX2_stops_4
theorem kX2_stops {p : Program} {l : Launch} {e : Env} {R : Room} {s : State} {m : MethodId} {args : Array Value} {below : List Frame} {meth : Method} {c : Code} {H : Heap} {locs : List Loc} {cells slots : Nat} {Q : State → Prop} {cc : ByteArray} {pc nL : Nat} {ls : Array Slot} {rest : List Value} {D : va_G} {ad : Nat → Nat} {cI cB : ClassId} {en : Nat → Nat} {S : St} {own : String} {index : Nat}  {ro : Bool} {So : St} (C : CallFix p m c cc nL s args wG own) (hlk : Cond.methodLink own index yX2_stops ∈ wG) (hR : rmX2_stops.frames + 1 ≤ R.frames ∧ 8 + (1 + 11) + rmX2_stops.locals ≤ R.locals) (hc : cells ≤ R.cells ∧ slots ≤ R.slots) (hK : KB D ad cI cB en s) (hP : va_P D vwCl (wB ad cI cB S) H) (hS : va_S (AX 10 ad s.heap.size) s.heap H locs) (hls : ls.size = nL) (hrest : (rest.map fun v => v.category).sum ≤ 8) (hd : decode cc pc = .ok (.invokevirtual index, 3)) (hs : fX2_stops  S = some (ro, So)) (k : ∀ (H : Heap) (locs : List Loc), va_P D vwCl (wB ad cI cB So) H → va_S (AX 10 ad s.heap.size) s.heap H locs → W p l e R s m args below meth c H locs cells slots Q (F0 m (pc + 3) ls (.int (zI ro) :: rest))) : W p l e R s m args below meth c H locs cells slots Q (F0 m pc ls (.ref (ad 4) :: rest)) :=
  u_callV (n := 0) (mX2_stops l D ad cI cB en S  ro So hs) C uK_B (wg_V hlk tI_X2_stops tS_X2_stops tN_X2 tK_X2_stops) rfl rfl rfl (by decide +kernel) hR rfl (va_recv hK.1 hP (ci := 2) (q0 := 4) rfl rfl) hK hP hS hls hrest hd hc rfl k
