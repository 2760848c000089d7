def fX7_move  (S : St) : Option (Bool × St) :=
    (lt (((S.1 5) >>> ((12 : Int32) &&& 31)) : Int32) fun v1 => (jn (fun (v2 : Int32) => (lt ((((S.1 5) >>> ((6 : Int32) &&& 31)) &&& 7) : Int32) fun v3 => (lt ((((S.1 5) >>> ((9 : Int32) &&& 31)) &&& 7) : Int32) fun v4 => (lt (((v3 <<< ((3 : Int32) &&& 31)) ||| v4) : Int32) fun v5 => (bd (fX7_fits ((S.1 5) &&& 63) 0 v2 S) fun b1 S1 => (if (zI b1) = 0 then (some (false, S1))
    else (if v3 = 1 then (if v2 = 1 then (some (false, S1))
    else (if v3 = 1 then (bv (fX7_operand ((S1.1 5) &&& 63) v2 S1) fun S17 => (bd (fX7_take v2 S17) fun r5 S18 => (if v3 = 1 then (bd (fX7_extended r5 v2 S18) fun r6 S22 => (bv (fX7_setA v4 r6 S22) fun S23 => (some (true, S23))))
    else (bv (fX7_operand v5 v2 S18) fun S19 => (bv (fX7_logic r5 v2 S19) fun S20 => (bv (fX7_give r5 v2 S20) fun S21 => (some (true, S21))))))))
    else (bd (fX7_fits v5 4 v2 S1) fun b3 S24 => (if (zI b3) = 0 then (some (false, S24))
    else (bv (fX7_operand ((S24.1 5) &&& 63) v2 S24) fun S25 => (bd (fX7_take v2 S25) fun r7 S26 => (if v3 = 1 then (bd (fX7_extended r7 v2 S26) fun r8 S30 => (bv (fX7_setA v4 r8 S30) fun S31 => (some (true, S31))))
    else (bv (fX7_operand v5 v2 S26) fun S27 => (bv (fX7_logic r7 v2 S27) fun S28 => (bv (fX7_give r7 v2 S28) fun S29 => (some (true, S29))))))))))))
    else (if v3 = 1 then (bv (fX7_operand ((S1.1 5) &&& 63) v2 S1) fun S2 => (bd (fX7_take v2 S2) fun r1 S3 => (if v3 = 1 then (bd (fX7_extended r1 v2 S3) fun r2 S7 => (bv (fX7_setA v4 r2 S7) fun S8 => (some (true, S8))))
    else (bv (fX7_operand v5 v2 S3) fun S4 => (bv (fX7_logic r1 v2 S4) fun S5 => (bv (fX7_give r1 v2 S5) fun S6 => (some (true, S6))))))))
    else (bd (fX7_fits v5 4 v2 S1) fun b2 S9 => (if (zI b2) = 0 then (some (false, S9))
    else (bv (fX7_operand ((S9.1 5) &&& 63) v2 S9) fun S10 => (bd (fX7_take v2 S10) fun r3 S11 => (if v3 = 1 then (bd (fX7_extended r3 v2 S11) fun r4 S15 => (bv (fX7_setA v4 r4 S15) fun S16 => (some (true, S16))))
    else (bv (fX7_operand v5 v2 S11) fun S12 => (bv (fX7_logic r3 v2 S12) fun S13 => (bv (fX7_give r3 v2 S13) fun S14 => (some (true, S14)))))))))))))))))) fun K1 =>
    (if v1 = 1 then (K1 1)
    else (if v1 = 3 then (K1 2)
    else (K1 4)))))
abbrev rmX7_move : Room := { frames := 6, cells := 0, slots := 0, locals := 138 }
set_option maxRecDepth 100000 in
set_option maxHeartbeats 4000000 in
theorem mX7_move (l : Launch) (D : va_G) (ad : Nat → Nat) (cI cB : ClassId) (en : Nat → Nat) (S : St)  (ro : Bool) (So : St) (hs : fX7_move  S = some (ro, So)) : uM l yX7_move (wg yX7_move cX7_move 7 (some .boolean)) rmX7_move (KM D ad cI cB en) D (wM ad cI cB) (AX 11 ad) [.ref (ad 0)] S (some (.int (zI ro)), So) := by
  refine uM_start (by decide) rfl ?_
  intro p e s m below meth c hx hb hr hlocks hml hown hts hK hP
  have hT : ∀ w ∈ wG, w.before _ s = true := fun w h => hts w (List.mem_cons_of_mem _ h)
  have hS : va_S (AX 11 ad s.heap.size) s.heap s.heap [] := va_S.rf
  have hown : s.vm.findClass RX7 = some m.cls := hown
  have C : CallFix p m c cX7_move 7 s _ wG RX7 := ⟨hx, hb, hml, hown, hT⟩
  have hl := lv_entry ([.ref (ad 0)]) (n := 7) (Nat.le_of_ble_eq_true rfl)
  rw [lg_entry_eq]
  generalize (lg_sl ([.ref (ad 0)]) ++ List.replicate (7 - (lg_sl ([.ref (ad 0)])).length) Slot.unset).toArray = ls at hl ⊢
  have hl : lv_has ls 7 [(0, .ref (ad 0))] := hl
  unfold fX7_move at hs
  refine lv_aload_n hx hb dX7_move_0 rfl (lv_at hl 0 rfl) ?_
  refine gM_X7_op hx hb hT hown hK hP (hT _ tF_X7_174) dX7_move_1 ?_
  refine lv_bipush (v := 12) hx hb dX7_move_4 (by decide) ?_
  refine lv_ishr hx hb dX7_move_6 ?_
  obtain ⟨v1, h1, hs⟩ := lt_e hs
  refine u_top h1 ?_
  refine lv_istore_n (lv' := [(1, .int v1), (0, .ref (ad 0))]) hx hb dX7_move_7 rfl hl (by decide) rfl (fun ls hl => ?_)
  refine lv_iload_n hx hb dX7_move_8 rfl (lv_at hl 0 rfl) ?_
  refine lv_iconst (v := 1) hx hb dX7_move_9 (by decide) ?_
  refine jn_e hs (fun K1 => ∀ (v2 : Int32) (H : Heap) (locs : List Loc) (ls : Array Slot), lv_has ls 7 [(0, .ref (ad 0))] → va_P D vwCl (wM ad cI cB S) H → va_S (AX 11 ad s.heap.size) s.heap H locs → K1 v2 = some (ro, So) → W p l e rmX7_move s m ([.ref (ad 0)] : List Value).toArray below meth c H locs 0 0 (MQ below (uQ D (wM ad cI cB) (some (.int (zI ro)), So) (AX 11 ad s.heap.size)) ([.ref (ad 0)] : List Value).toArray s 0 0 (AX 11 ad s.heap.size)) (F0 m 27 ls [.int v2])) ?_ (fun K1 J1 hs => ?_)
  · intro v2 H locs ls hl hP hS hs
    refine lv_istore_n (lv' := [(2, .int v2), (0, .ref (ad 0))]) hx hb dX7_move_27 rfl hl (by decide) rfl (fun ls hl => ?_)
    refine lv_aload_n hx hb dX7_move_28 rfl (lv_at hl 1 rfl) ?_
    refine gM_X7_op hx hb hT hown hK hP (hT _ tF_X7_174) dX7_move_29 ?_
    refine lv_bipush (v := 6) hx hb dX7_move_32 (by decide) ?_
    refine lv_ishr hx hb dX7_move_34 ?_
    refine lv_bipush (v := 7) hx hb dX7_move_35 (by decide) ?_
    refine lv_iand hx hb dX7_move_37 ?_
    obtain ⟨v3, h2, hs⟩ := lt_e hs
    refine u_top h2 ?_
    refine lv_istore_n (lv' := [(3, .int v3), (2, .int v2), (0, .ref (ad 0))]) hx hb dX7_move_38 rfl hl (by decide) rfl (fun ls hl => ?_)
    refine lv_aload_n hx hb dX7_move_39 rfl (lv_at hl 2 rfl) ?_
    refine gM_X7_op hx hb hT hown hK hP (hT _ tF_X7_174) dX7_move_40 ?_
    refine lv_bipush (v := 9) hx hb dX7_move_43 (by decide) ?_
    refine lv_ishr hx hb dX7_move_45 ?_
    refine lv_bipush (v := 7) hx hb dX7_move_46 (by decide) ?_
    refine lv_iand hx hb dX7_move_48 ?_
    obtain ⟨v4, h3, hs⟩ := lt_e hs
    refine u_top h3 ?_
    refine lv_istore (lv' := [(4, .int v4), (3, .int v3), (2, .int v2), (0, .ref (ad 0))]) hx hb dX7_move_49 hl (by decide) rfl (fun ls hl => ?_)
    refine lv_iload_n hx hb dX7_move_51 rfl (lv_at hl 1 rfl) ?_
    refine lv_iconst (v := 3) hx hb dX7_move_52 (by decide) ?_
    refine lv_ishl hx hb dX7_move_53 ?_
    refine lv_iload hx hb dX7_move_54 (lv_at hl 0 rfl) ?_
    refine lv_ior hx hb dX7_move_56 ?_
    obtain ⟨v5, h4, hs⟩ := lt_e hs
    refine u_top h4 ?_
    refine lv_istore (lv' := [(5, .int v5), (4, .int v4), (3, .int v3), (2, .int v2), (0, .ref (ad 0))]) hx hb dX7_move_57 hl (by decide) rfl (fun ls hl => ?_)
    refine lv_aload_n hx hb dX7_move_59 rfl (lv_at hl 4 rfl) ?_
    refine gM_X7_op hx hb hT hown hK hP (hT _ tF_X7_174) dX7_move_60 ?_
    refine lv_bipush (v := 63) hx hb dX7_move_63 (by decide) ?_
    refine lv_iand hx hb dX7_move_65 ?_
    refine lv_iconst (v := 0) hx hb dX7_move_66 (by decide) ?_
    refine lv_iload_n hx hb dX7_move_67 rfl (lv_at hl 3 rfl) ?_
    obtain ⟨b1, S1, h5, hs⟩ := bd_e hs
    refine kX7_fits C tM_X7_188 ⟨Nat.le_of_ble_eq_true rfl, Nat.le_of_ble_eq_true rfl⟩ ⟨Nat.le_of_ble_eq_true rfl, Nat.le_of_ble_eq_true rfl⟩ hK hP hS hl.1 (rest := []) (Nat.le_of_ble_eq_true rfl) dX7_move_68 h5 (fun H locs hP hS => ?_)
    refine lv_if_eq (tgt := 99) hx hb dX7_move_71 (by decide) (fun c1 => ?_) (fun c1 => ?_)
    · have hs := if_t c1 hs
      refine lv_iconst (v := 0) hx hb dX7_move_99 (by decide) ?_
      exact u_zret (v := false) hx hb hr hlocks hP hS hs dX7_move_100
    · have hs := if_f c1 hs
      refine lv_iload_n hx hb dX7_move_74 rfl (lv_at hl 2 rfl) ?_
      refine lv_iconst (v := 1) hx hb dX7_move_75 (by decide) ?_
      refine lv_icmp_ne (tgt := 84) hx hb dX7_move_76 (by decide) (fun c2 => ?_) (fun c2 => ?_)
      · have hs := if_f c2 hs
        refine lv_iload_n hx hb dX7_move_84 rfl (lv_at hl 2 rfl) ?_
        refine lv_iconst (v := 1) hx hb dX7_move_85 (by decide) ?_
        refine lv_icmp_eq (tgt := 101) hx hb dX7_move_86 (by decide) (fun c3 => ?_) (fun c3 => ?_)
        · have hs := if_t c3 hs
          refine lv_aload_n hx hb dX7_move_101 rfl (lv_at hl 4 rfl) ?_
          refine lv_aload_n hx hb dX7_move_102 rfl (lv_at hl 4 rfl) ?_
          refine gM_X7_op hx hb hT hown hK hP (hT _ tF_X7_174) dX7_move_103 ?_
          refine lv_bipush (v := 63) hx hb dX7_move_106 (by decide) ?_
          refine lv_iand hx hb dX7_move_108 ?_
          refine lv_iload_n hx hb dX7_move_109 rfl (lv_at hl 3 rfl) ?_
          obtain ⟨S2, h6, hs⟩ := bv_e hs
          refine kX7_operand C tM_X7_192 ⟨Nat.le_of_ble_eq_true rfl, Nat.le_of_ble_eq_true rfl⟩ ⟨Nat.le_of_ble_eq_true rfl, Nat.le_of_ble_eq_true rfl⟩ hK hP hS hl.1 (rest := []) (Nat.le_of_ble_eq_true rfl) dX7_move_110 h6 (fun H locs hP hS => ?_)
          refine lv_aload_n hx hb dX7_move_113 rfl (lv_at hl 4 rfl) ?_
          refine lv_iload_n hx hb dX7_move_114 rfl (lv_at hl 3 rfl) ?_
          obtain ⟨r1, S3, h7, hs⟩ := bd_e hs
          refine kX7_take C tM_X7_195 ⟨Nat.le_of_ble_eq_true rfl, Nat.le_of_ble_eq_true rfl⟩ ⟨Nat.le_of_ble_eq_true rfl, Nat.le_of_ble_eq_true rfl⟩ hK hP hS hl.1 (rest := []) (Nat.le_of_ble_eq_true rfl) dX7_move_115 h7 (fun H locs hP hS => ?_)
          refine lv_istore (lv' := [(6, .int r1), (5, .int v5), (4, .int v4), (3, .int v3), (2, .int v2), (0, .ref (ad 0))]) hx hb dX7_move_118 hl (by decide) rfl (fun ls hl => ?_)
          refine lv_iload_n hx hb dX7_move_120 rfl (lv_at hl 3 rfl) ?_
          refine lv_iconst (v := 1) hx hb dX7_move_121 (by decide) ?_
          refine lv_icmp_ne (tgt := 139) hx hb dX7_move_122 (by decide) (fun c4 => ?_) (fun c4 => ?_)
          · have hs := if_f c4 hs
            refine lv_aload_n hx hb dX7_move_139 rfl (lv_at hl 5 rfl) ?_
            refine lv_iload hx hb dX7_move_140 (lv_at hl 1 rfl) ?_
            refine lv_iload_n hx hb dX7_move_142 rfl (lv_at hl 4 rfl) ?_
            obtain ⟨S4, h8, hs⟩ := bv_e hs
            refine kX7_operand C tM_X7_192 ⟨Nat.le_of_ble_eq_true rfl, Nat.le_of_ble_eq_true rfl⟩ ⟨Nat.le_of_ble_eq_true rfl, Nat.le_of_ble_eq_true rfl⟩ hK hP hS hl.1 (rest := []) (Nat.le_of_ble_eq_true rfl) dX7_move_143 h8 (fun H locs hP hS => ?_)
            refine lv_aload_n hx hb dX7_move_146 rfl (lv_at hl 5 rfl) ?_
            refine lv_iload hx hb dX7_move_147 (lv_at hl 0 rfl) ?_
            refine lv_iload_n hx hb dX7_move_149 rfl (lv_at hl 4 rfl) ?_
            obtain ⟨S5, h9, hs⟩ := bv_e hs
            refine kX7_logic C tM_X7_214 ⟨Nat.le_of_ble_eq_true rfl, Nat.le_of_ble_eq_true rfl⟩ ⟨Nat.le_of_ble_eq_true rfl, Nat.le_of_ble_eq_true rfl⟩ hK hP hS hl.1 (rest := []) (Nat.le_of_ble_eq_true rfl) dX7_move_150 h9 (fun H locs hP hS => ?_)
            refine lv_aload_n hx hb dX7_move_153 rfl (lv_at hl 5 rfl) ?_
            refine lv_iload hx hb dX7_move_154 (lv_at hl 0 rfl) ?_
            refine lv_iload_n hx hb dX7_move_156 rfl (lv_at hl 4 rfl) ?_
            obtain ⟨S6, h10, hs⟩ := bv_e hs
            refine kX7_give C tM_X7_198 ⟨Nat.le_of_ble_eq_true rfl, Nat.le_of_ble_eq_true rfl⟩ ⟨Nat.le_of_ble_eq_true rfl, Nat.le_of_ble_eq_true rfl⟩ hK hP hS hl.1 (rest := []) (Nat.le_of_ble_eq_true rfl) dX7_move_157 h10 (fun H locs hP hS => ?_)
            refine lv_iconst (v := 1) hx hb dX7_move_160 (by decide) ?_
            exact u_zret (v := true) hx hb hr hlocks hP hS hs dX7_move_161
          · have hs := if_t c4 hs
            refine lv_aload_n hx hb dX7_move_125 rfl (lv_at hl 5 rfl) ?_
            refine lv_iload hx hb dX7_move_126 (lv_at hl 2 rfl) ?_
            refine lv_iload hx hb dX7_move_128 (lv_at hl 0 rfl) ?_
            refine lv_iload_n hx hb dX7_move_130 rfl (lv_at hl 4 rfl) ?_
            obtain ⟨r2, S7, h11, hs⟩ := bd_e hs
            refine kX7_extended C tM_X7_157 ⟨Nat.le_of_ble_eq_true rfl, Nat.le_of_ble_eq_true rfl⟩ ⟨Nat.le_of_ble_eq_true rfl, Nat.le_of_ble_eq_true rfl⟩ hK hP hS hl.1 (rest := [.int v4, .ref (ad 0)]) (Nat.le_of_ble_eq_true rfl) dX7_move_131 h11 (fun H locs hP hS => ?_)
            obtain ⟨S8, h12, hs⟩ := bv_e hs
            refine kX7_setA C tM_X7_74 ⟨Nat.le_of_ble_eq_true rfl, Nat.le_of_ble_eq_true rfl⟩ ⟨Nat.le_of_ble_eq_true rfl, Nat.le_of_ble_eq_true rfl⟩ hK hP hS hl.1 (rest := []) (Nat.le_of_ble_eq_true rfl) dX7_move_134 h12 (fun H locs hP hS => ?_)
            refine lv_iconst (v := 1) hx hb dX7_move_137 (by decide) ?_
            exact u_zret (v := true) hx hb hr hlocks hP hS hs dX7_move_138
        · have hs := if_f c3 hs
          refine lv_iload hx hb dX7_move_89 (lv_at hl 0 rfl) ?_
          refine lv_iconst (v := 4) hx hb dX7_move_91 (by decide) ?_
          refine lv_iload_n hx hb dX7_move_92 rfl (lv_at hl 3 rfl) ?_
          obtain ⟨b2, S9, h13, hs⟩ := bd_e hs
          refine kX7_fits C tM_X7_188 ⟨Nat.le_of_ble_eq_true rfl, Nat.le_of_ble_eq_true rfl⟩ ⟨Nat.le_of_ble_eq_true rfl, Nat.le_of_ble_eq_true rfl⟩ hK hP hS hl.1 (rest := []) (Nat.le_of_ble_eq_true rfl) dX7_move_93 h13 (fun H locs hP hS => ?_)
          refine lv_if_ne (tgt := 101) hx hb dX7_move_96 (by decide) (fun c5 => ?_) (fun c5 => ?_)
          · have hs := if_f c5 hs
            refine lv_aload_n hx hb dX7_move_101 rfl (lv_at hl 4 rfl) ?_
            refine lv_aload_n hx hb dX7_move_102 rfl (lv_at hl 4 rfl) ?_
            refine gM_X7_op hx hb hT hown hK hP (hT _ tF_X7_174) dX7_move_103 ?_
            refine lv_bipush (v := 63) hx hb dX7_move_106 (by decide) ?_
            refine lv_iand hx hb dX7_move_108 ?_
            refine lv_iload_n hx hb dX7_move_109 rfl (lv_at hl 3 rfl) ?_
            obtain ⟨S10, h14, hs⟩ := bv_e hs
            refine kX7_operand C tM_X7_192 ⟨Nat.le_of_ble_eq_true rfl, Nat.le_of_ble_eq_true rfl⟩ ⟨Nat.le_of_ble_eq_true rfl, Nat.le_of_ble_eq_true rfl⟩ hK hP hS hl.1 (rest := []) (Nat.le_of_ble_eq_true rfl) dX7_move_110 h14 (fun H locs hP hS => ?_)
            refine lv_aload_n hx hb dX7_move_113 rfl (lv_at hl 4 rfl) ?_
            refine lv_iload_n hx hb dX7_move_114 rfl (lv_at hl 3 rfl) ?_
            obtain ⟨r3, S11, h15, hs⟩ := bd_e hs
            refine kX7_take C tM_X7_195 ⟨Nat.le_of_ble_eq_true rfl, Nat.le_of_ble_eq_true rfl⟩ ⟨Nat.le_of_ble_eq_true rfl, Nat.le_of_ble_eq_true rfl⟩ hK hP hS hl.1 (rest := []) (Nat.le_of_ble_eq_true rfl) dX7_move_115 h15 (fun H locs hP hS => ?_)
            refine lv_istore (lv' := [(6, .int r3), (5, .int v5), (4, .int v4), (3, .int v3), (2, .int v2), (0, .ref (ad 0))]) hx hb dX7_move_118 hl (by decide) rfl (fun ls hl => ?_)
            refine lv_iload_n hx hb dX7_move_120 rfl (lv_at hl 3 rfl) ?_
            refine lv_iconst (v := 1) hx hb dX7_move_121 (by decide) ?_
            refine lv_icmp_ne (tgt := 139) hx hb dX7_move_122 (by decide) (fun c6 => ?_) (fun c6 => ?_)
            · have hs := if_f c6 hs
              refine lv_aload_n hx hb dX7_move_139 rfl (lv_at hl 5 rfl) ?_
              refine lv_iload hx hb dX7_move_140 (lv_at hl 1 rfl) ?_
              refine lv_iload_n hx hb dX7_move_142 rfl (lv_at hl 4 rfl) ?_
              obtain ⟨S12, h16, hs⟩ := bv_e hs
              refine kX7_operand C tM_X7_192 ⟨Nat.le_of_ble_eq_true rfl, Nat.le_of_ble_eq_true rfl⟩ ⟨Nat.le_of_ble_eq_true rfl, Nat.le_of_ble_eq_true rfl⟩ hK hP hS hl.1 (rest := []) (Nat.le_of_ble_eq_true rfl) dX7_move_143 h16 (fun H locs hP hS => ?_)
              refine lv_aload_n hx hb dX7_move_146 rfl (lv_at hl 5 rfl) ?_
              refine lv_iload hx hb dX7_move_147 (lv_at hl 0 rfl) ?_
              refine lv_iload_n hx hb dX7_move_149 rfl (lv_at hl 4 rfl) ?_
              obtain ⟨S13, h17, hs⟩ := bv_e hs
              refine kX7_logic C tM_X7_214 ⟨Nat.le_of_ble_eq_true rfl, Nat.le_of_ble_eq_true rfl⟩ ⟨Nat.le_of_ble_eq_true rfl, Nat.le_of_ble_eq_true rfl⟩ hK hP hS hl.1 (rest := []) (Nat.le_of_ble_eq_true rfl) dX7_move_150 h17 (fun H locs hP hS => ?_)
              refine lv_aload_n hx hb dX7_move_153 rfl (lv_at hl 5 rfl) ?_
              refine lv_iload hx hb dX7_move_154 (lv_at hl 0 rfl) ?_
              refine lv_iload_n hx hb dX7_move_156 rfl (lv_at hl 4 rfl) ?_
              obtain ⟨S14, h18, hs⟩ := bv_e hs
              refine kX7_give C tM_X7_198 ⟨Nat.le_of_ble_eq_true rfl, Nat.le_of_ble_eq_true rfl⟩ ⟨Nat.le_of_ble_eq_true rfl, Nat.le_of_ble_eq_true rfl⟩ hK hP hS hl.1 (rest := []) (Nat.le_of_ble_eq_true rfl) dX7_move_157 h18 (fun H locs hP hS => ?_)
              refine lv_iconst (v := 1) hx hb dX7_move_160 (by decide) ?_
              exact u_zret (v := true) hx hb hr hlocks hP hS hs dX7_move_161
            · have hs := if_t c6 hs
              refine lv_aload_n hx hb dX7_move_125 rfl (lv_at hl 5 rfl) ?_
              refine lv_iload hx hb dX7_move_126 (lv_at hl 2 rfl) ?_
              refine lv_iload hx hb dX7_move_128 (lv_at hl 0 rfl) ?_
              refine lv_iload_n hx hb dX7_move_130 rfl (lv_at hl 4 rfl) ?_
              obtain ⟨r4, S15, h19, hs⟩ := bd_e hs
              refine kX7_extended C tM_X7_157 ⟨Nat.le_of_ble_eq_true rfl, Nat.le_of_ble_eq_true rfl⟩ ⟨Nat.le_of_ble_eq_true rfl, Nat.le_of_ble_eq_true rfl⟩ hK hP hS hl.1 (rest := [.int v4, .ref (ad 0)]) (Nat.le_of_ble_eq_true rfl) dX7_move_131 h19 (fun H locs hP hS => ?_)
              obtain ⟨S16, h20, hs⟩ := bv_e hs
              refine kX7_setA C tM_X7_74 ⟨Nat.le_of_ble_eq_true rfl, Nat.le_of_ble_eq_true rfl⟩ ⟨Nat.le_of_ble_eq_true rfl, Nat.le_of_ble_eq_true rfl⟩ hK hP hS hl.1 (rest := []) (Nat.le_of_ble_eq_true rfl) dX7_move_134 h20 (fun H locs hP hS => ?_)
              refine lv_iconst (v := 1) hx hb dX7_move_137 (by decide) ?_
              exact u_zret (v := true) hx hb hr hlocks hP hS hs dX7_move_138
          · have hs := if_t c5 hs
            refine lv_iconst (v := 0) hx hb dX7_move_99 (by decide) ?_
            exact u_zret (v := false) hx hb hr hlocks hP hS hs dX7_move_100
      · have hs := if_t c2 hs
        refine lv_iload_n hx hb dX7_move_79 rfl (lv_at hl 3 rfl) ?_
        refine lv_iconst (v := 1) hx hb dX7_move_80 (by decide) ?_
        refine lv_icmp_eq (tgt := 99) hx hb dX7_move_81 (by decide) (fun c7 => ?_) (fun c7 => ?_)
        · have hs := if_t c7 hs
          refine lv_iconst (v := 0) hx hb dX7_move_99 (by decide) ?_
          exact u_zret (v := false) hx hb hr hlocks hP hS hs dX7_move_100
        · have hs := if_f c7 hs
          refine lv_iload_n hx hb dX7_move_84 rfl (lv_at hl 2 rfl) ?_
          refine lv_iconst (v := 1) hx hb dX7_move_85 (by decide) ?_
          refine lv_icmp_eq (tgt := 101) hx hb dX7_move_86 (by decide) (fun c8 => ?_) (fun c8 => ?_)
          · have hs := if_t c8 hs
            refine lv_aload_n hx hb dX7_move_101 rfl (lv_at hl 4 rfl) ?_
            refine lv_aload_n hx hb dX7_move_102 rfl (lv_at hl 4 rfl) ?_
            refine gM_X7_op hx hb hT hown hK hP (hT _ tF_X7_174) dX7_move_103 ?_
            refine lv_bipush (v := 63) hx hb dX7_move_106 (by decide) ?_
            refine lv_iand hx hb dX7_move_108 ?_
            refine lv_iload_n hx hb dX7_move_109 rfl (lv_at hl 3 rfl) ?_
            obtain ⟨S17, h21, hs⟩ := bv_e hs
            refine kX7_operand C tM_X7_192 ⟨Nat.le_of_ble_eq_true rfl, Nat.le_of_ble_eq_true rfl⟩ ⟨Nat.le_of_ble_eq_true rfl, Nat.le_of_ble_eq_true rfl⟩ hK hP hS hl.1 (rest := []) (Nat.le_of_ble_eq_true rfl) dX7_move_110 h21 (fun H locs hP hS => ?_)
            refine lv_aload_n hx hb dX7_move_113 rfl (lv_at hl 4 rfl) ?_
            refine lv_iload_n hx hb dX7_move_114 rfl (lv_at hl 3 rfl) ?_
            obtain ⟨r5, S18, h22, hs⟩ := bd_e hs
            refine kX7_take C tM_X7_195 ⟨Nat.le_of_ble_eq_true rfl, Nat.le_of_ble_eq_true rfl⟩ ⟨Nat.le_of_ble_eq_true rfl, Nat.le_of_ble_eq_true rfl⟩ hK hP hS hl.1 (rest := []) (Nat.le_of_ble_eq_true rfl) dX7_move_115 h22 (fun H locs hP hS => ?_)
            refine lv_istore (lv' := [(6, .int r5), (5, .int v5), (4, .int v4), (3, .int v3), (2, .int v2), (0, .ref (ad 0))]) hx hb dX7_move_118 hl (by decide) rfl (fun ls hl => ?_)
            refine lv_iload_n hx hb dX7_move_120 rfl (lv_at hl 3 rfl) ?_
            refine lv_iconst (v := 1) hx hb dX7_move_121 (by decide) ?_
            refine lv_icmp_ne (tgt := 139) hx hb dX7_move_122 (by decide) (fun c9 => ?_) (fun c9 => ?_)
            · have hs := if_f c9 hs
              refine lv_aload_n hx hb dX7_move_139 rfl (lv_at hl 5 rfl) ?_
              refine lv_iload hx hb dX7_move_140 (lv_at hl 1 rfl) ?_
              refine lv_iload_n hx hb dX7_move_142 rfl (lv_at hl 4 rfl) ?_
              obtain ⟨S19, h23, hs⟩ := bv_e hs
              refine kX7_operand C tM_X7_192 ⟨Nat.le_of_ble_eq_true rfl, Nat.le_of_ble_eq_true rfl⟩ ⟨Nat.le_of_ble_eq_true rfl, Nat.le_of_ble_eq_true rfl⟩ hK hP hS hl.1 (rest := []) (Nat.le_of_ble_eq_true rfl) dX7_move_143 h23 (fun H locs hP hS => ?_)
              refine lv_aload_n hx hb dX7_move_146 rfl (lv_at hl 5 rfl) ?_
              refine lv_iload hx hb dX7_move_147 (lv_at hl 0 rfl) ?_
              refine lv_iload_n hx hb dX7_move_149 rfl (lv_at hl 4 rfl) ?_
              obtain ⟨S20, h24, hs⟩ := bv_e hs
              refine kX7_logic C tM_X7_214 ⟨Nat.le_of_ble_eq_true rfl, Nat.le_of_ble_eq_true rfl⟩ ⟨Nat.le_of_ble_eq_true rfl, Nat.le_of_ble_eq_true rfl⟩ hK hP hS hl.1 (rest := []) (Nat.le_of_ble_eq_true rfl) dX7_move_150 h24 (fun H locs hP hS => ?_)
              refine lv_aload_n hx hb dX7_move_153 rfl (lv_at hl 5 rfl) ?_
              refine lv_iload hx hb dX7_move_154 (lv_at hl 0 rfl) ?_
              refine lv_iload_n hx hb dX7_move_156 rfl (lv_at hl 4 rfl) ?_
              obtain ⟨S21, h25, hs⟩ := bv_e hs
              refine kX7_give C tM_X7_198 ⟨Nat.le_of_ble_eq_true rfl, Nat.le_of_ble_eq_true rfl⟩ ⟨Nat.le_of_ble_eq_true rfl, Nat.le_of_ble_eq_true rfl⟩ hK hP hS hl.1 (rest := []) (Nat.le_of_ble_eq_true rfl) dX7_move_157 h25 (fun H locs hP hS => ?_)
              refine lv_iconst (v := 1) hx hb dX7_move_160 (by decide) ?_
              exact u_zret (v := true) hx hb hr hlocks hP hS hs dX7_move_161
            · have hs := if_t c9 hs
              refine lv_aload_n hx hb dX7_move_125 rfl (lv_at hl 5 rfl) ?_
              refine lv_iload hx hb dX7_move_126 (lv_at hl 2 rfl) ?_
              refine lv_iload hx hb dX7_move_128 (lv_at hl 0 rfl) ?_
              refine lv_iload_n hx hb dX7_move_130 rfl (lv_at hl 4 rfl) ?_
              obtain ⟨r6, S22, h26, hs⟩ := bd_e hs
              refine kX7_extended C tM_X7_157 ⟨Nat.le_of_ble_eq_true rfl, Nat.le_of_ble_eq_true rfl⟩ ⟨Nat.le_of_ble_eq_true rfl, Nat.le_of_ble_eq_true rfl⟩ hK hP hS hl.1 (rest := [.int v4, .ref (ad 0)]) (Nat.le_of_ble_eq_true rfl) dX7_move_131 h26 (fun H locs hP hS => ?_)
              obtain ⟨S23, h27, hs⟩ := bv_e hs
              refine kX7_setA C tM_X7_74 ⟨Nat.le_of_ble_eq_true rfl, Nat.le_of_ble_eq_true rfl⟩ ⟨Nat.le_of_ble_eq_true rfl, Nat.le_of_ble_eq_true rfl⟩ hK hP hS hl.1 (rest := []) (Nat.le_of_ble_eq_true rfl) dX7_move_134 h27 (fun H locs hP hS => ?_)
              refine lv_iconst (v := 1) hx hb dX7_move_137 (by decide) ?_
              exact u_zret (v := true) hx hb hr hlocks hP hS hs dX7_move_138
          · have hs := if_f c8 hs
            refine lv_iload hx hb dX7_move_89 (lv_at hl 0 rfl) ?_
            refine lv_iconst (v := 4) hx hb dX7_move_91 (by decide) ?_
            refine lv_iload_n hx hb dX7_move_92 rfl (lv_at hl 3 rfl) ?_
            obtain ⟨b3, S24, h28, hs⟩ := bd_e hs
            refine kX7_fits C tM_X7_188 ⟨Nat.le_of_ble_eq_true rfl, Nat.le_of_ble_eq_true rfl⟩ ⟨Nat.le_of_ble_eq_true rfl, Nat.le_of_ble_eq_true rfl⟩ hK hP hS hl.1 (rest := []) (Nat.le_of_ble_eq_true rfl) dX7_move_93 h28 (fun H locs hP hS => ?_)
            refine lv_if_ne (tgt := 101) hx hb dX7_move_96 (by decide) (fun c10 => ?_) (fun c10 => ?_)
            · have hs := if_f c10 hs
              refine lv_aload_n hx hb dX7_move_101 rfl (lv_at hl 4 rfl) ?_
              refine lv_aload_n hx hb dX7_move_102 rfl (lv_at hl 4 rfl) ?_
              refine gM_X7_op hx hb hT hown hK hP (hT _ tF_X7_174) dX7_move_103 ?_
              refine lv_bipush (v := 63) hx hb dX7_move_106 (by decide) ?_
              refine lv_iand hx hb dX7_move_108 ?_
              refine lv_iload_n hx hb dX7_move_109 rfl (lv_at hl 3 rfl) ?_
              obtain ⟨S25, h29, hs⟩ := bv_e hs
              refine kX7_operand C tM_X7_192 ⟨Nat.le_of_ble_eq_true rfl, Nat.le_of_ble_eq_true rfl⟩ ⟨Nat.le_of_ble_eq_true rfl, Nat.le_of_ble_eq_true rfl⟩ hK hP hS hl.1 (rest := []) (Nat.le_of_ble_eq_true rfl) dX7_move_110 h29 (fun H locs hP hS => ?_)
              refine lv_aload_n hx hb dX7_move_113 rfl (lv_at hl 4 rfl) ?_
              refine lv_iload_n hx hb dX7_move_114 rfl (lv_at hl 3 rfl) ?_
              obtain ⟨r7, S26, h30, hs⟩ := bd_e hs
              refine kX7_take C tM_X7_195 ⟨Nat.le_of_ble_eq_true rfl, Nat.le_of_ble_eq_true rfl⟩ ⟨Nat.le_of_ble_eq_true rfl, Nat.le_of_ble_eq_true rfl⟩ hK hP hS hl.1 (rest := []) (Nat.le_of_ble_eq_true rfl) dX7_move_115 h30 (fun H locs hP hS => ?_)
              refine lv_istore (lv' := [(6, .int r7), (5, .int v5), (4, .int v4), (3, .int v3), (2, .int v2), (0, .ref (ad 0))]) hx hb dX7_move_118 hl (by decide) rfl (fun ls hl => ?_)
              refine lv_iload_n hx hb dX7_move_120 rfl (lv_at hl 3 rfl) ?_
              refine lv_iconst (v := 1) hx hb dX7_move_121 (by decide) ?_
              refine lv_icmp_ne (tgt := 139) hx hb dX7_move_122 (by decide) (fun c11 => ?_) (fun c11 => ?_)
              · have hs := if_f c11 hs
                refine lv_aload_n hx hb dX7_move_139 rfl (lv_at hl 5 rfl) ?_
                refine lv_iload hx hb dX7_move_140 (lv_at hl 1 rfl) ?_
                refine lv_iload_n hx hb dX7_move_142 rfl (lv_at hl 4 rfl) ?_
                obtain ⟨S27, h31, hs⟩ := bv_e hs
                refine kX7_operand C tM_X7_192 ⟨Nat.le_of_ble_eq_true rfl, Nat.le_of_ble_eq_true rfl⟩ ⟨Nat.le_of_ble_eq_true rfl, Nat.le_of_ble_eq_true rfl⟩ hK hP hS hl.1 (rest := []) (Nat.le_of_ble_eq_true rfl) dX7_move_143 h31 (fun H locs hP hS => ?_)
                refine lv_aload_n hx hb dX7_move_146 rfl (lv_at hl 5 rfl) ?_
                refine lv_iload hx hb dX7_move_147 (lv_at hl 0 rfl) ?_
                refine lv_iload_n hx hb dX7_move_149 rfl (lv_at hl 4 rfl) ?_
                obtain ⟨S28, h32, hs⟩ := bv_e hs
                refine kX7_logic C tM_X7_214 ⟨Nat.le_of_ble_eq_true rfl, Nat.le_of_ble_eq_true rfl⟩ ⟨Nat.le_of_ble_eq_true rfl, Nat.le_of_ble_eq_true rfl⟩ hK hP hS hl.1 (rest := []) (Nat.le_of_ble_eq_true rfl) dX7_move_150 h32 (fun H locs hP hS => ?_)
                refine lv_aload_n hx hb dX7_move_153 rfl (lv_at hl 5 rfl) ?_
                refine lv_iload hx hb dX7_move_154 (lv_at hl 0 rfl) ?_
                refine lv_iload_n hx hb dX7_move_156 rfl (lv_at hl 4 rfl) ?_
                obtain ⟨S29, h33, hs⟩ := bv_e hs
                refine kX7_give C tM_X7_198 ⟨Nat.le_of_ble_eq_true rfl, Nat.le_of_ble_eq_true rfl⟩ ⟨Nat.le_of_ble_eq_true rfl, Nat.le_of_ble_eq_true rfl⟩ hK hP hS hl.1 (rest := []) (Nat.le_of_ble_eq_true rfl) dX7_move_157 h33 (fun H locs hP hS => ?_)
                refine lv_iconst (v := 1) hx hb dX7_move_160 (by decide) ?_
                exact u_zret (v := true) hx hb hr hlocks hP hS hs dX7_move_161
              · have hs := if_t c11 hs
                refine lv_aload_n hx hb dX7_move_125 rfl (lv_at hl 5 rfl) ?_
                refine lv_iload hx hb dX7_move_126 (lv_at hl 2 rfl) ?_
                refine lv_iload hx hb dX7_move_128 (lv_at hl 0 rfl) ?_
                refine lv_iload_n hx hb dX7_move_130 rfl (lv_at hl 4 rfl) ?_
                obtain ⟨r8, S30, h34, hs⟩ := bd_e hs
                refine kX7_extended C tM_X7_157 ⟨Nat.le_of_ble_eq_true rfl, Nat.le_of_ble_eq_true rfl⟩ ⟨Nat.le_of_ble_eq_true rfl, Nat.le_of_ble_eq_true rfl⟩ hK hP hS hl.1 (rest := [.int v4, .ref (ad 0)]) (Nat.le_of_ble_eq_true rfl) dX7_move_131 h34 (fun H locs hP hS => ?_)
                obtain ⟨S31, h35, hs⟩ := bv_e hs
                refine kX7_setA C tM_X7_74 ⟨Nat.le_of_ble_eq_true rfl, Nat.le_of_ble_eq_true rfl⟩ ⟨Nat.le_of_ble_eq_true rfl, Nat.le_of_ble_eq_true rfl⟩ hK hP hS hl.1 (rest := []) (Nat.le_of_ble_eq_true rfl) dX7_move_134 h35 (fun H locs hP hS => ?_)
                refine lv_iconst (v := 1) hx hb dX7_move_137 (by decide) ?_
                exact u_zret (v := true) hx hb hr hlocks hP hS hs dX7_move_138
            · have hs := if_t c10 hs
              refine lv_iconst (v := 0) hx hb dX7_move_99 (by decide) ?_
              exact u_zret (v := false) hx hb hr hlocks hP hS hs dX7_move_100
  ·
    refine lv_icmp_ne (tgt := 17) hx hb dX7_move_10 (by decide) (fun c12 => ?_) (fun c12 => ?_)
    · have hs := if_f c12 hs
      refine lv_iload_n hx hb dX7_move_17 rfl (lv_at hl 0 rfl) ?_
      refine lv_iconst (v := 3) hx hb dX7_move_18 (by decide) ?_
      refine lv_icmp_ne (tgt := 26) hx hb dX7_move_19 (by decide) (fun c13 => ?_) (fun c13 => ?_)
      · have hs := if_f c13 hs
        refine lv_iconst (v := 4) hx hb dX7_move_26 (by decide) ?_
        exact J1 4 _ _ _ (lv_sub hl [1] rfl) hP hS hs
      · have hs := if_t c13 hs
        refine lv_iconst (v := 2) hx hb dX7_move_22 (by decide) ?_
        refine lv_goto (tgt := 27) hx hb dX7_move_23 (by decide) ?_
        exact J1 2 _ _ _ (lv_sub hl [1] rfl) hP hS hs
    · have hs := if_t c12 hs
      refine lv_iconst (v := 1) hx hb dX7_move_13 (by decide) ?_
      refine lv_goto (tgt := 27) hx hb dX7_move_14 (by decide) ?_
      exact J1 1 _ _ _ (lv_sub hl [1] rfl) hP hS hs
theorem kX7_move {p : Program} {l : Launch} {e : Env} {R : Room} {s : State} {m : MethodId} {args : Array Value} {below : List Frame} {meth : Method} {c : Code} {H : Heap} {locs : List Loc} {cells slots : Nat} {Q : State → Prop} {cc : ByteArray} {pc nL : Nat} {ls : Array Slot} {rest : List Value} {D : va_G} {ad : Nat → Nat} {cI cB : ClassId} {en : Nat → Nat} {S : St} {own : String} {index : Nat}  {ro : Bool} {So : St} (C : CallFix p m c cc nL s args wG own) (hlk : Cond.methodLink own index yX7_move ∈ wG) (hR : rmX7_move.frames + 1 ≤ R.frames ∧ 8 + (7 + 11) + rmX7_move.locals ≤ R.locals) (hc : cells ≤ R.cells ∧ slots ≤ R.slots) (hK : KM D ad cI cB en s) (hP : va_P D vwCl (wM ad cI cB S) H) (hS : va_S (AX 11 ad s.heap.size) s.heap H locs) (hls : ls.size = nL) (hrest : (rest.map fun v => v.category).sum ≤ 8) (hd : decode cc pc = .ok (.invokevirtual index, 3)) (hs : fX7_move  S = some (ro, So)) (k : ∀ (H : Heap) (locs : List Loc), va_P D vwCl (wM ad cI cB So) H → va_S (AX 11 ad s.heap.size) s.heap H locs → W p l e R s m args below meth c H locs cells slots Q (F0 m (pc + 3) ls (.int (zI ro) :: rest))) : W p l e R s m args below meth c H locs cells slots Q (F0 m pc ls (.ref (ad 0) :: rest)) :=
  u_callV (n := 0) (mX7_move l D ad cI cB en S  ro So hs) C uK_M (wg_V hlk tI_X7_move tS_X7_move tN_X7 tK_X7_move) rfl rfl rfl (by decide +kernel) hR rfl (va_recv hK.1 hP (ci := 6) (q0 := 0) rfl rfl) hK hP hS hls hrest hd hc rfl k
def fX7_unary (x1 : Int32) (S : St) : Option (Bool × St) :=
    (bd (fX7_sizeOf (((S.1 5) >>> ((6 : Int32) &&& 31)) &&& 3) S) fun r1 S1 => (bd (fX7_fits ((S1.1 5) &&& 63) 4 r1 S1) fun b1 S2 => (if (zI b1) = 0 then (some (false, S2))
    else (bv (fX7_operand ((S2.1 5) &&& 63) r1 S2) fun S3 => (bd (fX7_take r1 S3) fun r2 S4 => (if x1 = 0 then (bd (fX7_x S4) fun r4 S12 => (bd (fX7_reckon 0 r2 r4 true r1 true true S12) fun r5 S13 => (bv (fX7_give r5 r1 S13) fun S14 => (some (true, S14)))))
    else (if x1 = 2 then (bv (fX7_logic 0 r1 S4) fun S10 => (bv (fX7_give 0 r1 S10) fun S11 => (some (true, S11))))
    else (if x1 = 4 then (bd (fX7_reckon 0 r2 0 true r1 true false S4) fun r3 S8 => (bv (fX7_give r3 r1 S8) fun S9 => (some (true, S9))))
    else (if x1 = 6 then (bv (fX7_logic (r2 ^^^ (-1 : Int32)) r1 S4) fun S6 => (bv (fX7_give (r2 ^^^ (-1 : Int32)) r1 S6) fun S7 => (some (true, S7))))
    else (bv (fX7_logic r2 r1 S4) fun S5 => (some (true, S5))))))))))))
abbrev rmX7_unary : Room := { frames := 6, cells := 0, slots := 0, locals := 138 }
set_option maxRecDepth 100000 in
set_option maxHeartbeats 4000000 in
theorem mX7_unary (l : Launch) (D : va_G) (ad : Nat → Nat) (cI cB : ClassId) (en : Nat → Nat) (S : St) (x1 : Int32) (ro : Bool) (So : St) (hs : fX7_unary x1 S = some (ro, So)) : uM l yX7_unary (wg yX7_unary cX7_unary 4 (some .boolean)) rmX7_unary (KM D ad cI cB en) D (wM ad cI cB) (AX 11 ad) [.ref (ad 0), .int x1] S (some (.int (zI ro)), So) := by
  refine uM_start (by decide) rfl ?_
  intro p e s m below meth c hx hb hr hlocks hml hown hts hK hP
  have hT : ∀ w ∈ wG, w.before _ s = true := fun w h => hts w (List.mem_cons_of_mem _ h)
  have hS : va_S (AX 11 ad s.heap.size) s.heap s.heap [] := va_S.rf
  have hown : s.vm.findClass RX7 = some m.cls := hown
  have C : CallFix p m c cX7_unary 4 s _ wG RX7 := ⟨hx, hb, hml, hown, hT⟩
  have hl := lv_entry ([.ref (ad 0), .int x1]) (n := 4) (Nat.le_of_ble_eq_true rfl)
  rw [lg_entry_eq]
  generalize (lg_sl ([.ref (ad 0), .int x1]) ++ List.replicate (4 - (lg_sl ([.ref (ad 0), .int x1])).length) Slot.unset).toArray = ls at hl ⊢
  have hl : lv_has ls 4 [(0, .ref (ad 0)), (1, .int x1)] := hl
  unfold fX7_unary at hs
  refine lv_aload_n hx hb dX7_unary_0 rfl (lv_at hl 0 rfl) ?_
  refine gM_X7_op hx hb hT hown hK hP (hT _ tF_X7_174) dX7_unary_1 ?_
  refine lv_bipush (v := 6) hx hb dX7_unary_4 (by decide) ?_
  refine lv_ishr hx hb dX7_unary_6 ?_
  refine lv_iconst (v := 3) hx hb dX7_unary_7 (by decide) ?_
  refine lv_iand hx hb dX7_unary_8 ?_
  obtain ⟨r1, S1, h1, hs⟩ := bd_e hs
  refine kX7_sizeOf C tM_X7_211 ⟨Nat.le_of_ble_eq_true rfl, Nat.le_of_ble_eq_true rfl⟩ ⟨Nat.le_of_ble_eq_true rfl, Nat.le_of_ble_eq_true rfl⟩ hK hP hS hl.1 (rest := []) (Nat.le_of_ble_eq_true rfl) dX7_unary_9 h1 (fun H locs hP hS => ?_)
  refine lv_istore_n (lv' := [(2, .int r1), (0, .ref (ad 0)), (1, .int x1)]) hx hb dX7_unary_12 rfl hl (by decide) rfl (fun ls hl => ?_)
  refine lv_aload_n hx hb dX7_unary_13 rfl (lv_at hl 1 rfl) ?_
  refine gM_X7_op hx hb hT hown hK hP (hT _ tF_X7_174) dX7_unary_14 ?_
  refine lv_bipush (v := 63) hx hb dX7_unary_17 (by decide) ?_
  refine lv_iand hx hb dX7_unary_19 ?_
  refine lv_iconst (v := 4) hx hb dX7_unary_20 (by decide) ?_
  refine lv_iload_n hx hb dX7_unary_21 rfl (lv_at hl 0 rfl) ?_
  obtain ⟨b1, S2, h2, hs⟩ := bd_e hs
  refine kX7_fits C tM_X7_188 ⟨Nat.le_of_ble_eq_true rfl, Nat.le_of_ble_eq_true rfl⟩ ⟨Nat.le_of_ble_eq_true rfl, Nat.le_of_ble_eq_true rfl⟩ hK hP hS hl.1 (rest := []) (Nat.le_of_ble_eq_true rfl) dX7_unary_22 h2 (fun H locs hP hS => ?_)
  refine lv_if_ne (tgt := 30) hx hb dX7_unary_25 (by decide) (fun c1 => ?_) (fun c1 => ?_)
  · have hs := if_f c1 hs
    refine lv_aload_n hx hb dX7_unary_30 rfl (lv_at hl 1 rfl) ?_
    refine lv_aload_n hx hb dX7_unary_31 rfl (lv_at hl 1 rfl) ?_
    refine gM_X7_op hx hb hT hown hK hP (hT _ tF_X7_174) dX7_unary_32 ?_
    refine lv_bipush (v := 63) hx hb dX7_unary_35 (by decide) ?_
    refine lv_iand hx hb dX7_unary_37 ?_
    refine lv_iload_n hx hb dX7_unary_38 rfl (lv_at hl 0 rfl) ?_
    obtain ⟨S3, h3, hs⟩ := bv_e hs
    refine kX7_operand C tM_X7_192 ⟨Nat.le_of_ble_eq_true rfl, Nat.le_of_ble_eq_true rfl⟩ ⟨Nat.le_of_ble_eq_true rfl, Nat.le_of_ble_eq_true rfl⟩ hK hP hS hl.1 (rest := []) (Nat.le_of_ble_eq_true rfl) dX7_unary_39 h3 (fun H locs hP hS => ?_)
    refine lv_aload_n hx hb dX7_unary_42 rfl (lv_at hl 1 rfl) ?_
    refine lv_iload_n hx hb dX7_unary_43 rfl (lv_at hl 0 rfl) ?_
    obtain ⟨r2, S4, h4, hs⟩ := bd_e hs
    refine kX7_take C tM_X7_195 ⟨Nat.le_of_ble_eq_true rfl, Nat.le_of_ble_eq_true rfl⟩ ⟨Nat.le_of_ble_eq_true rfl, Nat.le_of_ble_eq_true rfl⟩ hK hP hS hl.1 (rest := []) (Nat.le_of_ble_eq_true rfl) dX7_unary_44 h4 (fun H locs hP hS => ?_)
    refine lv_istore_n (lv' := [(3, .int r2), (2, .int r1), (0, .ref (ad 0)), (1, .int x1)]) hx hb dX7_unary_47 rfl hl (by decide) rfl (fun ls hl => ?_)
    refine lv_iload_n hx hb dX7_unary_48 rfl (lv_at hl 3 rfl) ?_
    refine lv_if_ne (tgt := 74) hx hb dX7_unary_49 (by decide) (fun c2 => ?_) (fun c2 => ?_)
    · have hs := if_f c2 hs
      refine lv_iload_n hx hb dX7_unary_74 rfl (lv_at hl 3 rfl) ?_
      refine lv_iconst (v := 2) hx hb dX7_unary_75 (by decide) ?_
      refine lv_icmp_ne (tgt := 94) hx hb dX7_unary_76 (by decide) (fun c3 => ?_) (fun c3 => ?_)
      · have hs := if_f c3 hs
        refine lv_iload_n hx hb dX7_unary_94 rfl (lv_at hl 3 rfl) ?_
        refine lv_iconst (v := 4) hx hb dX7_unary_95 (by decide) ?_
        refine lv_icmp_ne (tgt := 118) hx hb dX7_unary_96 (by decide) (fun c4 => ?_) (fun c4 => ?_)
        · have hs := if_f c4 hs
          refine lv_iload_n hx hb dX7_unary_118 rfl (lv_at hl 3 rfl) ?_
          refine lv_bipush (v := 6) hx hb dX7_unary_119 (by decide) ?_
          refine lv_icmp_ne (tgt := 143) hx hb dX7_unary_121 (by decide) (fun c5 => ?_) (fun c5 => ?_)
          · have hs := if_f c5 hs
            refine lv_aload_n hx hb dX7_unary_143 rfl (lv_at hl 2 rfl) ?_
            refine lv_iload_n hx hb dX7_unary_144 rfl (lv_at hl 0 rfl) ?_
            refine lv_iload_n hx hb dX7_unary_145 rfl (lv_at hl 1 rfl) ?_
            obtain ⟨S5, h5, hs⟩ := bv_e hs
            refine kX7_logic C tM_X7_214 ⟨Nat.le_of_ble_eq_true rfl, Nat.le_of_ble_eq_true rfl⟩ ⟨Nat.le_of_ble_eq_true rfl, Nat.le_of_ble_eq_true rfl⟩ hK hP hS hl.1 (rest := []) (Nat.le_of_ble_eq_true rfl) dX7_unary_146 h5 (fun H locs hP hS => ?_)
            refine lv_iconst (v := 1) hx hb dX7_unary_149 (by decide) ?_
            exact u_zret (v := true) hx hb hr hlocks hP hS hs dX7_unary_150
          · have hs := if_t c5 hs
            refine lv_aload_n hx hb dX7_unary_124 rfl (lv_at hl 2 rfl) ?_
            refine lv_iload_n hx hb dX7_unary_125 rfl (lv_at hl 0 rfl) ?_
            refine lv_iconst (v := (-1 : Int32)) hx hb dX7_unary_126 (by decide) ?_
            refine lv_ixor hx hb dX7_unary_127 ?_
            refine lv_iload_n hx hb dX7_unary_128 rfl (lv_at hl 1 rfl) ?_
            obtain ⟨S6, h6, hs⟩ := bv_e hs
            refine kX7_logic C tM_X7_214 ⟨Nat.le_of_ble_eq_true rfl, Nat.le_of_ble_eq_true rfl⟩ ⟨Nat.le_of_ble_eq_true rfl, Nat.le_of_ble_eq_true rfl⟩ hK hP hS hl.1 (rest := []) (Nat.le_of_ble_eq_true rfl) dX7_unary_129 h6 (fun H locs hP hS => ?_)
            refine lv_aload_n hx hb dX7_unary_132 rfl (lv_at hl 2 rfl) ?_
            refine lv_iload_n hx hb dX7_unary_133 rfl (lv_at hl 0 rfl) ?_
            refine lv_iconst (v := (-1 : Int32)) hx hb dX7_unary_134 (by decide) ?_
            refine lv_ixor hx hb dX7_unary_135 ?_
            refine lv_iload_n hx hb dX7_unary_136 rfl (lv_at hl 1 rfl) ?_
            obtain ⟨S7, h7, hs⟩ := bv_e hs
            refine kX7_give C tM_X7_198 ⟨Nat.le_of_ble_eq_true rfl, Nat.le_of_ble_eq_true rfl⟩ ⟨Nat.le_of_ble_eq_true rfl, Nat.le_of_ble_eq_true rfl⟩ hK hP hS hl.1 (rest := []) (Nat.le_of_ble_eq_true rfl) dX7_unary_137 h7 (fun H locs hP hS => ?_)
            refine lv_goto (tgt := 149) hx hb dX7_unary_140 (by decide) ?_
            refine lv_iconst (v := 1) hx hb dX7_unary_149 (by decide) ?_
            exact u_zret (v := true) hx hb hr hlocks hP hS hs dX7_unary_150
        · have hs := if_t c4 hs
          refine lv_aload_n hx hb dX7_unary_99 rfl (lv_at hl 2 rfl) ?_
          refine lv_aload_n hx hb dX7_unary_100 rfl (lv_at hl 2 rfl) ?_
          refine lv_iconst (v := 0) hx hb dX7_unary_101 (by decide) ?_
          refine lv_iload_n hx hb dX7_unary_102 rfl (lv_at hl 0 rfl) ?_
          refine lv_iconst (v := 0) hx hb dX7_unary_103 (by decide) ?_
          refine lv_iconst (v := 1) hx hb dX7_unary_104 (by decide) ?_
          refine lv_iload_n hx hb dX7_unary_105 rfl (lv_at hl 1 rfl) ?_
          refine lv_iconst (v := 1) hx hb dX7_unary_106 (by decide) ?_
          refine lv_iconst (v := 0) hx hb dX7_unary_107 (by decide) ?_
          obtain ⟨r3, S8, h8, hs⟩ := bd_e hs
          refine kX7_reckon C tM_X7_167 ⟨Nat.le_of_ble_eq_true rfl, Nat.le_of_ble_eq_true rfl⟩ ⟨Nat.le_of_ble_eq_true rfl, Nat.le_of_ble_eq_true rfl⟩ hK hP hS hl.1 (rest := [.ref (ad 0)]) (Nat.le_of_ble_eq_true rfl) dX7_unary_108 h8 (fun H locs hP hS => ?_)
          refine lv_iload_n hx hb dX7_unary_111 rfl (lv_at hl 1 rfl) ?_
          obtain ⟨S9, h9, hs⟩ := bv_e hs
          refine kX7_give C tM_X7_198 ⟨Nat.le_of_ble_eq_true rfl, Nat.le_of_ble_eq_true rfl⟩ ⟨Nat.le_of_ble_eq_true rfl, Nat.le_of_ble_eq_true rfl⟩ hK hP hS hl.1 (rest := []) (Nat.le_of_ble_eq_true rfl) dX7_unary_112 h9 (fun H locs hP hS => ?_)
          refine lv_goto (tgt := 149) hx hb dX7_unary_115 (by decide) ?_
          refine lv_iconst (v := 1) hx hb dX7_unary_149 (by decide) ?_
          exact u_zret (v := true) hx hb hr hlocks hP hS hs dX7_unary_150
      · have hs := if_t c3 hs
        refine lv_aload_n hx hb dX7_unary_79 rfl (lv_at hl 2 rfl) ?_
        refine lv_iconst (v := 0) hx hb dX7_unary_80 (by decide) ?_
        refine lv_iload_n hx hb dX7_unary_81 rfl (lv_at hl 1 rfl) ?_
        obtain ⟨S10, h10, hs⟩ := bv_e hs
        refine kX7_logic C tM_X7_214 ⟨Nat.le_of_ble_eq_true rfl, Nat.le_of_ble_eq_true rfl⟩ ⟨Nat.le_of_ble_eq_true rfl, Nat.le_of_ble_eq_true rfl⟩ hK hP hS hl.1 (rest := []) (Nat.le_of_ble_eq_true rfl) dX7_unary_82 h10 (fun H locs hP hS => ?_)
        refine lv_aload_n hx hb dX7_unary_85 rfl (lv_at hl 2 rfl) ?_
        refine lv_iconst (v := 0) hx hb dX7_unary_86 (by decide) ?_
        refine lv_iload_n hx hb dX7_unary_87 rfl (lv_at hl 1 rfl) ?_
        obtain ⟨S11, h11, hs⟩ := bv_e hs
        refine kX7_give C tM_X7_198 ⟨Nat.le_of_ble_eq_true rfl, Nat.le_of_ble_eq_true rfl⟩ ⟨Nat.le_of_ble_eq_true rfl, Nat.le_of_ble_eq_true rfl⟩ hK hP hS hl.1 (rest := []) (Nat.le_of_ble_eq_true rfl) dX7_unary_88 h11 (fun H locs hP hS => ?_)
        refine lv_goto (tgt := 149) hx hb dX7_unary_91 (by decide) ?_
        refine lv_iconst (v := 1) hx hb dX7_unary_149 (by decide) ?_
        exact u_zret (v := true) hx hb hr hlocks hP hS hs dX7_unary_150
    · have hs := if_t c2 hs
      refine lv_aload_n hx hb dX7_unary_52 rfl (lv_at hl 2 rfl) ?_
      refine lv_aload_n hx hb dX7_unary_53 rfl (lv_at hl 2 rfl) ?_
      refine lv_iconst (v := 0) hx hb dX7_unary_54 (by decide) ?_
      refine lv_iload_n hx hb dX7_unary_55 rfl (lv_at hl 0 rfl) ?_
      refine lv_aload_n hx hb dX7_unary_56 rfl (lv_at hl 2 rfl) ?_
      obtain ⟨r4, S12, h12, hs⟩ := bd_e hs
      refine kX7_x C tM_X7_171 ⟨Nat.le_of_ble_eq_true rfl, Nat.le_of_ble_eq_true rfl⟩ ⟨Nat.le_of_ble_eq_true rfl, Nat.le_of_ble_eq_true rfl⟩ hK hP hS hl.1 (rest := [.int r2, .int 0, .ref (ad 0), .ref (ad 0)]) (Nat.le_of_ble_eq_true rfl) dX7_unary_57 h12 (fun H locs hP hS => ?_)
      refine lv_iconst (v := 1) hx hb dX7_unary_60 (by decide) ?_
      refine lv_iload_n hx hb dX7_unary_61 rfl (lv_at hl 1 rfl) ?_
      refine lv_iconst (v := 1) hx hb dX7_unary_62 (by decide) ?_
      refine lv_iconst (v := 1) hx hb dX7_unary_63 (by decide) ?_
      obtain ⟨r5, S13, h13, hs⟩ := bd_e hs
      refine kX7_reckon C tM_X7_167 ⟨Nat.le_of_ble_eq_true rfl, Nat.le_of_ble_eq_true rfl⟩ ⟨Nat.le_of_ble_eq_true rfl, Nat.le_of_ble_eq_true rfl⟩ hK hP hS hl.1 (rest := [.ref (ad 0)]) (Nat.le_of_ble_eq_true rfl) dX7_unary_64 h13 (fun H locs hP hS => ?_)
      refine lv_iload_n hx hb dX7_unary_67 rfl (lv_at hl 1 rfl) ?_
      obtain ⟨S14, h14, hs⟩ := bv_e hs
      refine kX7_give C tM_X7_198 ⟨Nat.le_of_ble_eq_true rfl, Nat.le_of_ble_eq_true rfl⟩ ⟨Nat.le_of_ble_eq_true rfl, Nat.le_of_ble_eq_true rfl⟩ hK hP hS hl.1 (rest := []) (Nat.le_of_ble_eq_true rfl) dX7_unary_68 h14 (fun H locs hP hS => ?_)
      refine lv_goto (tgt := 149) hx hb dX7_unary_71 (by decide) ?_
      refine lv_iconst (v := 1) hx hb dX7_unary_149 (by decide) ?_
      exact u_zret (v := true) hx hb hr hlocks hP hS hs dX7_unary_150
  · have hs := if_t c1 hs
    refine lv_iconst (v := 0) hx hb dX7_unary_28 (by decide) ?_
    exact u_zret (v := false) hx hb hr hlocks hP hS hs dX7_unary_29
theorem kX7_unary {p : Program} {l : Launch} {e : Env} {R : Room} {s : State} {m : MethodId} {args : Array Value} {below : List Frame} {meth : Method} {c : Code} {H : Heap} {locs : List Loc} {cells slots : Nat} {Q : State → Prop} {cc : ByteArray} {pc nL : Nat} {ls : Array Slot} {rest : List Value} {D : va_G} {ad : Nat → Nat} {cI cB : ClassId} {en : Nat → Nat} {S : St} {own : String} {index : Nat} {x1 : Int32} {ro : Bool} {So : St} (C : CallFix p m c cc nL s args wG own) (hlk : Cond.methodLink own index yX7_unary ∈ wG) (hR : rmX7_unary.frames + 1 ≤ R.frames ∧ 8 + (4 + 11) + rmX7_unary.locals ≤ R.locals) (hc : cells ≤ R.cells ∧ slots ≤ R.slots) (hK : KM D ad cI cB en s) (hP : va_P D vwCl (wM ad cI cB S) H) (hS : va_S (AX 11 ad s.heap.size) s.heap H locs) (hls : ls.size = nL) (hrest : (rest.map fun v => v.category).sum ≤ 8) (hd : decode cc pc = .ok (.invokevirtual index, 3)) (hs : fX7_unary x1 S = some (ro, So)) (k : ∀ (H : Heap) (locs : List Loc), va_P D vwCl (wM ad cI cB So) H → va_S (AX 11 ad s.heap.size) s.heap H locs → W p l e R s m args below meth c H locs cells slots Q (F0 m (pc + 3) ls (.int (zI ro) :: rest))) : W p l e R s m args below meth c H locs cells slots Q (F0 m pc ls (.int x1 :: .ref (ad 0) :: rest)) :=
  u_callV (n := 1) (mX7_unary l D ad cI cB en S x1 ro So hs) C uK_M (wg_V hlk tI_X7_unary tS_X7_unary tN_X7 tK_X7_unary) rfl rfl rfl (by decide +kernel) hR rfl (va_recv hK.1 hP (ci := 6) (q0 := 0) rfl rfl) hK hP hS hls hrest hd hc rfl k
def fX7_statusMove (x1 : Int32) (S : St) : Option (Bool × St) :=
    (lt (((S.1 5) &&& 63) : Int32) fun v1 => (jn (fun (v2 : Int32) => (bd (fX7_fits v1 v2 2 S) fun b1 S1 => (if (zI b1) = 0 then (some (false, S1))
    else (if x1 = 2 then (some (false, S1))
    else (if x1 = 6 then (bd (fX7_isUser S1) fun b2 S6 => (if (zI b2) = 0 then (bv (fX7_operand v1 2 S6) fun S7 => (if x1 = 0 then (bv (fX7_give (S7.1 2) 2 S7) fun S10 => (some (true, S10)))
    else (bd (fX7_take 2 S7) fun r2 S8 => (jn (fun (v4 : Int32) => (bv (fX7_putSr v4 S8) fun S9 => (some (true, S9)))) fun K3 =>
    (if x1 = 4 then (K3 (((S8.1 2) &&& (-256 : Int32)) ||| (r2 &&& 255)))
    else (K3 r2))))))
    else (some (true, S6))))
    else (bv (fX7_operand v1 2 S1) fun S2 => (if x1 = 0 then (bv (fX7_give (S2.1 2) 2 S2) fun S5 => (some (true, S5)))
    else (bd (fX7_take 2 S2) fun r1 S3 => (jn (fun (v3 : Int32) => (bv (fX7_putSr v3 S3) fun S4 => (some (true, S4)))) fun K2 =>
    (if x1 = 4 then (K2 (((S3.1 2) &&& (-256 : Int32)) ||| (r1 &&& 255)))
    else (K2 r1))))))))))) fun K1 =>
    (if x1 = 0 then (K1 4)
    else (K1 1))))
abbrev rmX7_statusMove : Room := { frames := 6, cells := 0, slots := 0, locals := 138 }
set_option maxRecDepth 100000 in
set_option maxHeartbeats 4000000 in
theorem mX7_statusMove (l : Launch) (D : va_G) (ad : Nat → Nat) (cI cB : ClassId) (en : Nat → Nat) (S : St) (x1 : Int32) (ro : Bool) (So : St) (hs : fX7_statusMove x1 S = some (ro, So)) : uM l yX7_statusMove (wg yX7_statusMove cX7_statusMove 4 (some .boolean)) rmX7_statusMove (KM D ad cI cB en) D (wM ad cI cB) (AX 11 ad) [.ref (ad 0), .int x1] S (some (.int (zI ro)), So) := by
  refine uM_start (by decide) rfl ?_
  intro p e s m below meth c hx hb hr hlocks hml hown hts hK hP
  have hT : ∀ w ∈ wG, w.before _ s = true := fun w h => hts w (List.mem_cons_of_mem _ h)
  have hS : va_S (AX 11 ad s.heap.size) s.heap s.heap [] := va_S.rf
  have hown : s.vm.findClass RX7 = some m.cls := hown
  have C : CallFix p m c cX7_statusMove 4 s _ wG RX7 := ⟨hx, hb, hml, hown, hT⟩
  have hl := lv_entry ([.ref (ad 0), .int x1]) (n := 4) (Nat.le_of_ble_eq_true rfl)
  rw [lg_entry_eq]
  generalize (lg_sl ([.ref (ad 0), .int x1]) ++ List.replicate (4 - (lg_sl ([.ref (ad 0), .int x1])).length) Slot.unset).toArray = ls at hl ⊢
  have hl : lv_has ls 4 [(0, .ref (ad 0)), (1, .int x1)] := hl
  unfold fX7_statusMove at hs
  refine lv_aload_n hx hb dX7_statusMove_0 rfl (lv_at hl 0 rfl) ?_
  refine gM_X7_op hx hb hT hown hK hP (hT _ tF_X7_174) dX7_statusMove_1 ?_
  refine lv_bipush (v := 63) hx hb dX7_statusMove_4 (by decide) ?_
  refine lv_iand hx hb dX7_statusMove_6 ?_
  obtain ⟨v1, h1, hs⟩ := lt_e hs
  refine u_top h1 ?_
  refine lv_istore_n (lv' := [(2, .int v1), (0, .ref (ad 0)), (1, .int x1)]) hx hb dX7_statusMove_7 rfl hl (by decide) rfl (fun ls hl => ?_)
  refine lv_iload_n hx hb dX7_statusMove_8 rfl (lv_at hl 0 rfl) ?_
  refine lv_iload_n hx hb dX7_statusMove_9 rfl (lv_at hl 2 rfl) ?_
  refine jn_e hs (fun K1 => ∀ (v2 : Int32) (H : Heap) (locs : List Loc) (ls : Array Slot), lv_has ls 4 [(2, .int v1), (0, .ref (ad 0)), (1, .int x1)] → va_P D vwCl (wM ad cI cB S) H → va_S (AX 11 ad s.heap.size) s.heap H locs → K1 v2 = some (ro, So) → W p l e rmX7_statusMove s m ([.ref (ad 0), .int x1] : List Value).toArray below meth c H locs 0 0 (MQ below (uQ D (wM ad cI cB) (some (.int (zI ro)), So) (AX 11 ad s.heap.size)) ([.ref (ad 0), .int x1] : List Value).toArray s 0 0 (AX 11 ad s.heap.size)) (F0 m 18 ls [.int v2, .int v1])) ?_ (fun K1 J1 hs => ?_)
  · intro v2 H locs ls hl hP hS hs
    refine lv_iconst (v := 2) hx hb dX7_statusMove_18 (by decide) ?_
    obtain ⟨b1, S1, h2, hs⟩ := bd_e hs
    refine kX7_fits C tM_X7_188 ⟨Nat.le_of_ble_eq_true rfl, Nat.le_of_ble_eq_true rfl⟩ ⟨Nat.le_of_ble_eq_true rfl, Nat.le_of_ble_eq_true rfl⟩ hK hP hS hl.1 (rest := []) (Nat.le_of_ble_eq_true rfl) dX7_statusMove_19 h2 (fun H locs hP hS => ?_)
    refine lv_if_eq (tgt := 30) hx hb dX7_statusMove_22 (by decide) (fun c1 => ?_) (fun c1 => ?_)
    · have hs := if_t c1 hs
      refine lv_iconst (v := 0) hx hb dX7_statusMove_30 (by decide) ?_
      exact u_zret (v := false) hx hb hr hlocks hP hS hs dX7_statusMove_31
    · have hs := if_f c1 hs
      refine lv_iload_n hx hb dX7_statusMove_25 rfl (lv_at hl 2 rfl) ?_
      refine lv_iconst (v := 2) hx hb dX7_statusMove_26 (by decide) ?_
      refine lv_icmp_ne (tgt := 32) hx hb dX7_statusMove_27 (by decide) (fun c2 => ?_) (fun c2 => ?_)
      · have hs := if_f c2 hs
        refine lv_iload_n hx hb dX7_statusMove_32 rfl (lv_at hl 2 rfl) ?_
        refine lv_bipush (v := 6) hx hb dX7_statusMove_33 (by decide) ?_
        refine lv_icmp_ne (tgt := 47) hx hb dX7_statusMove_35 (by decide) (fun c3 => ?_) (fun c3 => ?_)
        · have hs := if_f c3 hs
          refine lv_aload_n hx hb dX7_statusMove_47 rfl (lv_at hl 1 rfl) ?_
          refine lv_iload_n hx hb dX7_statusMove_48 rfl (lv_at hl 0 rfl) ?_
          refine lv_iconst (v := 2) hx hb dX7_statusMove_49 (by decide) ?_
          obtain ⟨S2, h3, hs⟩ := bv_e hs
          refine kX7_operand C tM_X7_192 ⟨Nat.le_of_ble_eq_true rfl, Nat.le_of_ble_eq_true rfl⟩ ⟨Nat.le_of_ble_eq_true rfl, Nat.le_of_ble_eq_true rfl⟩ hK hP hS hl.1 (rest := []) (Nat.le_of_ble_eq_true rfl) dX7_statusMove_50 h3 (fun H locs hP hS => ?_)
          refine lv_iload_n hx hb dX7_statusMove_53 rfl (lv_at hl 2 rfl) ?_
          refine lv_if_ne (tgt := 68) hx hb dX7_statusMove_54 (by decide) (fun c4 => ?_) (fun c4 => ?_)
          · have hs := if_f c4 hs
            refine lv_aload_n hx hb dX7_statusMove_68 rfl (lv_at hl 1 rfl) ?_
            refine lv_iconst (v := 2) hx hb dX7_statusMove_69 (by decide) ?_
            obtain ⟨r1, S3, h4, hs⟩ := bd_e hs
            refine kX7_take C tM_X7_195 ⟨Nat.le_of_ble_eq_true rfl, Nat.le_of_ble_eq_true rfl⟩ ⟨Nat.le_of_ble_eq_true rfl, Nat.le_of_ble_eq_true rfl⟩ hK hP hS hl.1 (rest := []) (Nat.le_of_ble_eq_true rfl) dX7_statusMove_70 h4 (fun H locs hP hS => ?_)
            refine lv_istore_n (lv' := [(3, .int r1), (2, .int v1), (0, .ref (ad 0)), (1, .int x1)]) hx hb dX7_statusMove_73 rfl hl (by decide) rfl (fun ls hl => ?_)
            refine lv_aload_n hx hb dX7_statusMove_74 rfl (lv_at hl 2 rfl) ?_
            refine lv_iload_n hx hb dX7_statusMove_75 rfl (lv_at hl 3 rfl) ?_
            refine lv_iconst (v := 4) hx hb dX7_statusMove_76 (by decide) ?_
            refine jn_e hs (fun K2 => ∀ (v3 : Int32) (H : Heap) (locs : List Loc) (ls : Array Slot), lv_has ls 4 [] → va_P D vwCl (wM ad cI cB S3) H → va_S (AX 11 ad s.heap.size) s.heap H locs → K2 v3 = some (ro, So) → W p l e rmX7_statusMove s m ([.ref (ad 0), .int x1] : List Value).toArray below meth c H locs 0 0 (MQ below (uQ D (wM ad cI cB) (some (.int (zI ro)), So) (AX 11 ad s.heap.size)) ([.ref (ad 0), .int x1] : List Value).toArray s 0 0 (AX 11 ad s.heap.size)) (F0 m 98 ls [.int v3, .ref (ad 0)])) ?_ (fun K2 J2 hs => ?_)
            · intro v3 H locs ls hl hP hS hs
              obtain ⟨S4, h5, hs⟩ := bv_e hs
              refine kX7_putSr C tM_X7_184 ⟨Nat.le_of_ble_eq_true rfl, Nat.le_of_ble_eq_true rfl⟩ ⟨Nat.le_of_ble_eq_true rfl, Nat.le_of_ble_eq_true rfl⟩ hK hP hS hl.1 (rest := []) (Nat.le_of_ble_eq_true rfl) dX7_statusMove_98 h5 (fun H locs hP hS => ?_)
              refine lv_iconst (v := 1) hx hb dX7_statusMove_101 (by decide) ?_
              exact u_zret (v := true) hx hb hr hlocks hP hS hs dX7_statusMove_102
            ·
              refine lv_icmp_ne (tgt := 97) hx hb dX7_statusMove_77 (by decide) (fun c5 => ?_) (fun c5 => ?_)
              · have hs := if_f c5 hs
                refine lv_iload_n hx hb dX7_statusMove_97 rfl (lv_at hl 0 rfl) ?_
                exact J2 r1 _ _ _ (lv_sub hl [] rfl) hP hS hs
              · have hs := if_t c5 hs
                refine lv_aload_n hx hb dX7_statusMove_80 rfl (lv_at hl 2 rfl) ?_
                refine gM_X7_sr hx hb hT hown hK hP (hT _ tF_X7_50) dX7_statusMove_81 ?_
                refine lv_sipush (v := (-256 : Int32)) hx hb dX7_statusMove_84 (by decide) ?_
                refine lv_iand hx hb dX7_statusMove_87 ?_
                refine lv_iload_n hx hb dX7_statusMove_88 rfl (lv_at hl 0 rfl) ?_
                refine lv_sipush (v := 255) hx hb dX7_statusMove_89 (by decide) ?_
                refine lv_iand hx hb dX7_statusMove_92 ?_
                refine lv_ior hx hb dX7_statusMove_93 ?_
                refine lv_goto (tgt := 98) hx hb dX7_statusMove_94 (by decide) ?_
                exact J2 (((S3.1 2) &&& (-256 : Int32)) ||| (r1 &&& 255)) _ _ _ (lv_sub hl [] rfl) hP hS hs
          · have hs := if_t c4 hs
            refine lv_aload_n hx hb dX7_statusMove_57 rfl (lv_at hl 1 rfl) ?_
            refine lv_aload_n hx hb dX7_statusMove_58 rfl (lv_at hl 1 rfl) ?_
            refine gM_X7_sr hx hb hT hown hK hP (hT _ tF_X7_50) dX7_statusMove_59 ?_
            refine lv_iconst (v := 2) hx hb dX7_statusMove_62 (by decide) ?_
            obtain ⟨S5, h6, hs⟩ := bv_e hs
            refine kX7_give C tM_X7_198 ⟨Nat.le_of_ble_eq_true rfl, Nat.le_of_ble_eq_true rfl⟩ ⟨Nat.le_of_ble_eq_true rfl, Nat.le_of_ble_eq_true rfl⟩ hK hP hS hl.1 (rest := []) (Nat.le_of_ble_eq_true rfl) dX7_statusMove_63 h6 (fun H locs hP hS => ?_)
            refine lv_iconst (v := 1) hx hb dX7_statusMove_66 (by decide) ?_
            exact u_zret (v := true) hx hb hr hlocks hP hS hs dX7_statusMove_67
        · have hs := if_t c3 hs
          refine lv_aload_n hx hb dX7_statusMove_38 rfl (lv_at hl 1 rfl) ?_
          obtain ⟨b2, S6, h7, hs⟩ := bd_e hs
          refine kX7_isUser C tM_X7_177 ⟨Nat.le_of_ble_eq_true rfl, Nat.le_of_ble_eq_true rfl⟩ ⟨Nat.le_of_ble_eq_true rfl, Nat.le_of_ble_eq_true rfl⟩ hK hP hS hl.1 (rest := []) (Nat.le_of_ble_eq_true rfl) dX7_statusMove_39 h7 (fun H locs hP hS => ?_)
          refine lv_if_eq (tgt := 47) hx hb dX7_statusMove_42 (by decide) (fun c6 => ?_) (fun c6 => ?_)
          · have hs := if_t c6 hs
            refine lv_aload_n hx hb dX7_statusMove_47 rfl (lv_at hl 1 rfl) ?_
            refine lv_iload_n hx hb dX7_statusMove_48 rfl (lv_at hl 0 rfl) ?_
            refine lv_iconst (v := 2) hx hb dX7_statusMove_49 (by decide) ?_
            obtain ⟨S7, h8, hs⟩ := bv_e hs
            refine kX7_operand C tM_X7_192 ⟨Nat.le_of_ble_eq_true rfl, Nat.le_of_ble_eq_true rfl⟩ ⟨Nat.le_of_ble_eq_true rfl, Nat.le_of_ble_eq_true rfl⟩ hK hP hS hl.1 (rest := []) (Nat.le_of_ble_eq_true rfl) dX7_statusMove_50 h8 (fun H locs hP hS => ?_)
            refine lv_iload_n hx hb dX7_statusMove_53 rfl (lv_at hl 2 rfl) ?_
            refine lv_if_ne (tgt := 68) hx hb dX7_statusMove_54 (by decide) (fun c7 => ?_) (fun c7 => ?_)
            · have hs := if_f c7 hs
              refine lv_aload_n hx hb dX7_statusMove_68 rfl (lv_at hl 1 rfl) ?_
              refine lv_iconst (v := 2) hx hb dX7_statusMove_69 (by decide) ?_
              obtain ⟨r2, S8, h9, hs⟩ := bd_e hs
              refine kX7_take C tM_X7_195 ⟨Nat.le_of_ble_eq_true rfl, Nat.le_of_ble_eq_true rfl⟩ ⟨Nat.le_of_ble_eq_true rfl, Nat.le_of_ble_eq_true rfl⟩ hK hP hS hl.1 (rest := []) (Nat.le_of_ble_eq_true rfl) dX7_statusMove_70 h9 (fun H locs hP hS => ?_)
              refine lv_istore_n (lv' := [(3, .int r2), (2, .int v1), (0, .ref (ad 0)), (1, .int x1)]) hx hb dX7_statusMove_73 rfl hl (by decide) rfl (fun ls hl => ?_)
              refine lv_aload_n hx hb dX7_statusMove_74 rfl (lv_at hl 2 rfl) ?_
              refine lv_iload_n hx hb dX7_statusMove_75 rfl (lv_at hl 3 rfl) ?_
              refine lv_iconst (v := 4) hx hb dX7_statusMove_76 (by decide) ?_
              refine jn_e hs (fun K3 => ∀ (v4 : Int32) (H : Heap) (locs : List Loc) (ls : Array Slot), lv_has ls 4 [] → va_P D vwCl (wM ad cI cB S8) H → va_S (AX 11 ad s.heap.size) s.heap H locs → K3 v4 = some (ro, So) → W p l e rmX7_statusMove s m ([.ref (ad 0), .int x1] : List Value).toArray below meth c H locs 0 0 (MQ below (uQ D (wM ad cI cB) (some (.int (zI ro)), So) (AX 11 ad s.heap.size)) ([.ref (ad 0), .int x1] : List Value).toArray s 0 0 (AX 11 ad s.heap.size)) (F0 m 98 ls [.int v4, .ref (ad 0)])) ?_ (fun K3 J3 hs => ?_)
              · intro v4 H locs ls hl hP hS hs
                obtain ⟨S9, h10, hs⟩ := bv_e hs
                refine kX7_putSr C tM_X7_184 ⟨Nat.le_of_ble_eq_true rfl, Nat.le_of_ble_eq_true rfl⟩ ⟨Nat.le_of_ble_eq_true rfl, Nat.le_of_ble_eq_true rfl⟩ hK hP hS hl.1 (rest := []) (Nat.le_of_ble_eq_true rfl) dX7_statusMove_98 h10 (fun H locs hP hS => ?_)
                refine lv_iconst (v := 1) hx hb dX7_statusMove_101 (by decide) ?_
                exact u_zret (v := true) hx hb hr hlocks hP hS hs dX7_statusMove_102
              ·
                refine lv_icmp_ne (tgt := 97) hx hb dX7_statusMove_77 (by decide) (fun c8 => ?_) (fun c8 => ?_)
                · have hs := if_f c8 hs
                  refine lv_iload_n hx hb dX7_statusMove_97 rfl (lv_at hl 0 rfl) ?_
                  exact J3 r2 _ _ _ (lv_sub hl [] rfl) hP hS hs
                · have hs := if_t c8 hs
                  refine lv_aload_n hx hb dX7_statusMove_80 rfl (lv_at hl 2 rfl) ?_
                  refine gM_X7_sr hx hb hT hown hK hP (hT _ tF_X7_50) dX7_statusMove_81 ?_
                  refine lv_sipush (v := (-256 : Int32)) hx hb dX7_statusMove_84 (by decide) ?_
                  refine lv_iand hx hb dX7_statusMove_87 ?_
                  refine lv_iload_n hx hb dX7_statusMove_88 rfl (lv_at hl 0 rfl) ?_
                  refine lv_sipush (v := 255) hx hb dX7_statusMove_89 (by decide) ?_
                  refine lv_iand hx hb dX7_statusMove_92 ?_
                  refine lv_ior hx hb dX7_statusMove_93 ?_
                  refine lv_goto (tgt := 98) hx hb dX7_statusMove_94 (by decide) ?_
                  exact J3 (((S8.1 2) &&& (-256 : Int32)) ||| (r2 &&& 255)) _ _ _ (lv_sub hl [] rfl) hP hS hs
            · have hs := if_t c7 hs
              refine lv_aload_n hx hb dX7_statusMove_57 rfl (lv_at hl 1 rfl) ?_
              refine lv_aload_n hx hb dX7_statusMove_58 rfl (lv_at hl 1 rfl) ?_
              refine gM_X7_sr hx hb hT hown hK hP (hT _ tF_X7_50) dX7_statusMove_59 ?_
              refine lv_iconst (v := 2) hx hb dX7_statusMove_62 (by decide) ?_
              obtain ⟨S10, h11, hs⟩ := bv_e hs
              refine kX7_give C tM_X7_198 ⟨Nat.le_of_ble_eq_true rfl, Nat.le_of_ble_eq_true rfl⟩ ⟨Nat.le_of_ble_eq_true rfl, Nat.le_of_ble_eq_true rfl⟩ hK hP hS hl.1 (rest := []) (Nat.le_of_ble_eq_true rfl) dX7_statusMove_63 h11 (fun H locs hP hS => ?_)
              refine lv_iconst (v := 1) hx hb dX7_statusMove_66 (by decide) ?_
              exact u_zret (v := true) hx hb hr hlocks hP hS hs dX7_statusMove_67
          · have hs := if_f c6 hs
            refine lv_iconst (v := 1) hx hb dX7_statusMove_45 (by decide) ?_
            exact u_zret (v := true) hx hb hr hlocks hP hS hs dX7_statusMove_46
      · have hs := if_t c2 hs
        refine lv_iconst (v := 0) hx hb dX7_statusMove_30 (by decide) ?_
        exact u_zret (v := false) hx hb hr hlocks hP hS hs dX7_statusMove_31
  ·
    refine lv_if_ne (tgt := 17) hx hb dX7_statusMove_10 (by decide) (fun c9 => ?_) (fun c9 => ?_)
    · have hs := if_f c9 hs
      refine lv_iconst (v := 1) hx hb dX7_statusMove_17 (by decide) ?_
      exact J1 1 _ _ _ (lv_sub hl [0, 1, 2] rfl) hP hS hs
    · have hs := if_t c9 hs
      refine lv_iconst (v := 4) hx hb dX7_statusMove_13 (by decide) ?_
      refine lv_goto (tgt := 18) hx hb dX7_statusMove_14 (by decide) ?_
      exact J1 4 _ _ _ (lv_sub hl [0, 1, 2] rfl) hP hS hs
theorem kX7_statusMove {p : Program} {l : Launch} {e : Env} {R : Room} {s : State} {m : MethodId} {args : Array Value} {below : List Frame} {meth : Method} {c : Code} {H : Heap} {locs : List Loc} {cells slots : Nat} {Q : State → Prop} {cc : ByteArray} {pc nL : Nat} {ls : Array Slot} {rest : List Value} {D : va_G} {ad : Nat → Nat} {cI cB : ClassId} {en : Nat → Nat} {S : St} {own : String} {index : Nat} {x1 : Int32} {ro : Bool} {So : St} (C : CallFix p m c cc nL s args wG own) (hlk : Cond.methodLink own index yX7_statusMove ∈ wG) (hR : rmX7_statusMove.frames + 1 ≤ R.frames ∧ 8 + (4 + 11) + rmX7_statusMove.locals ≤ R.locals) (hc : cells ≤ R.cells ∧ slots ≤ R.slots) (hK : KM D ad cI cB en s) (hP : va_P D vwCl (wM ad cI cB S) H) (hS : va_S (AX 11 ad s.heap.size) s.heap H locs) (hls : ls.size = nL) (hrest : (rest.map fun v => v.category).sum ≤ 8) (hd : decode cc pc = .ok (.invokevirtual index, 3)) (hs : fX7_statusMove x1 S = some (ro, So)) (k : ∀ (H : Heap) (locs : List Loc), va_P D vwCl (wM ad cI cB So) H → va_S (AX 11 ad s.heap.size) s.heap H locs → W p l e R s m args below meth c H locs cells slots Q (F0 m (pc + 3) ls (.int (zI ro) :: rest))) : W p l e R s m args below meth c H locs cells slots Q (F0 m pc ls (.int x1 :: .ref (ad 0) :: rest)) :=
  u_callV (n := 1) (mX7_statusMove l D ad cI cB en S x1 ro So hs) C uK_M (wg_V hlk tI_X7_statusMove tS_X7_statusMove tN_X7 tK_X7_statusMove) rfl rfl rfl (by decide +kernel) hR rfl (va_recv hK.1 hP (ci := 6) (q0 := 0) rfl rfl) hK hP hS hls hrest hd hc rfl k
def fX7_toMemory_b1 (v1 : Int32) (b1 : Bool) (x1 : Int32) (x2 : Int32) (k1 : Int32 → Int32 → St → Option St) (v3 : Int32) (v4 : Int32) (S2 : St) : Option St :=
    (if 16 ≤ v3 then (if (zI b1) = 0 then (some S2)
    else (if (S2.1 6) = 0 then (bv (fX7_setA v1 v4 S2) fun S3 => (some S3))
    else (some S2)))
    else (jn (fun (v5 : Int32) (S4 : St) => (lt (v3 + 1) fun v6 => (k1 v6 v5 S4))) fun K3 =>
    (if ((x2 >>> (v3 &&& 31)) &&& 1) = 1 then (jn (fun (v7 : Int32) => (jn (fun (v8 : Int32) (S5 : St) => (jn (fun (v9 : Int32) => (bv (fX7_set v9 v8 x1 S5) fun S6 => (jn (fun (v10 : Int32) => (K3 v10 S6)) fun K7 =>
    (if (zI b1) = 0 then (K7 (v9 + x1))
    else (K7 v9))))) fun K6 =>
    (if (zI b1) = 0 then (K6 v4)
    else (K6 (v4 - x1))))) fun K5 =>
    (if 8 ≤ v7 then (bd (fX7_getA (v7 - 8) S2) fun r1 S7 => (K5 r1 S7))
    else (gd (ixo v7 8 = true) (K5 (S2.2.2 1 v7.toNatClampNeg) S2))))) fun K4 =>
    (if (zI b1) = 0 then (K4 v3)
    else (K4 (15 - v3))))
    else (K3 v4 S2))))
def fX7_toMemory_l1 (v1 : Int32) (b1 : Bool) (x1 : Int32) (x2 : Int32) : Nat → Int32 → Int32 → St → Option St
  | 0 => fun _ _ _ => none
  | n + 1 => fX7_toMemory_b1 v1 b1 x1 x2 (fX7_toMemory_l1 v1 b1 x1 x2 n)
def fX7_toMemory (x1 : Int32) (x2 : Int32) (S : St) : Option St :=
    (jn (fun (b1 : Bool) => (lt (((S.1 5) &&& 7) : Int32) fun v1 => (jn (fun (v2 : Int32) (S1 : St) => (fX7_toMemory_l1 v1 b1 x1 x2 17 0 v2 S1)) fun K2 =>
    (if (zI b1) = 0 then (K2 (S.1 14) S)
    else (bd (fX7_getA v1 S) fun r2 S8 => (K2 r2 S8)))))) fun K1 =>
    (if (((S.1 5) >>> ((3 : Int32) &&& 31)) &&& 7) = 4 then (K1 true)
    else (K1 false)))
abbrev rmX7_toMemory : Room := { frames := 3, cells := 0, slots := 0, locals := 69 }
set_option maxRecDepth 100000 in
set_option maxHeartbeats 4000000 in
theorem mX7_toMemory (l : Launch) (D : va_G) (ad : Nat → Nat) (cI cB : ClassId) (en : Nat → Nat) (S : St) (x1 : Int32) (x2 : Int32) (So : St) (hs : fX7_toMemory x1 x2 S = some So) : uM l yX7_toMemory (wg yX7_toMemory cX7_toMemory 9 none) rmX7_toMemory (KM D ad cI cB en) D (wM ad cI cB) (AX 11 ad) [.ref (ad 0), .int x1, .int x2] S (none, So) := by
  refine uM_start (by decide) rfl ?_
  intro p e s m below meth c hx hb hr hlocks hml hown hts hK hP
  have hT : ∀ w ∈ wG, w.before _ s = true := fun w h => hts w (List.mem_cons_of_mem _ h)
  have hS : va_S (AX 11 ad s.heap.size) s.heap s.heap [] := va_S.rf
  have hown : s.vm.findClass RX7 = some m.cls := hown
  have C : CallFix p m c cX7_toMemory 9 s _ wG RX7 := ⟨hx, hb, hml, hown, hT⟩
  have hl := lv_entry ([.ref (ad 0), .int x1, .int x2]) (n := 9) (Nat.le_of_ble_eq_true rfl)
  rw [lg_entry_eq]
  generalize (lg_sl ([.ref (ad 0), .int x1, .int x2]) ++ List.replicate (9 - (lg_sl ([.ref (ad 0), .int x1, .int x2])).length) Slot.unset).toArray = ls at hl ⊢
  have hl : lv_has ls 9 [(0, .ref (ad 0)), (1, .int x1), (2, .int x2)] := hl
  unfold fX7_toMemory at hs
  refine lv_aload_n hx hb dX7_toMemory_0 rfl (lv_at hl 0 rfl) ?_
  refine gM_X7_op hx hb hT hown hK hP (hT _ tF_X7_174) dX7_toMemory_1 ?_
  refine lv_iconst (v := 3) hx hb dX7_toMemory_4 (by decide) ?_
  refine lv_ishr hx hb dX7_toMemory_5 ?_
  refine lv_bipush (v := 7) hx hb dX7_toMemory_6 (by decide) ?_
  refine lv_iand hx hb dX7_toMemory_8 ?_
  refine lv_iconst (v := 4) hx hb dX7_toMemory_9 (by decide) ?_
  refine jn_e hs (fun K1 => ∀ (b1 : Bool) (H : Heap) (locs : List Loc) (ls : Array Slot), lv_has ls 9 [(0, .ref (ad 0)), (1, .int x1), (2, .int x2)] → va_P D vwCl (wM ad cI cB S) H → va_S (AX 11 ad s.heap.size) s.heap H locs → K1 b1 = some So → W p l e rmX7_toMemory s m ([.ref (ad 0), .int x1, .int x2] : List Value).toArray below meth c H locs 0 0 (MQ below (uQ D (wM ad cI cB) (none, So) (AX 11 ad s.heap.size)) ([.ref (ad 0), .int x1, .int x2] : List Value).toArray s 0 0 (AX 11 ad s.heap.size)) (F0 m 18 ls [.int (zI b1)])) ?_ (fun K1 J1 hs => ?_)
  · intro b1 H locs ls hl hP hS hs
    refine lv_istore_n (lv' := [(3, .int (zI b1)), (0, .ref (ad 0)), (1, .int x1), (2, .int x2)]) hx hb dX7_toMemory_18 rfl hl (by decide) rfl (fun ls hl => ?_)
    refine lv_aload_n hx hb dX7_toMemory_19 rfl (lv_at hl 1 rfl) ?_
    refine gM_X7_op hx hb hT hown hK hP (hT _ tF_X7_174) dX7_toMemory_20 ?_
    refine lv_bipush (v := 7) hx hb dX7_toMemory_23 (by decide) ?_
    refine lv_iand hx hb dX7_toMemory_25 ?_
    obtain ⟨v1, h1, hs⟩ := lt_e hs
    refine u_top h1 ?_
    refine lv_istore (lv' := [(4, .int v1), (3, .int (zI b1)), (0, .ref (ad 0)), (1, .int x1), (2, .int x2)]) hx hb dX7_toMemory_26 hl (by decide) rfl (fun ls hl => ?_)
    refine lv_iload_n hx hb dX7_toMemory_28 rfl (lv_at hl 1 rfl) ?_
    refine jn_e hs (fun K2 => ∀ (v2 : Int32) (S1 : St) (H : Heap) (locs : List Loc) (ls : Array Slot), lv_has ls 9 [(4, .int v1), (3, .int (zI b1)), (0, .ref (ad 0)), (1, .int x1), (2, .int x2)] → va_P D vwCl (wM ad cI cB S1) H → va_S (AX 11 ad s.heap.size) s.heap H locs → K2 v2 S1 = some So → W p l e rmX7_toMemory s m ([.ref (ad 0), .int x1, .int x2] : List Value).toArray below meth c H locs 0 0 (MQ below (uQ D (wM ad cI cB) (none, So) (AX 11 ad s.heap.size)) ([.ref (ad 0), .int x1, .int x2] : List Value).toArray s 0 0 (AX 11 ad s.heap.size)) (F0 m 45 ls [.int v2])) ?_ (fun K2 J2 hs => ?_)
    · intro v2 S1 H locs ls hl hP hS hs
      refine lv_istore (lv' := [(5, .int v2), (4, .int v1), (3, .int (zI b1)), (0, .ref (ad 0)), (1, .int x1), (2, .int x2)]) hx hb dX7_toMemory_45 hl (by decide) rfl (fun ls hl => ?_)
      refine lv_iconst (v := 0) hx hb dX7_toMemory_47 (by decide) ?_
      refine lv_istore (lv' := [(6, .int 0), (5, .int v2), (4, .int v1), (3, .int (zI b1)), (0, .ref (ad 0)), (1, .int x1), (2, .int x2)]) hx hb dX7_toMemory_48 hl (by decide) rfl (fun ls hl => ?_)
      have L1 : ∀ (n : Nat) (v3 : Int32) (v4 : Int32) (S2 : St) (H : Heap) (locs : List Loc) (ls : Array Slot), lv_has ls 9 [(6, .int v3), (5, .int v4), (4, .int v1), (3, .int (zI b1)), (0, .ref (ad 0)), (1, .int x1), (2, .int x2)] → va_P D vwCl (wM ad cI cB S2) H → va_S (AX 11 ad s.heap.size) s.heap H locs → fX7_toMemory_l1 v1 b1 x1 x2 n v3 v4 S2 = some So → W p l e rmX7_toMemory s m ([.ref (ad 0), .int x1, .int x2] : List Value).toArray below meth c H locs 0 0 (MQ below (uQ D (wM ad cI cB) (none, So) (AX 11 ad s.heap.size)) ([.ref (ad 0), .int x1, .int x2] : List Value).toArray s 0 0 (AX 11 ad s.heap.size)) (F0 m 50 ls []) := by
        intro n
        induction n with
        | zero => intro v3 v4 S2 H locs ls hl hP hS hs; cases hs
        | succ n ih =>
          intro v3 v4 S2 H locs ls hl hP hS hs
          have hs : fX7_toMemory_b1 v1 b1 x1 x2 (fX7_toMemory_l1 v1 b1 x1 x2 n) v3 v4 S2 = some So := hs
          unfold fX7_toMemory_b1 at hs
          refine lv_iload hx hb dX7_toMemory_50 (lv_at hl 0 rfl) ?_
          refine lv_bipush (v := 16) hx hb dX7_toMemory_52 (by decide) ?_
          refine lv_icmp_ge (tgt := 156) hx hb dX7_toMemory_54 (by decide) (fun c1 => ?_) (fun c1 => ?_)
          · have hs := if_t c1 hs
            refine lv_iload_n hx hb dX7_toMemory_156 rfl (lv_at hl 3 rfl) ?_
            refine lv_if_eq (tgt := 175) hx hb dX7_toMemory_157 (by decide) (fun c2 => ?_) (fun c2 => ?_)
            · have hs := if_t c2 hs
              exact u_vret hx hb hr hlocks hP hS hs dX7_toMemory_175
            · have hs := if_f c2 hs
              refine lv_aload_n hx hb dX7_toMemory_160 rfl (lv_at hl 4 rfl) ?_
              refine gM_X7_trouble hx hb hT hown hK hP (hT _ tF_X7_100) dX7_toMemory_161 ?_
              refine lv_if_ne (tgt := 175) hx hb dX7_toMemory_164 (by decide) (fun c3 => ?_) (fun c3 => ?_)
              · have hs := if_f c3 hs
                exact u_vret hx hb hr hlocks hP hS hs dX7_toMemory_175
              · have hs := if_t c3 hs
                refine lv_aload_n hx hb dX7_toMemory_167 rfl (lv_at hl 4 rfl) ?_
                refine lv_iload hx hb dX7_toMemory_168 (lv_at hl 2 rfl) ?_
                refine lv_iload hx hb dX7_toMemory_170 (lv_at hl 1 rfl) ?_
                obtain ⟨S3, h2, hs⟩ := bv_e hs
                refine kX7_setA C tM_X7_74 ⟨Nat.le_of_ble_eq_true rfl, Nat.le_of_ble_eq_true rfl⟩ ⟨Nat.le_of_ble_eq_true rfl, Nat.le_of_ble_eq_true rfl⟩ hK hP hS hl.1 (rest := []) (Nat.le_of_ble_eq_true rfl) dX7_toMemory_172 h2 (fun H locs hP hS => ?_)
                exact u_vret hx hb hr hlocks hP hS hs dX7_toMemory_175
          · have hs := if_f c1 hs
            refine lv_iload_n hx hb dX7_toMemory_57 rfl (lv_at hl 6 rfl) ?_
            refine lv_iload hx hb dX7_toMemory_58 (lv_at hl 0 rfl) ?_
            refine lv_ishr hx hb dX7_toMemory_60 ?_
            refine lv_iconst (v := 1) hx hb dX7_toMemory_61 (by decide) ?_
            refine lv_iand hx hb dX7_toMemory_62 ?_
            refine lv_iconst (v := 1) hx hb dX7_toMemory_63 (by decide) ?_
            refine jn_e hs (fun K3 => ∀ (v5 : Int32) (S4 : St) (H : Heap) (locs : List Loc) (ls : Array Slot), lv_has ls 9 [(6, .int v3), (5, .int v5), (4, .int v1), (3, .int (zI b1)), (0, .ref (ad 0)), (1, .int x1), (2, .int x2)] → va_P D vwCl (wM ad cI cB S4) H → va_S (AX 11 ad s.heap.size) s.heap H locs → K3 v5 S4 = some So → W p l e rmX7_toMemory s m ([.ref (ad 0), .int x1, .int x2] : List Value).toArray below meth c H locs 0 0 (MQ below (uQ D (wM ad cI cB) (none, So) (AX 11 ad s.heap.size)) ([.ref (ad 0), .int x1, .int x2] : List Value).toArray s 0 0 (AX 11 ad s.heap.size)) (F0 m 150 ls [])) ?_ (fun K3 J3 hs => ?_)
            · intro v5 S4 H locs ls hl hP hS hs
              obtain ⟨v6, h3, hs⟩ := lt_e hs
              refine lv_iinc (v := v6) (lv' := [(6, .int v6), (5, .int v5), (4, .int v1), (3, .int (zI b1)), (0, .ref (ad 0)), (1, .int x1), (2, .int x2)]) hx hb dX7_toMemory_150 hl (k := 0) rfl (by rw [h3]; rfl) (by decide) rfl (fun ls hl => ?_)
              refine lv_goto (tgt := 50) hx hb dX7_toMemory_153 (by decide) ?_
              exact ih v6 v5 S4 _ _ _ (lv_sub hl [0, 1, 2, 3, 4, 5, 6] rfl) hP hS hs
            ·
              refine lv_icmp_ne (tgt := 150) hx hb dX7_toMemory_64 (by decide) (fun c4 => ?_) (fun c4 => ?_)
              · have hs := if_f c4 hs
                exact J3 v4 S2 _ _ _ (lv_sub hl [0, 1, 2, 3, 4, 5, 6] rfl) hP hS hs
              · have hs := if_t c4 hs
                refine lv_iload_n hx hb dX7_toMemory_67 rfl (lv_at hl 3 rfl) ?_
                refine jn_e hs (fun K4 => ∀ (v7 : Int32) (H : Heap) (locs : List Loc) (ls : Array Slot), lv_has ls 9 [(6, .int v3), (5, .int v4), (4, .int v1), (3, .int (zI b1)), (0, .ref (ad 0)), (1, .int x1), (2, .int x2)] → va_P D vwCl (wM ad cI cB S2) H → va_S (AX 11 ad s.heap.size) s.heap H locs → K4 v7 = some So → W p l e rmX7_toMemory s m ([.ref (ad 0), .int x1, .int x2] : List Value).toArray below meth c H locs 0 0 (MQ below (uQ D (wM ad cI cB) (none, So) (AX 11 ad s.heap.size)) ([.ref (ad 0), .int x1, .int x2] : List Value).toArray s 0 0 (AX 11 ad s.heap.size)) (F0 m 81 ls [.int v7])) ?_ (fun K4 J4 hs => ?_)
                · intro v7 H locs ls hl hP hS hs
                  refine lv_istore (lv' := [(7, .int v7), (6, .int v3), (5, .int v4), (4, .int v1), (3, .int (zI b1)), (0, .ref (ad 0)), (1, .int x1), (2, .int x2)]) hx hb dX7_toMemory_81 hl (by decide) rfl (fun ls hl => ?_)
                  refine lv_iload hx hb dX7_toMemory_83 (lv_at hl 0 rfl) ?_
                  refine lv_bipush (v := 8) hx hb dX7_toMemory_85 (by decide) ?_
                  refine jn_e hs (fun K5 => ∀ (v8 : Int32) (S5 : St) (H : Heap) (locs : List Loc) (ls : Array Slot), lv_has ls 9 [(6, .int v3), (5, .int v4), (4, .int v1), (3, .int (zI b1)), (0, .ref (ad 0)), (1, .int x1), (2, .int x2)] → va_P D vwCl (wM ad cI cB S5) H → va_S (AX 11 ad s.heap.size) s.heap H locs → K5 v8 S5 = some So → W p l e rmX7_toMemory s m ([.ref (ad 0), .int x1, .int x2] : List Value).toArray below meth c H locs 0 0 (MQ below (uQ D (wM ad cI cB) (none, So) (AX 11 ad s.heap.size)) ([.ref (ad 0), .int x1, .int x2] : List Value).toArray s 0 0 (AX 11 ad s.heap.size)) (F0 m 109 ls [.int v8])) ?_ (fun K5 J5 hs => ?_)
                  · intro v8 S5 H locs ls hl hP hS hs
                    refine lv_istore (lv' := [(8, .int v8), (6, .int v3), (5, .int v4), (4, .int v1), (3, .int (zI b1)), (0, .ref (ad 0)), (1, .int x1), (2, .int x2)]) hx hb dX7_toMemory_109 hl (by decide) rfl (fun ls hl => ?_)
                    refine lv_iload_n hx hb dX7_toMemory_111 rfl (lv_at hl 4 rfl) ?_
                    refine jn_e hs (fun K6 => ∀ (v9 : Int32) (H : Heap) (locs : List Loc) (ls : Array Slot), lv_has ls 9 [(8, .int v8), (6, .int v3), (4, .int v1), (3, .int (zI b1)), (0, .ref (ad 0)), (1, .int x1), (2, .int x2)] → va_P D vwCl (wM ad cI cB S5) H → va_S (AX 11 ad s.heap.size) s.heap H locs → K6 v9 = some So → W p l e rmX7_toMemory s m ([.ref (ad 0), .int x1, .int x2] : List Value).toArray below meth c H locs 0 0 (MQ below (uQ D (wM ad cI cB) (none, So) (AX 11 ad s.heap.size)) ([.ref (ad 0), .int x1, .int x2] : List Value).toArray s 0 0 (AX 11 ad s.heap.size)) (F0 m 124 ls [.int v9])) ?_ (fun K6 J6 hs => ?_)
                    · intro v9 H locs ls hl hP hS hs
                      refine lv_istore (lv' := [(5, .int v9), (8, .int v8), (6, .int v3), (4, .int v1), (3, .int (zI b1)), (0, .ref (ad 0)), (1, .int x1), (2, .int x2)]) hx hb dX7_toMemory_124 hl (by decide) rfl (fun ls hl => ?_)
                      refine lv_aload_n hx hb dX7_toMemory_126 rfl (lv_at hl 5 rfl) ?_
                      refine lv_iload hx hb dX7_toMemory_127 (lv_at hl 0 rfl) ?_
                      refine lv_iload hx hb dX7_toMemory_129 (lv_at hl 1 rfl) ?_
                      refine lv_iload_n hx hb dX7_toMemory_131 rfl (lv_at hl 6 rfl) ?_
                      obtain ⟨S6, h4, hs⟩ := bv_e hs
                      refine kX7_set C tM_X7_113 ⟨Nat.le_of_ble_eq_true rfl, Nat.le_of_ble_eq_true rfl⟩ ⟨Nat.le_of_ble_eq_true rfl, Nat.le_of_ble_eq_true rfl⟩ hK hP hS hl.1 (rest := []) (Nat.le_of_ble_eq_true rfl) dX7_toMemory_132 h4 (fun H locs hP hS => ?_)
                      refine lv_iload_n hx hb dX7_toMemory_135 rfl (lv_at hl 4 rfl) ?_
                      refine jn_e hs (fun K7 => ∀ (v10 : Int32) (H : Heap) (locs : List Loc) (ls : Array Slot), lv_has ls 9 [(6, .int v3), (4, .int v1), (3, .int (zI b1)), (0, .ref (ad 0)), (1, .int x1), (2, .int x2)] → va_P D vwCl (wM ad cI cB S6) H → va_S (AX 11 ad s.heap.size) s.heap H locs → K7 v10 = some So → W p l e rmX7_toMemory s m ([.ref (ad 0), .int x1, .int x2] : List Value).toArray below meth c H locs 0 0 (MQ below (uQ D (wM ad cI cB) (none, So) (AX 11 ad s.heap.size)) ([.ref (ad 0), .int x1, .int x2] : List Value).toArray s 0 0 (AX 11 ad s.heap.size)) (F0 m 148 ls [.int v10])) ?_ (fun K7 J7 hs => ?_)
                      · intro v10 H locs ls hl hP hS hs
                        refine lv_istore (lv' := [(5, .int v10), (6, .int v3), (4, .int v1), (3, .int (zI b1)), (0, .ref (ad 0)), (1, .int x1), (2, .int x2)]) hx hb dX7_toMemory_148 hl (by decide) rfl (fun ls hl => ?_)
                        exact J3 v10 S6 _ _ _ (lv_sub hl [1, 0, 2, 3, 4, 5, 6] rfl) hP hS hs
                      ·
                        refine lv_if_eq (tgt := 144) hx hb dX7_toMemory_136 (by decide) (fun c5 => ?_) (fun c5 => ?_)
                        · have hs := if_t c5 hs
                          refine lv_iload hx hb dX7_toMemory_144 (lv_at hl 0 rfl) ?_
                          refine lv_iload_n hx hb dX7_toMemory_146 rfl (lv_at hl 6 rfl) ?_
                          refine lv_iadd hx hb dX7_toMemory_147 ?_
                          exact J7 (v9 + x1) _ _ _ (lv_sub hl [2, 3, 4, 5, 6, 7] rfl) hP hS hs
                        · have hs := if_f c5 hs
                          refine lv_iload hx hb dX7_toMemory_139 (lv_at hl 0 rfl) ?_
                          refine lv_goto (tgt := 148) hx hb dX7_toMemory_141 (by decide) ?_
                          exact J7 v9 _ _ _ (lv_sub hl [2, 3, 4, 5, 6, 7] rfl) hP hS hs
                    ·
                      refine lv_if_eq (tgt := 122) hx hb dX7_toMemory_112 (by decide) (fun c6 => ?_) (fun c6 => ?_)
                      · have hs := if_t c6 hs
                        refine lv_iload hx hb dX7_toMemory_122 (lv_at hl 2 rfl) ?_
                        exact J6 v4 _ _ _ (lv_sub hl [0, 1, 3, 4, 5, 6, 7] rfl) hP hS hs
                      · have hs := if_f c6 hs
                        refine lv_iload hx hb dX7_toMemory_115 (lv_at hl 2 rfl) ?_
                        refine lv_iload_n hx hb dX7_toMemory_117 rfl (lv_at hl 6 rfl) ?_
                        refine lv_isub hx hb dX7_toMemory_118 ?_
                        refine lv_goto (tgt := 124) hx hb dX7_toMemory_119 (by decide) ?_
                        exact J6 (v4 - x1) _ _ _ (lv_sub hl [0, 1, 3, 4, 5, 6, 7] rfl) hP hS hs
                  ·
                    refine lv_icmp_ge (tgt := 100) hx hb dX7_toMemory_87 (by decide) (fun c7 => ?_) (fun c7 => ?_)
                    · have hs := if_t c7 hs
                      refine lv_aload_n hx hb dX7_toMemory_100 rfl (lv_at hl 5 rfl) ?_
                      refine lv_iload hx hb dX7_toMemory_101 (lv_at hl 0 rfl) ?_
                      refine lv_bipush (v := 8) hx hb dX7_toMemory_103 (by decide) ?_
                      refine lv_isub hx hb dX7_toMemory_105 ?_
                      obtain ⟨r1, S7, h5, hs⟩ := bd_e hs
                      refine kX7_getA C tM_X7_70 ⟨Nat.le_of_ble_eq_true rfl, Nat.le_of_ble_eq_true rfl⟩ ⟨Nat.le_of_ble_eq_true rfl, Nat.le_of_ble_eq_true rfl⟩ hK hP hS hl.1 (rest := []) (Nat.le_of_ble_eq_true rfl) dX7_toMemory_106 h5 (fun H locs hP hS => ?_)
                      exact J5 r1 S7 _ _ _ (lv_sub hl [1, 2, 3, 4, 5, 6, 7] rfl) hP hS hs
                    · have hs := if_f c7 hs
                      refine lv_aload_n hx hb dX7_toMemory_90 rfl (lv_at hl 5 rfl) ?_
                      refine gM_X7_d hx hb hT hown hK hP (hT _ tF_X7_13) dX7_toMemory_91 ?_
                      refine lv_iload hx hb dX7_toMemory_94 (lv_at hl 0 rfl) ?_
                      obtain ⟨h6, hs⟩ := gd_e hs
                      refine lM_d hx hb hK hP (ixo_in h6) dX7_toMemory_96 ?_
                      refine lv_goto (tgt := 109) hx hb dX7_toMemory_97 (by decide) ?_
                      exact J5 (S2.2.2 1 v7.toNatClampNeg) S2 _ _ _ (lv_sub hl [1, 2, 3, 4, 5, 6, 7] rfl) hP hS hs
                ·
                  refine lv_if_eq (tgt := 79) hx hb dX7_toMemory_68 (by decide) (fun c8 => ?_) (fun c8 => ?_)
                  · have hs := if_t c8 hs
                    refine lv_iload hx hb dX7_toMemory_79 (lv_at hl 0 rfl) ?_
                    exact J4 v3 _ _ _ (lv_sub hl [0, 1, 2, 3, 4, 5, 6] rfl) hP hS hs
                  · have hs := if_f c8 hs
                    refine lv_bipush (v := 15) hx hb dX7_toMemory_71 (by decide) ?_
                    refine lv_iload hx hb dX7_toMemory_73 (lv_at hl 0 rfl) ?_
                    refine lv_isub hx hb dX7_toMemory_75 ?_
                    refine lv_goto (tgt := 81) hx hb dX7_toMemory_76 (by decide) ?_
                    exact J4 (15 - v3) _ _ _ (lv_sub hl [0, 1, 2, 3, 4, 5, 6] rfl) hP hS hs
      exact L1 17 0 v2 S1 _ _ _ (lv_sub hl [0, 1, 2, 3, 4, 5, 6] rfl) hP hS hs
    ·
      refine lv_if_eq (tgt := 41) hx hb dX7_toMemory_29 (by decide) (fun c9 => ?_) (fun c9 => ?_)
      · have hs := if_t c9 hs
        refine lv_aload_n hx hb dX7_toMemory_41 rfl (lv_at hl 2 rfl) ?_
        refine gM_X7_address hx hb hT hown hK hP (hT _ tF_X7_135) dX7_toMemory_42 ?_
        exact J2 (S.1 14) S _ _ _ (lv_sub hl [0, 1, 2, 3, 4] rfl) hP hS hs
      · have hs := if_f c9 hs
        refine lv_aload_n hx hb dX7_toMemory_32 rfl (lv_at hl 2 rfl) ?_
        refine lv_iload hx hb dX7_toMemory_33 (lv_at hl 0 rfl) ?_
        obtain ⟨r2, S8, h7, hs⟩ := bd_e hs
        refine kX7_getA C tM_X7_70 ⟨Nat.le_of_ble_eq_true rfl, Nat.le_of_ble_eq_true rfl⟩ ⟨Nat.le_of_ble_eq_true rfl, Nat.le_of_ble_eq_true rfl⟩ hK hP hS hl.1 (rest := []) (Nat.le_of_ble_eq_true rfl) dX7_toMemory_35 h7 (fun H locs hP hS => ?_)
        refine lv_goto (tgt := 45) hx hb dX7_toMemory_38 (by decide) ?_
        exact J2 r2 S8 _ _ _ (lv_sub hl [0, 1, 2, 3, 4] rfl) hP hS hs
  ·
    refine lv_icmp_ne (tgt := 17) hx hb dX7_toMemory_10 (by decide) (fun c10 => ?_) (fun c10 => ?_)
    · have hs := if_f c10 hs
      refine lv_iconst (v := 0) hx hb dX7_toMemory_17 (by decide) ?_
      exact J1 false _ _ _ (lv_sub hl [0, 1, 2] rfl) hP hS hs
    · have hs := if_t c10 hs
      refine lv_iconst (v := 1) hx hb dX7_toMemory_13 (by decide) ?_
      refine lv_goto (tgt := 18) hx hb dX7_toMemory_14 (by decide) ?_
      exact J1 true _ _ _ (lv_sub hl [0, 1, 2] rfl) hP hS hs
theorem kX7_toMemory {p : Program} {l : Launch} {e : Env} {R : Room} {s : State} {m : MethodId} {args : Array Value} {below : List Frame} {meth : Method} {c : Code} {H : Heap} {locs : List Loc} {cells slots : Nat} {Q : State → Prop} {cc : ByteArray} {pc nL : Nat} {ls : Array Slot} {rest : List Value} {D : va_G} {ad : Nat → Nat} {cI cB : ClassId} {en : Nat → Nat} {S : St} {own : String} {index : Nat} {x1 : Int32} {x2 : Int32} {So : St} (C : CallFix p m c cc nL s args wG own) (hlk : Cond.methodLink own index yX7_toMemory ∈ wG) (hR : rmX7_toMemory.frames + 1 ≤ R.frames ∧ 8 + (9 + 11) + rmX7_toMemory.locals ≤ R.locals) (hc : cells ≤ R.cells ∧ slots ≤ R.slots) (hK : KM D ad cI cB en s) (hP : va_P D vwCl (wM ad cI cB S) H) (hS : va_S (AX 11 ad s.heap.size) s.heap H locs) (hls : ls.size = nL) (hrest : (rest.map fun v => v.category).sum ≤ 8) (hd : decode cc pc = .ok (.invokevirtual index, 3)) (hs : fX7_toMemory x1 x2 S = some So) (k : ∀ (H : Heap) (locs : List Loc), va_P D vwCl (wM ad cI cB So) H → va_S (AX 11 ad s.heap.size) s.heap H locs → W p l e R s m args below meth c H locs cells slots Q (F0 m (pc + 3) ls (rest))) : W p l e R s m args below meth c H locs cells slots Q (F0 m pc ls (.int x2 :: .int x1 :: .ref (ad 0) :: rest)) :=
  u_callV (n := 2) (mX7_toMemory l D ad cI cB en S x1 x2 So hs) C uK_M (wg_V hlk tI_X7_toMemory tS_X7_toMemory tN_X7 tK_X7_toMemory) rfl rfl rfl (by decide +kernel) hR rfl (va_recv hK.1 hP (ci := 6) (q0 := 0) rfl rfl) hK hP hS hls hrest hd hc rfl k
def fX7_fromMemory_b1 (x1 : Int32) (x2 : Int32) (k1 : Int32 → Int32 → St → Option St) (v2 : Int32) (v3 : Int32) (S1 : St) : Option St :=
    (if 16 ≤ v2 then (if (((S1.1 5) >>> ((3 : Int32) &&& 31)) &&& 7) = 3 then (bv (fX7_setA ((S1.1 5) &&& 7) v3 S1) fun S2 => (some S2))
    else (some S1))
    else (jn (fun (v4 : Int32) (S3 : St) => (lt (v2 + 1) fun v5 => (k1 v5 v4 S3))) fun K1 =>
    (if ((x2 >>> (v2 &&& 31)) &&& 1) = 1 then (bd (fX7_get v3 x1 S1) fun r1 S4 => (bd (fX7_extended r1 x1 S4) fun r2 S5 => (lt ((v3 + x1) : Int32) fun v6 => (if 8 ≤ v2 then (bv (fX7_setA (v2 - 8) r2 S5) fun S6 => (K1 v6 S6))
    else (gd (ixo v2 8 = true) (lt (sA S5 1 v2.toNatClampNeg r2) fun S7 => (K1 v6 S7)))))))
    else (K1 v3 S1))))
def fX7_fromMemory_l1 (x1 : Int32) (x2 : Int32) : Nat → Int32 → Int32 → St → Option St
  | 0 => fun _ _ _ => none
  | n + 1 => fX7_fromMemory_b1 x1 x2 (fX7_fromMemory_l1 x1 x2 n)
def fX7_fromMemory (x1 : Int32) (x2 : Int32) (S : St) : Option St :=
    (lt ((S.1 14) : Int32) fun v1 => (fX7_fromMemory_l1 x1 x2 17 0 v1 S))
abbrev rmX7_fromMemory : Room := { frames := 3, cells := 0, slots := 0, locals := 67 }
set_option maxRecDepth 100000 in
set_option maxHeartbeats 4000000 in
theorem mX7_fromMemory (l : Launch) (D : va_G) (ad : Nat → Nat) (cI cB : ClassId) (en : Nat → Nat) (S : St) (x1 : Int32) (x2 : Int32) (So : St) (hs : fX7_fromMemory x1 x2 S = some So) : uM l yX7_fromMemory (wg yX7_fromMemory cX7_fromMemory 6 none) rmX7_fromMemory (KM D ad cI cB en) D (wM ad cI cB) (AX 11 ad) [.ref (ad 0), .int x1, .int x2] S (none, So) := by
  refine uM_start (by decide) rfl ?_
  intro p e s m below meth c hx hb hr hlocks hml hown hts hK hP
  have hT : ∀ w ∈ wG, w.before _ s = true := fun w h => hts w (List.mem_cons_of_mem _ h)
  have hS : va_S (AX 11 ad s.heap.size) s.heap s.heap [] := va_S.rf
  have hown : s.vm.findClass RX7 = some m.cls := hown
  have C : CallFix p m c cX7_fromMemory 6 s _ wG RX7 := ⟨hx, hb, hml, hown, hT⟩
  have hl := lv_entry ([.ref (ad 0), .int x1, .int x2]) (n := 6) (Nat.le_of_ble_eq_true rfl)
  rw [lg_entry_eq]
  generalize (lg_sl ([.ref (ad 0), .int x1, .int x2]) ++ List.replicate (6 - (lg_sl ([.ref (ad 0), .int x1, .int x2])).length) Slot.unset).toArray = ls at hl ⊢
  have hl : lv_has ls 6 [(0, .ref (ad 0)), (1, .int x1), (2, .int x2)] := hl
  unfold fX7_fromMemory at hs
  refine lv_aload_n hx hb dX7_fromMemory_0 rfl (lv_at hl 0 rfl) ?_
  refine gM_X7_address hx hb hT hown hK hP (hT _ tF_X7_135) dX7_fromMemory_1 ?_
  obtain ⟨v1, h1, hs⟩ := lt_e hs
  refine u_top h1 ?_
  refine lv_istore_n (lv' := [(3, .int v1), (0, .ref (ad 0)), (1, .int x1), (2, .int x2)]) hx hb dX7_fromMemory_4 rfl hl (by decide) rfl (fun ls hl => ?_)
  refine lv_iconst (v := 0) hx hb dX7_fromMemory_5 (by decide) ?_
  refine lv_istore (lv' := [(4, .int 0), (3, .int v1), (0, .ref (ad 0)), (1, .int x1), (2, .int x2)]) hx hb dX7_fromMemory_6 hl (by decide) rfl (fun ls hl => ?_)
  have L1 : ∀ (n : Nat) (v2 : Int32) (v3 : Int32) (S1 : St) (H : Heap) (locs : List Loc) (ls : Array Slot), lv_has ls 6 [(4, .int v2), (3, .int v3), (0, .ref (ad 0)), (1, .int x1), (2, .int x2)] → va_P D vwCl (wM ad cI cB S1) H → va_S (AX 11 ad s.heap.size) s.heap H locs → fX7_fromMemory_l1 x1 x2 n v2 v3 S1 = some So → W p l e rmX7_fromMemory s m ([.ref (ad 0), .int x1, .int x2] : List Value).toArray below meth c H locs 0 0 (MQ below (uQ D (wM ad cI cB) (none, So) (AX 11 ad s.heap.size)) ([.ref (ad 0), .int x1, .int x2] : List Value).toArray s 0 0 (AX 11 ad s.heap.size)) (F0 m 8 ls []) := by
    intro n
    induction n with
    | zero => intro v2 v3 S1 H locs ls hl hP hS hs; cases hs
    | succ n ih =>
      intro v2 v3 S1 H locs ls hl hP hS hs
      have hs : fX7_fromMemory_b1 x1 x2 (fX7_fromMemory_l1 x1 x2 n) v2 v3 S1 = some So := hs
      unfold fX7_fromMemory_b1 at hs
      refine lv_iload hx hb dX7_fromMemory_8 (lv_at hl 0 rfl) ?_
      refine lv_bipush (v := 16) hx hb dX7_fromMemory_10 (by decide) ?_
      refine lv_icmp_ge (tgt := 77) hx hb dX7_fromMemory_12 (by decide) (fun c1 => ?_) (fun c1 => ?_)
      · have hs := if_t c1 hs
        refine lv_aload_n hx hb dX7_fromMemory_77 rfl (lv_at hl 2 rfl) ?_
        refine gM_X7_op hx hb hT hown hK hP (hT _ tF_X7_174) dX7_fromMemory_78 ?_
        refine lv_iconst (v := 3) hx hb dX7_fromMemory_81 (by decide) ?_
        refine lv_ishr hx hb dX7_fromMemory_82 ?_
        refine lv_bipush (v := 7) hx hb dX7_fromMemory_83 (by decide) ?_
        refine lv_iand hx hb dX7_fromMemory_85 ?_
        refine lv_iconst (v := 3) hx hb dX7_fromMemory_86 (by decide) ?_
        refine lv_icmp_ne (tgt := 102) hx hb dX7_fromMemory_87 (by decide) (fun c2 => ?_) (fun c2 => ?_)
        · have hs := if_f c2 hs
          exact u_vret hx hb hr hlocks hP hS hs dX7_fromMemory_102
        · have hs := if_t c2 hs
          refine lv_aload_n hx hb dX7_fromMemory_90 rfl (lv_at hl 2 rfl) ?_
          refine lv_aload_n hx hb dX7_fromMemory_91 rfl (lv_at hl 2 rfl) ?_
          refine gM_X7_op hx hb hT hown hK hP (hT _ tF_X7_174) dX7_fromMemory_92 ?_
          refine lv_bipush (v := 7) hx hb dX7_fromMemory_95 (by decide) ?_
          refine lv_iand hx hb dX7_fromMemory_97 ?_
          refine lv_iload_n hx hb dX7_fromMemory_98 rfl (lv_at hl 1 rfl) ?_
          obtain ⟨S2, h2, hs⟩ := bv_e hs
          refine kX7_setA C tM_X7_74 ⟨Nat.le_of_ble_eq_true rfl, Nat.le_of_ble_eq_true rfl⟩ ⟨Nat.le_of_ble_eq_true rfl, Nat.le_of_ble_eq_true rfl⟩ hK hP hS hl.1 (rest := []) (Nat.le_of_ble_eq_true rfl) dX7_fromMemory_99 h2 (fun H locs hP hS => ?_)
          exact u_vret hx hb hr hlocks hP hS hs dX7_fromMemory_102
      · have hs := if_f c1 hs
        refine lv_iload_n hx hb dX7_fromMemory_15 rfl (lv_at hl 4 rfl) ?_
        refine lv_iload hx hb dX7_fromMemory_16 (lv_at hl 0 rfl) ?_
        refine lv_ishr hx hb dX7_fromMemory_18 ?_
        refine lv_iconst (v := 1) hx hb dX7_fromMemory_19 (by decide) ?_
        refine lv_iand hx hb dX7_fromMemory_20 ?_
        refine lv_iconst (v := 1) hx hb dX7_fromMemory_21 (by decide) ?_
        refine jn_e hs (fun K1 => ∀ (v4 : Int32) (S3 : St) (H : Heap) (locs : List Loc) (ls : Array Slot), lv_has ls 6 [(4, .int v2), (3, .int v4), (0, .ref (ad 0)), (1, .int x1), (2, .int x2)] → va_P D vwCl (wM ad cI cB S3) H → va_S (AX 11 ad s.heap.size) s.heap H locs → K1 v4 S3 = some So → W p l e rmX7_fromMemory s m ([.ref (ad 0), .int x1, .int x2] : List Value).toArray below meth c H locs 0 0 (MQ below (uQ D (wM ad cI cB) (none, So) (AX 11 ad s.heap.size)) ([.ref (ad 0), .int x1, .int x2] : List Value).toArray s 0 0 (AX 11 ad s.heap.size)) (F0 m 71 ls [])) ?_ (fun K1 J1 hs => ?_)
        · intro v4 S3 H locs ls hl hP hS hs
          obtain ⟨v5, h3, hs⟩ := lt_e hs
          refine lv_iinc (v := v5) (lv' := [(4, .int v5), (3, .int v4), (0, .ref (ad 0)), (1, .int x1), (2, .int x2)]) hx hb dX7_fromMemory_71 hl (k := 0) rfl (by rw [h3]; rfl) (by decide) rfl (fun ls hl => ?_)
          refine lv_goto (tgt := 8) hx hb dX7_fromMemory_74 (by decide) ?_
          exact ih v5 v4 S3 _ _ _ (lv_sub hl [0, 1, 2, 3, 4] rfl) hP hS hs
        ·
          refine lv_icmp_ne (tgt := 71) hx hb dX7_fromMemory_22 (by decide) (fun c3 => ?_) (fun c3 => ?_)
          · have hs := if_f c3 hs
            exact J1 v3 S1 _ _ _ (lv_sub hl [0, 1, 2, 3, 4] rfl) hP hS hs
          · have hs := if_t c3 hs
            refine lv_aload_n hx hb dX7_fromMemory_25 rfl (lv_at hl 2 rfl) ?_
            refine lv_iload_n hx hb dX7_fromMemory_26 rfl (lv_at hl 1 rfl) ?_
            refine lv_iload_n hx hb dX7_fromMemory_27 rfl (lv_at hl 3 rfl) ?_
            obtain ⟨r1, S4, h4, hs⟩ := bd_e hs
            refine kX7_get C tM_X7_116 ⟨Nat.le_of_ble_eq_true rfl, Nat.le_of_ble_eq_true rfl⟩ ⟨Nat.le_of_ble_eq_true rfl, Nat.le_of_ble_eq_true rfl⟩ hK hP hS hl.1 (rest := []) (Nat.le_of_ble_eq_true rfl) dX7_fromMemory_28 h4 (fun H locs hP hS => ?_)
            refine lv_iload_n hx hb dX7_fromMemory_31 rfl (lv_at hl 3 rfl) ?_
            obtain ⟨r2, S5, h5, hs⟩ := bd_e hs
            refine kX7_extended C tM_X7_157 ⟨Nat.le_of_ble_eq_true rfl, Nat.le_of_ble_eq_true rfl⟩ ⟨Nat.le_of_ble_eq_true rfl, Nat.le_of_ble_eq_true rfl⟩ hK hP hS hl.1 (rest := []) (Nat.le_of_ble_eq_true rfl) dX7_fromMemory_32 h5 (fun H locs hP hS => ?_)
            refine lv_istore (lv' := [(5, .int r2), (4, .int v2), (3, .int v3), (0, .ref (ad 0)), (1, .int x1), (2, .int x2)]) hx hb dX7_fromMemory_35 hl (by decide) rfl (fun ls hl => ?_)
            refine lv_iload_n hx hb dX7_fromMemory_37 rfl (lv_at hl 2 rfl) ?_
            refine lv_iload_n hx hb dX7_fromMemory_38 rfl (lv_at hl 4 rfl) ?_
            refine lv_iadd hx hb dX7_fromMemory_39 ?_
            obtain ⟨v6, h6, hs⟩ := lt_e hs
            refine u_top h6 ?_
            refine lv_istore_n (lv' := [(3, .int v6), (5, .int r2), (4, .int v2), (0, .ref (ad 0)), (1, .int x1), (2, .int x2)]) hx hb dX7_fromMemory_40 rfl hl (by decide) rfl (fun ls hl => ?_)
            refine lv_iload hx hb dX7_fromMemory_41 (lv_at hl 2 rfl) ?_
            refine lv_bipush (v := 8) hx hb dX7_fromMemory_43 (by decide) ?_
            refine lv_icmp_ge (tgt := 60) hx hb dX7_fromMemory_45 (by decide) (fun c4 => ?_) (fun c4 => ?_)
            · have hs := if_t c4 hs
              refine lv_aload_n hx hb dX7_fromMemory_60 rfl (lv_at hl 3 rfl) ?_
              refine lv_iload hx hb dX7_fromMemory_61 (lv_at hl 2 rfl) ?_
              refine lv_bipush (v := 8) hx hb dX7_fromMemory_63 (by decide) ?_
              refine lv_isub hx hb dX7_fromMemory_65 ?_
              refine lv_iload hx hb dX7_fromMemory_66 (lv_at hl 1 rfl) ?_
              obtain ⟨S6, h7, hs⟩ := bv_e hs
              refine kX7_setA C tM_X7_74 ⟨Nat.le_of_ble_eq_true rfl, Nat.le_of_ble_eq_true rfl⟩ ⟨Nat.le_of_ble_eq_true rfl, Nat.le_of_ble_eq_true rfl⟩ hK hP hS hl.1 (rest := []) (Nat.le_of_ble_eq_true rfl) dX7_fromMemory_68 h7 (fun H locs hP hS => ?_)
              exact J1 v6 S6 _ _ _ (lv_sub hl [2, 0, 3, 4, 5] rfl) hP hS hs
            · have hs := if_f c4 hs
              refine lv_aload_n hx hb dX7_fromMemory_48 rfl (lv_at hl 3 rfl) ?_
              refine gM_X7_d hx hb hT hown hK hP (hT _ tF_X7_13) dX7_fromMemory_49 ?_
              refine lv_iload hx hb dX7_fromMemory_52 (lv_at hl 2 rfl) ?_
              refine lv_iload hx hb dX7_fromMemory_54 (lv_at hl 1 rfl) ?_
              obtain ⟨h8, hs⟩ := gd_e hs
              obtain ⟨S7, h9, hs⟩ := lt_e hs
              refine sM_d hx hb hK hP hS (v := r2) (ixo_in h8) dX7_fromMemory_56 h9 (fun H locs hP hS => ?_)
              refine lv_goto (tgt := 71) hx hb dX7_fromMemory_57 (by decide) ?_
              exact J1 v6 S7 _ _ _ (lv_sub hl [2, 0, 3, 4, 5] rfl) hP hS hs
  exact L1 17 0 v1 S _ _ _ (lv_sub hl [0, 1, 2, 3, 4] rfl) hP hS hs
theorem kX7_fromMemory {p : Program} {l : Launch} {e : Env} {R : Room} {s : State} {m : MethodId} {args : Array Value} {below : List Frame} {meth : Method} {c : Code} {H : Heap} {locs : List Loc} {cells slots : Nat} {Q : State → Prop} {cc : ByteArray} {pc nL : Nat} {ls : Array Slot} {rest : List Value} {D : va_G} {ad : Nat → Nat} {cI cB : ClassId} {en : Nat → Nat} {S : St} {own : String} {index : Nat} {x1 : Int32} {x2 : Int32} {So : St} (C : CallFix p m c cc nL s args wG own) (hlk : Cond.methodLink own index yX7_fromMemory ∈ wG) (hR : rmX7_fromMemory.frames + 1 ≤ R.frames ∧ 8 + (6 + 11) + rmX7_fromMemory.locals ≤ R.locals) (hc : cells ≤ R.cells ∧ slots ≤ R.slots) (hK : KM D ad cI cB en s) (hP : va_P D vwCl (wM ad cI cB S) H) (hS : va_S (AX 11 ad s.heap.size) s.heap H locs) (hls : ls.size = nL) (hrest : (rest.map fun v => v.category).sum ≤ 8) (hd : decode cc pc = .ok (.invokevirtual index, 3)) (hs : fX7_fromMemory x1 x2 S = some So) (k : ∀ (H : Heap) (locs : List Loc), va_P D vwCl (wM ad cI cB So) H → va_S (AX 11 ad s.heap.size) s.heap H locs → W p l e R s m args below meth c H locs cells slots Q (F0 m (pc + 3) ls (rest))) : W p l e R s m args below meth c H locs cells slots Q (F0 m pc ls (.int x2 :: .int x1 :: .ref (ad 0) :: rest)) :=
  u_callV (n := 2) (mX7_fromMemory l D ad cI cB en S x1 x2 So hs) C uK_M (wg_V hlk tI_X7_fromMemory tS_X7_fromMemory tN_X7 tK_X7_fromMemory) rfl rfl rfl (by decide +kernel) hR rfl (va_recv hK.1 hP (ci := 6) (q0 := 0) rfl rfl) hK hP hS hls hrest hd hc rfl k
def fX7_many (z1 : Bool) (S : St) : Option (Bool × St) :=
    (lt (((S.1 5) &&& 63) : Int32) fun v1 => (lt ((v1 >>> ((3 : Int32) &&& 31)) : Int32) fun v2 => (jn (fun (v3 : Int32) => (if v2 = v3 then (jn (fun (v4 : Int32) => (bd (fX7_extension S) fun r1 S1 => (jn (fun (S2 : St) => (if (zI z1) = 0 then (bv (fX7_fromMemory v4 r1 S2) fun S3 => (some (true, S3)))
    else (bv (fX7_toMemory v4 r1 S2) fun S4 => (some (true, S4))))) fun K3 =>
    (if v2 = 3 then (bd (fX7_getA ((S1.1 5) &&& 7) S1) fun r2 S6 => (lt (sI S6 14 r2) fun S7 => (K3 S7)))
    else (if v2 = 4 then (K3 S1)
    else (bv (fX7_operand v1 v4 S1) fun S5 => (K3 S5))))))) fun K2 =>
    (if ((S.1 5) &&& 64) = 0 then (K2 2)
    else (K2 4)))
    else (jn (fun (v5 : Int32) => (bd (fX7_fits v1 v5 2 S) fun b1 S8 => (if (zI b1) = 0 then (some (false, S8))
    else (jn (fun (v6 : Int32) => (bd (fX7_extension S8) fun r3 S9 => (jn (fun (S10 : St) => (if (zI z1) = 0 then (bv (fX7_fromMemory v6 r3 S10) fun S11 => (some (true, S11)))
    else (bv (fX7_toMemory v6 r3 S10) fun S12 => (some (true, S12))))) fun K6 =>
    (if v2 = 3 then (bd (fX7_getA ((S9.1 5) &&& 7) S9) fun r4 S14 => (lt (sI S14 14 r4) fun S15 => (K6 S15)))
    else (if v2 = 4 then (K6 S9)
    else (bv (fX7_operand v1 v6 S9) fun S13 => (K6 S13))))))) fun K5 =>
    (if ((S8.1 5) &&& 64) = 0 then (K5 2)
    else (K5 4)))))) fun K4 =>
    (if (zI z1) = 0 then (K4 3)
    else (K4 6))))) fun K1 =>
    (if (zI z1) = 0 then (K1 3)
    else (K1 4)))))
abbrev rmX7_many : Room := { frames := 6, cells := 0, slots := 0, locals := 138 }
set_option maxRecDepth 100000 in
set_option maxHeartbeats 4000000 in
theorem mX7_many (l : Launch) (D : va_G) (ad : Nat → Nat) (cI cB : ClassId) (en : Nat → Nat) (S : St) (z1 : Bool) (ro : Bool) (So : St) (hs : fX7_many z1 S = some (ro, So)) : uM l yX7_many (wg yX7_many cX7_many 7 (some .boolean)) rmX7_many (KM D ad cI cB en) D (wM ad cI cB) (AX 11 ad) [.ref (ad 0), .int (zI z1)] S (some (.int (zI ro)), So) := by
  refine uM_start (by decide) rfl ?_
  intro p e s m below meth c hx hb hr hlocks hml hown hts hK hP
  have hT : ∀ w ∈ wG, w.before _ s = true := fun w h => hts w (List.mem_cons_of_mem _ h)
  have hS : va_S (AX 11 ad s.heap.size) s.heap s.heap [] := va_S.rf
  have hown : s.vm.findClass RX7 = some m.cls := hown
  have C : CallFix p m c cX7_many 7 s _ wG RX7 := ⟨hx, hb, hml, hown, hT⟩
  have hl := lv_entry ([.ref (ad 0), .int (zI z1)]) (n := 7) (Nat.le_of_ble_eq_true rfl)
  rw [lg_entry_eq]
  generalize (lg_sl ([.ref (ad 0), .int (zI z1)]) ++ List.replicate (7 - (lg_sl ([.ref (ad 0), .int (zI z1)])).length) Slot.unset).toArray = ls at hl ⊢
  have hl : lv_has ls 7 [(0, .ref (ad 0)), (1, .int (zI z1))] := hl
  unfold fX7_many at hs
  refine lv_aload_n hx hb dX7_many_0 rfl (lv_at hl 0 rfl) ?_
  refine gM_X7_op hx hb hT hown hK hP (hT _ tF_X7_174) dX7_many_1 ?_
  refine lv_bipush (v := 63) hx hb dX7_many_4 (by decide) ?_
  refine lv_iand hx hb dX7_many_6 ?_
  obtain ⟨v1, h1, hs⟩ := lt_e hs
  refine u_top h1 ?_
  refine lv_istore_n (lv' := [(2, .int v1), (0, .ref (ad 0)), (1, .int (zI z1))]) hx hb dX7_many_7 rfl hl (by decide) rfl (fun ls hl => ?_)
  refine lv_iload_n hx hb dX7_many_8 rfl (lv_at hl 0 rfl) ?_
  refine lv_iconst (v := 3) hx hb dX7_many_9 (by decide) ?_
  refine lv_ishr hx hb dX7_many_10 ?_
  obtain ⟨v2, h2, hs⟩ := lt_e hs
  refine u_top h2 ?_
  refine lv_istore_n (lv' := [(3, .int v2), (2, .int v1), (0, .ref (ad 0)), (1, .int (zI z1))]) hx hb dX7_many_11 rfl hl (by decide) rfl (fun ls hl => ?_)
  refine lv_iload_n hx hb dX7_many_12 rfl (lv_at hl 3 rfl) ?_
  refine jn_e hs (fun K1 => ∀ (v3 : Int32) (H : Heap) (locs : List Loc) (ls : Array Slot), lv_has ls 7 [(3, .int v2), (2, .int v1), (0, .ref (ad 0)), (1, .int (zI z1))] → va_P D vwCl (wM ad cI cB S) H → va_S (AX 11 ad s.heap.size) s.heap H locs → K1 v3 = some (ro, So) → W p l e rmX7_many s m ([.ref (ad 0), .int (zI z1)] : List Value).toArray below meth c H locs 0 0 (MQ below (uQ D (wM ad cI cB) (some (.int (zI ro)), So) (AX 11 ad s.heap.size)) ([.ref (ad 0), .int (zI z1)] : List Value).toArray s 0 0 (AX 11 ad s.heap.size)) (F0 m 21 ls [.int v3])) ?_ (fun K1 J1 hs => ?_)
  · intro v3 H locs ls hl hP hS hs
    refine lv_istore (lv' := [(4, .int v3), (3, .int v2), (2, .int v1), (0, .ref (ad 0)), (1, .int (zI z1))]) hx hb dX7_many_21 hl (by decide) rfl (fun ls hl => ?_)
    refine lv_iload_n hx hb dX7_many_23 rfl (lv_at hl 1 rfl) ?_
    refine lv_iload hx hb dX7_many_24 (lv_at hl 0 rfl) ?_
    refine lv_icmp_eq (tgt := 49) hx hb dX7_many_26 (by decide) (fun c1 => ?_) (fun c1 => ?_)
    · have hs := if_t c1 hs
      refine lv_aload_n hx hb dX7_many_49 rfl (lv_at hl 3 rfl) ?_
      refine gM_X7_op hx hb hT hown hK hP (hT _ tF_X7_174) dX7_many_50 ?_
      refine lv_bipush (v := 64) hx hb dX7_many_53 (by decide) ?_
      refine lv_iand hx hb dX7_many_55 ?_
      refine jn_e hs (fun K2 => ∀ (v4 : Int32) (H : Heap) (locs : List Loc) (ls : Array Slot), lv_has ls 7 [(3, .int v2), (2, .int v1), (0, .ref (ad 0)), (1, .int (zI z1))] → va_P D vwCl (wM ad cI cB S) H → va_S (AX 11 ad s.heap.size) s.heap H locs → K2 v4 = some (ro, So) → W p l e rmX7_many s m ([.ref (ad 0), .int (zI z1)] : List Value).toArray below meth c H locs 0 0 (MQ below (uQ D (wM ad cI cB) (some (.int (zI ro)), So) (AX 11 ad s.heap.size)) ([.ref (ad 0), .int (zI z1)] : List Value).toArray s 0 0 (AX 11 ad s.heap.size)) (F0 m 64 ls [.int v4])) ?_ (fun K2 J2 hs => ?_)
      · intro v4 H locs ls hl hP hS hs
        refine lv_istore (lv' := [(5, .int v4), (3, .int v2), (2, .int v1), (0, .ref (ad 0)), (1, .int (zI z1))]) hx hb dX7_many_64 hl (by decide) rfl (fun ls hl => ?_)
        refine lv_aload_n hx hb dX7_many_66 rfl (lv_at hl 3 rfl) ?_
        obtain ⟨r1, S1, h3, hs⟩ := bd_e hs
        refine kX7_extension C tM_X7_125 ⟨Nat.le_of_ble_eq_true rfl, Nat.le_of_ble_eq_true rfl⟩ ⟨Nat.le_of_ble_eq_true rfl, Nat.le_of_ble_eq_true rfl⟩ hK hP hS hl.1 (rest := []) (Nat.le_of_ble_eq_true rfl) dX7_many_67 h3 (fun H locs hP hS => ?_)
        refine lv_istore (lv' := [(6, .int r1), (5, .int v4), (3, .int v2), (2, .int v1), (0, .ref (ad 0)), (1, .int (zI z1))]) hx hb dX7_many_70 hl (by decide) rfl (fun ls hl => ?_)
        refine lv_iload_n hx hb dX7_many_72 rfl (lv_at hl 2 rfl) ?_
        refine lv_iconst (v := 3) hx hb dX7_many_73 (by decide) ?_
        refine jn_e hs (fun K3 => ∀ (S2 : St) (H : Heap) (locs : List Loc) (ls : Array Slot), lv_has ls 7 [(6, .int r1), (5, .int v4), (0, .ref (ad 0)), (1, .int (zI z1))] → va_P D vwCl (wM ad cI cB S2) H → va_S (AX 11 ad s.heap.size) s.heap H locs → K3 S2 = some (ro, So) → W p l e rmX7_many s m ([.ref (ad 0), .int (zI z1)] : List Value).toArray below meth c H locs 0 0 (MQ below (uQ D (wM ad cI cB) (some (.int (zI ro)), So) (AX 11 ad s.heap.size)) ([.ref (ad 0), .int (zI z1)] : List Value).toArray s 0 0 (AX 11 ad s.heap.size)) (F0 m 107 ls [])) ?_ (fun K3 J3 hs => ?_)
        · intro S2 H locs ls hl hP hS hs
          refine lv_iload_n hx hb dX7_many_107 rfl (lv_at hl 3 rfl) ?_
          refine lv_if_eq (tgt := 122) hx hb dX7_many_108 (by decide) (fun c2 => ?_) (fun c2 => ?_)
          · have hs := if_t c2 hs
            refine lv_aload_n hx hb dX7_many_122 rfl (lv_at hl 2 rfl) ?_
            refine lv_iload hx hb dX7_many_123 (lv_at hl 1 rfl) ?_
            refine lv_iload hx hb dX7_many_125 (lv_at hl 0 rfl) ?_
            obtain ⟨S3, h4, hs⟩ := bv_e hs
            refine kX7_fromMemory C tM_X7_223 ⟨Nat.le_of_ble_eq_true rfl, Nat.le_of_ble_eq_true rfl⟩ ⟨Nat.le_of_ble_eq_true rfl, Nat.le_of_ble_eq_true rfl⟩ hK hP hS hl.1 (rest := []) (Nat.le_of_ble_eq_true rfl) dX7_many_127 h4 (fun H locs hP hS => ?_)
            refine lv_iconst (v := 1) hx hb dX7_many_130 (by decide) ?_
            exact u_zret (v := true) hx hb hr hlocks hP hS hs dX7_many_131
          · have hs := if_f c2 hs
            refine lv_aload_n hx hb dX7_many_111 rfl (lv_at hl 2 rfl) ?_
            refine lv_iload hx hb dX7_many_112 (lv_at hl 1 rfl) ?_
            refine lv_iload hx hb dX7_many_114 (lv_at hl 0 rfl) ?_
            obtain ⟨S4, h5, hs⟩ := bv_e hs
            refine kX7_toMemory C tM_X7_220 ⟨Nat.le_of_ble_eq_true rfl, Nat.le_of_ble_eq_true rfl⟩ ⟨Nat.le_of_ble_eq_true rfl, Nat.le_of_ble_eq_true rfl⟩ hK hP hS hl.1 (rest := []) (Nat.le_of_ble_eq_true rfl) dX7_many_116 h5 (fun H locs hP hS => ?_)
            refine lv_goto (tgt := 130) hx hb dX7_many_119 (by decide) ?_
            refine lv_iconst (v := 1) hx hb dX7_many_130 (by decide) ?_
            exact u_zret (v := true) hx hb hr hlocks hP hS hs dX7_many_131
        ·
          refine lv_icmp_ne (tgt := 95) hx hb dX7_many_74 (by decide) (fun c3 => ?_) (fun c3 => ?_)
          · have hs := if_f c3 hs
            refine lv_iload_n hx hb dX7_many_95 rfl (lv_at hl 2 rfl) ?_
            refine lv_iconst (v := 4) hx hb dX7_many_96 (by decide) ?_
            refine lv_icmp_eq (tgt := 107) hx hb dX7_many_97 (by decide) (fun c4 => ?_) (fun c4 => ?_)
            · have hs := if_t c4 hs
              exact J3 S1 _ _ _ (lv_sub hl [0, 1, 4, 5] rfl) hP hS hs
            · have hs := if_f c4 hs
              refine lv_aload_n hx hb dX7_many_100 rfl (lv_at hl 4 rfl) ?_
              refine lv_iload_n hx hb dX7_many_101 rfl (lv_at hl 3 rfl) ?_
              refine lv_iload hx hb dX7_many_102 (lv_at hl 1 rfl) ?_
              obtain ⟨S5, h6, hs⟩ := bv_e hs
              refine kX7_operand C tM_X7_192 ⟨Nat.le_of_ble_eq_true rfl, Nat.le_of_ble_eq_true rfl⟩ ⟨Nat.le_of_ble_eq_true rfl, Nat.le_of_ble_eq_true rfl⟩ hK hP hS hl.1 (rest := []) (Nat.le_of_ble_eq_true rfl) dX7_many_104 h6 (fun H locs hP hS => ?_)
              exact J3 S5 _ _ _ (lv_sub hl [0, 1, 4, 5] rfl) hP hS hs
          · have hs := if_t c3 hs
            refine lv_aload_n hx hb dX7_many_77 rfl (lv_at hl 4 rfl) ?_
            refine lv_aload_n hx hb dX7_many_78 rfl (lv_at hl 4 rfl) ?_
            refine lv_aload_n hx hb dX7_many_79 rfl (lv_at hl 4 rfl) ?_
            refine gM_X7_op hx hb hT hown hK hP (hT _ tF_X7_174) dX7_many_80 ?_
            refine lv_bipush (v := 7) hx hb dX7_many_83 (by decide) ?_
            refine lv_iand hx hb dX7_many_85 ?_
            obtain ⟨r2, S6, h7, hs⟩ := bd_e hs
            refine kX7_getA C tM_X7_70 ⟨Nat.le_of_ble_eq_true rfl, Nat.le_of_ble_eq_true rfl⟩ ⟨Nat.le_of_ble_eq_true rfl, Nat.le_of_ble_eq_true rfl⟩ hK hP hS hl.1 (rest := [.ref (ad 0)]) (Nat.le_of_ble_eq_true rfl) dX7_many_86 h7 (fun H locs hP hS => ?_)
            obtain ⟨S7, h8, hs⟩ := lt_e hs
            refine pM_X7_address hx hb hT hown hK hP hS (hT _ tF_X7_135) dX7_many_89 (v := r2) h8 (fun H locs hP hS => ?_)
            refine lv_goto (tgt := 107) hx hb dX7_many_92 (by decide) ?_
            exact J3 S7 _ _ _ (lv_sub hl [0, 1, 4, 5] rfl) hP hS hs
      ·
        refine lv_if_eq (tgt := 63) hx hb dX7_many_56 (by decide) (fun c5 => ?_) (fun c5 => ?_)
        · have hs := if_t c5 hs
          refine lv_iconst (v := 2) hx hb dX7_many_63 (by decide) ?_
          exact J2 2 _ _ _ (lv_sub hl [1, 2, 3, 4] rfl) hP hS hs
        · have hs := if_f c5 hs
          refine lv_iconst (v := 4) hx hb dX7_many_59 (by decide) ?_
          refine lv_goto (tgt := 64) hx hb dX7_many_60 (by decide) ?_
          exact J2 4 _ _ _ (lv_sub hl [1, 2, 3, 4] rfl) hP hS hs
    · have hs := if_f c1 hs
      refine lv_iload_n hx hb dX7_many_29 rfl (lv_at hl 2 rfl) ?_
      refine lv_iload_n hx hb dX7_many_30 rfl (lv_at hl 4 rfl) ?_
      refine jn_e hs (fun K4 => ∀ (v5 : Int32) (H : Heap) (locs : List Loc) (ls : Array Slot), lv_has ls 7 [(3, .int v2), (2, .int v1), (0, .ref (ad 0)), (1, .int (zI z1))] → va_P D vwCl (wM ad cI cB S) H → va_S (AX 11 ad s.heap.size) s.heap H locs → K4 v5 = some (ro, So) → W p l e rmX7_many s m ([.ref (ad 0), .int (zI z1)] : List Value).toArray below meth c H locs 0 0 (MQ below (uQ D (wM ad cI cB) (some (.int (zI ro)), So) (AX 11 ad s.heap.size)) ([.ref (ad 0), .int (zI z1)] : List Value).toArray s 0 0 (AX 11 ad s.heap.size)) (F0 m 40 ls [.int v5, .int v1])) ?_ (fun K4 J4 hs => ?_)
      · intro v5 H locs ls hl hP hS hs
        refine lv_iconst (v := 2) hx hb dX7_many_40 (by decide) ?_
        obtain ⟨b1, S8, h9, hs⟩ := bd_e hs
        refine kX7_fits C tM_X7_188 ⟨Nat.le_of_ble_eq_true rfl, Nat.le_of_ble_eq_true rfl⟩ ⟨Nat.le_of_ble_eq_true rfl, Nat.le_of_ble_eq_true rfl⟩ hK hP hS hl.1 (rest := []) (Nat.le_of_ble_eq_true rfl) dX7_many_41 h9 (fun H locs hP hS => ?_)
        refine lv_if_ne (tgt := 49) hx hb dX7_many_44 (by decide) (fun c6 => ?_) (fun c6 => ?_)
        · have hs := if_f c6 hs
          refine lv_aload_n hx hb dX7_many_49 rfl (lv_at hl 2 rfl) ?_
          refine gM_X7_op hx hb hT hown hK hP (hT _ tF_X7_174) dX7_many_50 ?_
          refine lv_bipush (v := 64) hx hb dX7_many_53 (by decide) ?_
          refine lv_iand hx hb dX7_many_55 ?_
          refine jn_e hs (fun K5 => ∀ (v6 : Int32) (H : Heap) (locs : List Loc) (ls : Array Slot), lv_has ls 7 [(3, .int v2), (2, .int v1), (0, .ref (ad 0)), (1, .int (zI z1))] → va_P D vwCl (wM ad cI cB S8) H → va_S (AX 11 ad s.heap.size) s.heap H locs → K5 v6 = some (ro, So) → W p l e rmX7_many s m ([.ref (ad 0), .int (zI z1)] : List Value).toArray below meth c H locs 0 0 (MQ below (uQ D (wM ad cI cB) (some (.int (zI ro)), So) (AX 11 ad s.heap.size)) ([.ref (ad 0), .int (zI z1)] : List Value).toArray s 0 0 (AX 11 ad s.heap.size)) (F0 m 64 ls [.int v6])) ?_ (fun K5 J5 hs => ?_)
          · intro v6 H locs ls hl hP hS hs
            refine lv_istore (lv' := [(5, .int v6), (3, .int v2), (2, .int v1), (0, .ref (ad 0)), (1, .int (zI z1))]) hx hb dX7_many_64 hl (by decide) rfl (fun ls hl => ?_)
            refine lv_aload_n hx hb dX7_many_66 rfl (lv_at hl 3 rfl) ?_
            obtain ⟨r3, S9, h10, hs⟩ := bd_e hs
            refine kX7_extension C tM_X7_125 ⟨Nat.le_of_ble_eq_true rfl, Nat.le_of_ble_eq_true rfl⟩ ⟨Nat.le_of_ble_eq_true rfl, Nat.le_of_ble_eq_true rfl⟩ hK hP hS hl.1 (rest := []) (Nat.le_of_ble_eq_true rfl) dX7_many_67 h10 (fun H locs hP hS => ?_)
            refine lv_istore (lv' := [(6, .int r3), (5, .int v6), (3, .int v2), (2, .int v1), (0, .ref (ad 0)), (1, .int (zI z1))]) hx hb dX7_many_70 hl (by decide) rfl (fun ls hl => ?_)
            refine lv_iload_n hx hb dX7_many_72 rfl (lv_at hl 2 rfl) ?_
            refine lv_iconst (v := 3) hx hb dX7_many_73 (by decide) ?_
            refine jn_e hs (fun K6 => ∀ (S10 : St) (H : Heap) (locs : List Loc) (ls : Array Slot), lv_has ls 7 [(6, .int r3), (5, .int v6), (0, .ref (ad 0)), (1, .int (zI z1))] → va_P D vwCl (wM ad cI cB S10) H → va_S (AX 11 ad s.heap.size) s.heap H locs → K6 S10 = some (ro, So) → W p l e rmX7_many s m ([.ref (ad 0), .int (zI z1)] : List Value).toArray below meth c H locs 0 0 (MQ below (uQ D (wM ad cI cB) (some (.int (zI ro)), So) (AX 11 ad s.heap.size)) ([.ref (ad 0), .int (zI z1)] : List Value).toArray s 0 0 (AX 11 ad s.heap.size)) (F0 m 107 ls [])) ?_ (fun K6 J6 hs => ?_)
            · intro S10 H locs ls hl hP hS hs
              refine lv_iload_n hx hb dX7_many_107 rfl (lv_at hl 3 rfl) ?_
              refine lv_if_eq (tgt := 122) hx hb dX7_many_108 (by decide) (fun c7 => ?_) (fun c7 => ?_)
              · have hs := if_t c7 hs
                refine lv_aload_n hx hb dX7_many_122 rfl (lv_at hl 2 rfl) ?_
                refine lv_iload hx hb dX7_many_123 (lv_at hl 1 rfl) ?_
                refine lv_iload hx hb dX7_many_125 (lv_at hl 0 rfl) ?_
                obtain ⟨S11, h11, hs⟩ := bv_e hs
                refine kX7_fromMemory C tM_X7_223 ⟨Nat.le_of_ble_eq_true rfl, Nat.le_of_ble_eq_true rfl⟩ ⟨Nat.le_of_ble_eq_true rfl, Nat.le_of_ble_eq_true rfl⟩ hK hP hS hl.1 (rest := []) (Nat.le_of_ble_eq_true rfl) dX7_many_127 h11 (fun H locs hP hS => ?_)
                refine lv_iconst (v := 1) hx hb dX7_many_130 (by decide) ?_
                exact u_zret (v := true) hx hb hr hlocks hP hS hs dX7_many_131
              · have hs := if_f c7 hs
                refine lv_aload_n hx hb dX7_many_111 rfl (lv_at hl 2 rfl) ?_
                refine lv_iload hx hb dX7_many_112 (lv_at hl 1 rfl) ?_
                refine lv_iload hx hb dX7_many_114 (lv_at hl 0 rfl) ?_
                obtain ⟨S12, h12, hs⟩ := bv_e hs
                refine kX7_toMemory C tM_X7_220 ⟨Nat.le_of_ble_eq_true rfl, Nat.le_of_ble_eq_true rfl⟩ ⟨Nat.le_of_ble_eq_true rfl, Nat.le_of_ble_eq_true rfl⟩ hK hP hS hl.1 (rest := []) (Nat.le_of_ble_eq_true rfl) dX7_many_116 h12 (fun H locs hP hS => ?_)
                refine lv_goto (tgt := 130) hx hb dX7_many_119 (by decide) ?_
                refine lv_iconst (v := 1) hx hb dX7_many_130 (by decide) ?_
                exact u_zret (v := true) hx hb hr hlocks hP hS hs dX7_many_131
            ·
              refine lv_icmp_ne (tgt := 95) hx hb dX7_many_74 (by decide) (fun c8 => ?_) (fun c8 => ?_)
              · have hs := if_f c8 hs
                refine lv_iload_n hx hb dX7_many_95 rfl (lv_at hl 2 rfl) ?_
                refine lv_iconst (v := 4) hx hb dX7_many_96 (by decide) ?_
                refine lv_icmp_eq (tgt := 107) hx hb dX7_many_97 (by decide) (fun c9 => ?_) (fun c9 => ?_)
                · have hs := if_t c9 hs
                  exact J6 S9 _ _ _ (lv_sub hl [0, 1, 4, 5] rfl) hP hS hs
                · have hs := if_f c9 hs
                  refine lv_aload_n hx hb dX7_many_100 rfl (lv_at hl 4 rfl) ?_
                  refine lv_iload_n hx hb dX7_many_101 rfl (lv_at hl 3 rfl) ?_
                  refine lv_iload hx hb dX7_many_102 (lv_at hl 1 rfl) ?_
                  obtain ⟨S13, h13, hs⟩ := bv_e hs
                  refine kX7_operand C tM_X7_192 ⟨Nat.le_of_ble_eq_true rfl, Nat.le_of_ble_eq_true rfl⟩ ⟨Nat.le_of_ble_eq_true rfl, Nat.le_of_ble_eq_true rfl⟩ hK hP hS hl.1 (rest := []) (Nat.le_of_ble_eq_true rfl) dX7_many_104 h13 (fun H locs hP hS => ?_)
                  exact J6 S13 _ _ _ (lv_sub hl [0, 1, 4, 5] rfl) hP hS hs
              · have hs := if_t c8 hs
                refine lv_aload_n hx hb dX7_many_77 rfl (lv_at hl 4 rfl) ?_
                refine lv_aload_n hx hb dX7_many_78 rfl (lv_at hl 4 rfl) ?_
                refine lv_aload_n hx hb dX7_many_79 rfl (lv_at hl 4 rfl) ?_
                refine gM_X7_op hx hb hT hown hK hP (hT _ tF_X7_174) dX7_many_80 ?_
                refine lv_bipush (v := 7) hx hb dX7_many_83 (by decide) ?_
                refine lv_iand hx hb dX7_many_85 ?_
                obtain ⟨r4, S14, h14, hs⟩ := bd_e hs
                refine kX7_getA C tM_X7_70 ⟨Nat.le_of_ble_eq_true rfl, Nat.le_of_ble_eq_true rfl⟩ ⟨Nat.le_of_ble_eq_true rfl, Nat.le_of_ble_eq_true rfl⟩ hK hP hS hl.1 (rest := [.ref (ad 0)]) (Nat.le_of_ble_eq_true rfl) dX7_many_86 h14 (fun H locs hP hS => ?_)
                obtain ⟨S15, h15, hs⟩ := lt_e hs
                refine pM_X7_address hx hb hT hown hK hP hS (hT _ tF_X7_135) dX7_many_89 (v := r4) h15 (fun H locs hP hS => ?_)
                refine lv_goto (tgt := 107) hx hb dX7_many_92 (by decide) ?_
                exact J6 S15 _ _ _ (lv_sub hl [0, 1, 4, 5] rfl) hP hS hs
          ·
            refine lv_if_eq (tgt := 63) hx hb dX7_many_56 (by decide) (fun c10 => ?_) (fun c10 => ?_)
            · have hs := if_t c10 hs
              refine lv_iconst (v := 2) hx hb dX7_many_63 (by decide) ?_
              exact J5 2 _ _ _ (lv_sub hl [0, 1, 2, 3] rfl) hP hS hs
            · have hs := if_f c10 hs
              refine lv_iconst (v := 4) hx hb dX7_many_59 (by decide) ?_
              refine lv_goto (tgt := 64) hx hb dX7_many_60 (by decide) ?_
              exact J5 4 _ _ _ (lv_sub hl [0, 1, 2, 3] rfl) hP hS hs
        · have hs := if_t c6 hs
          refine lv_iconst (v := 0) hx hb dX7_many_47 (by decide) ?_
          exact u_zret (v := false) hx hb hr hlocks hP hS hs dX7_many_48
      ·
        refine lv_if_eq (tgt := 39) hx hb dX7_many_31 (by decide) (fun c11 => ?_) (fun c11 => ?_)
        · have hs := if_t c11 hs
          refine lv_iconst (v := 3) hx hb dX7_many_39 (by decide) ?_
          exact J4 3 _ _ _ (lv_sub hl [1, 2, 3, 4] rfl) hP hS hs
        · have hs := if_f c11 hs
          refine lv_bipush (v := 6) hx hb dX7_many_34 (by decide) ?_
          refine lv_goto (tgt := 40) hx hb dX7_many_36 (by decide) ?_
          exact J4 6 _ _ _ (lv_sub hl [1, 2, 3, 4] rfl) hP hS hs
  ·
    refine lv_if_eq (tgt := 20) hx hb dX7_many_13 (by decide) (fun c12 => ?_) (fun c12 => ?_)
    · have hs := if_t c12 hs
      refine lv_iconst (v := 3) hx hb dX7_many_20 (by decide) ?_
      exact J1 3 _ _ _ (lv_sub hl [0, 1, 2, 3] rfl) hP hS hs
    · have hs := if_f c12 hs
      refine lv_iconst (v := 4) hx hb dX7_many_16 (by decide) ?_
      refine lv_goto (tgt := 21) hx hb dX7_many_17 (by decide) ?_
      exact J1 4 _ _ _ (lv_sub hl [0, 1, 2, 3] rfl) hP hS hs
theorem kX7_many {p : Program} {l : Launch} {e : Env} {R : Room} {s : State} {m : MethodId} {args : Array Value} {below : List Frame} {meth : Method} {c : Code} {H : Heap} {locs : List Loc} {cells slots : Nat} {Q : State → Prop} {cc : ByteArray} {pc nL : Nat} {ls : Array Slot} {rest : List Value} {D : va_G} {ad : Nat → Nat} {cI cB : ClassId} {en : Nat → Nat} {S : St} {own : String} {index : Nat} {z1 : Bool} {ro : Bool} {So : St} (C : CallFix p m c cc nL s args wG own) (hlk : Cond.methodLink own index yX7_many ∈ wG) (hR : rmX7_many.frames + 1 ≤ R.frames ∧ 8 + (7 + 11) + rmX7_many.locals ≤ R.locals) (hc : cells ≤ R.cells ∧ slots ≤ R.slots) (hK : KM D ad cI cB en s) (hP : va_P D vwCl (wM ad cI cB S) H) (hS : va_S (AX 11 ad s.heap.size) s.heap H locs) (hls : ls.size = nL) (hrest : (rest.map fun v => v.category).sum ≤ 8) (hd : decode cc pc = .ok (.invokevirtual index, 3)) (hs : fX7_many z1 S = some (ro, So)) (k : ∀ (H : Heap) (locs : List Loc), va_P D vwCl (wM ad cI cB So) H → va_S (AX 11 ad s.heap.size) s.heap H locs → W p l e R s m args below meth c H locs cells slots Q (F0 m (pc + 3) ls (.int (zI ro) :: rest))) : W p l e R s m args below meth c H locs cells slots Q (F0 m pc ls (.int (zI z1) :: .ref (ad 0) :: rest)) :=
  u_callV (n := 1) (mX7_many l D ad cI cB en S z1 ro So hs) C uK_M (wg_V hlk tI_X7_many tS_X7_many tN_X7 tK_X7_many) rfl rfl rfl (by decide +kernel) hR rfl (va_recv hK.1 hP (ci := 6) (q0 := 0) rfl rfl) hK hP hS hls hrest hd hc rfl k
def fX7_group48  (S : St) : Option (Bool × St) :=
    (lt ((((S.1 5) >>> ((6 : Int32) &&& 31)) &&& 3) : Int32) fun v1 => (lt ((((S.1 5) >>> ((3 : Int32) &&& 31)) &&& 7) : Int32) fun v2 => (lt (((S.1 5) &&& 7) : Int32) fun v3 => (if v1 ≤ 1 then (if v1 ≤ 1 then (if v1 = 1 then (if v2 = 0 then (gd (ixo v3 8 = true) (gd (ixo v3 8 = true) (gd (ixo v3 8 = true) (lt (sA S 1 v3.toNatClampNeg (((S.2.2 1 v3.toNatClampNeg) <<< ((16 : Int32) &&& 31)) ||| (ush (S.2.2 1 v3.toNatClampNeg) 16))) fun S17 => (gd (ixo v3 8 = true) (bv (fX7_logic (S17.2.2 1 v3.toNatClampNeg) 4 S17) fun S18 => (some (true, S18))))))))
    else (if v1 = 1 then (bd (fX7_fits ((S.1 5) &&& 63) 3 4 S) fun b4 S14 => (if (zI b4) = 0 then (some (false, S14))
    else (bv (fX7_operand ((S14.1 5) &&& 63) 4 S14) fun S15 => (bv (fX7_push (S15.1 14) 4 S15) fun S16 => (some (true, S16))))))
    else (bd (fX7_fits ((S.1 5) &&& 63) 4 1 S) fun b3 S9 => (if (zI b3) = 0 then (some (false, S9))
    else (bv (fX7_operand ((S9.1 5) &&& 63) 1 S9) fun S10 => (bd (fX7_take 1 S10) fun r3 S11 => (bd (fX7_decimalLess 0 r3 S11) fun r4 S12 => (bv (fX7_give r4 1 S12) fun S13 => (some (true, S13))))))))))
    else (if v1 = 1 then (bd (fX7_fits ((S.1 5) &&& 63) 3 4 S) fun b2 S6 => (if (zI b2) = 0 then (some (false, S6))
    else (bv (fX7_operand ((S6.1 5) &&& 63) 4 S6) fun S7 => (bv (fX7_push (S7.1 14) 4 S7) fun S8 => (some (true, S8))))))
    else (bd (fX7_fits ((S.1 5) &&& 63) 4 1 S) fun b1 S1 => (if (zI b1) = 0 then (some (false, S1))
    else (bv (fX7_operand ((S1.1 5) &&& 63) 1 S1) fun S2 => (bd (fX7_take 1 S2) fun r1 S3 => (bd (fX7_decimalLess 0 r1 S3) fun r2 S4 => (bv (fX7_give r2 1 S4) fun S5 => (some (true, S5))))))))))
    else (jn (fun (v4 : Int32) => (jn (fun (v5 : Int32) => (gd (ixo v3 8 = true) (bd (fX7_joined (S.2.2 1 v3.toNatClampNeg) v5 v4 S) fun r5 S19 => (gd (ixo v3 8 = true) (lt (sA S19 1 v3.toNatClampNeg r5) fun S20 => (bv (fX7_logic v5 v4 S20) fun S21 => (some (true, S21)))))))) fun K2 =>
    (if v1 = 2 then (gd (ixo v3 8 = true) (K2 ((S.2.2 1 v3.toNatClampNeg).toInt8.toInt32)))
    else (gd (ixo v3 8 = true) (K2 ((S.2.2 1 v3.toNatClampNeg).toInt16.toInt32)))))) fun K1 =>
    (if v1 = 2 then (K1 2)
    else (K1 4))))
    else (if v2 ≤ 0 then (if v1 ≤ 1 then (if v1 = 1 then (if v2 = 0 then (gd (ixo v3 8 = true) (gd (ixo v3 8 = true) (gd (ixo v3 8 = true) (lt (sA S 1 v3.toNatClampNeg (((S.2.2 1 v3.toNatClampNeg) <<< ((16 : Int32) &&& 31)) ||| (ush (S.2.2 1 v3.toNatClampNeg) 16))) fun S38 => (gd (ixo v3 8 = true) (bv (fX7_logic (S38.2.2 1 v3.toNatClampNeg) 4 S38) fun S39 => (some (true, S39))))))))
    else (if v1 = 1 then (bd (fX7_fits ((S.1 5) &&& 63) 3 4 S) fun b8 S35 => (if (zI b8) = 0 then (some (false, S35))
    else (bv (fX7_operand ((S35.1 5) &&& 63) 4 S35) fun S36 => (bv (fX7_push (S36.1 14) 4 S36) fun S37 => (some (true, S37))))))
    else (bd (fX7_fits ((S.1 5) &&& 63) 4 1 S) fun b7 S30 => (if (zI b7) = 0 then (some (false, S30))
    else (bv (fX7_operand ((S30.1 5) &&& 63) 1 S30) fun S31 => (bd (fX7_take 1 S31) fun r8 S32 => (bd (fX7_decimalLess 0 r8 S32) fun r9 S33 => (bv (fX7_give r9 1 S33) fun S34 => (some (true, S34))))))))))
    else (if v1 = 1 then (bd (fX7_fits ((S.1 5) &&& 63) 3 4 S) fun b6 S27 => (if (zI b6) = 0 then (some (false, S27))
    else (bv (fX7_operand ((S27.1 5) &&& 63) 4 S27) fun S28 => (bv (fX7_push (S28.1 14) 4 S28) fun S29 => (some (true, S29))))))
    else (bd (fX7_fits ((S.1 5) &&& 63) 4 1 S) fun b5 S22 => (if (zI b5) = 0 then (some (false, S22))
    else (bv (fX7_operand ((S22.1 5) &&& 63) 1 S22) fun S23 => (bd (fX7_take 1 S23) fun r6 S24 => (bd (fX7_decimalLess 0 r6 S24) fun r7 S25 => (bv (fX7_give r7 1 S25) fun S26 => (some (true, S26))))))))))
    else (jn (fun (v6 : Int32) => (jn (fun (v7 : Int32) => (gd (ixo v3 8 = true) (bd (fX7_joined (S.2.2 1 v3.toNatClampNeg) v7 v6 S) fun r10 S40 => (gd (ixo v3 8 = true) (lt (sA S40 1 v3.toNatClampNeg r10) fun S41 => (bv (fX7_logic v7 v6 S41) fun S42 => (some (true, S42)))))))) fun K4 =>
    (if v1 = 2 then (gd (ixo v3 8 = true) (K4 ((S.2.2 1 v3.toNatClampNeg).toInt8.toInt32)))
    else (gd (ixo v3 8 = true) (K4 ((S.2.2 1 v3.toNatClampNeg).toInt16.toInt32)))))) fun K3 =>
    (if v1 = 2 then (K3 2)
    else (K3 4))))
    else (bd (fX7_many true S) fun b9 S43 => (some (b9, S43))))))))
abbrev rmX7_group48 : Room := { frames := 7, cells := 0, slots := 0, locals := 164 }
set_option maxRecDepth 100000 in
set_option maxHeartbeats 4000000 in
theorem mX7_group48 (l : Launch) (D : va_G) (ad : Nat → Nat) (cI cB : ClassId) (en : Nat → Nat) (S : St)  (ro : Bool) (So : St) (hs : fX7_group48  S = some (ro, So)) : uM l yX7_group48 (wg yX7_group48 cX7_group48 6 (some .boolean)) rmX7_group48 (KM D ad cI cB en) D (wM ad cI cB) (AX 11 ad) [.ref (ad 0)] S (some (.int (zI ro)), So) := by
  refine uM_start (by decide) rfl ?_
  intro p e s m below meth c hx hb hr hlocks hml hown hts hK hP
  have hT : ∀ w ∈ wG, w.before _ s = true := fun w h => hts w (List.mem_cons_of_mem _ h)
  have hS : va_S (AX 11 ad s.heap.size) s.heap s.heap [] := va_S.rf
  have hown : s.vm.findClass RX7 = some m.cls := hown
  have C : CallFix p m c cX7_group48 6 s _ wG RX7 := ⟨hx, hb, hml, hown, hT⟩
  have hl := lv_entry ([.ref (ad 0)]) (n := 6) (Nat.le_of_ble_eq_true rfl)
  rw [lg_entry_eq]
  generalize (lg_sl ([.ref (ad 0)]) ++ List.replicate (6 - (lg_sl ([.ref (ad 0)])).length) Slot.unset).toArray = ls at hl ⊢
  have hl : lv_has ls 6 [(0, .ref (ad 0))] := hl
  unfold fX7_group48 at hs
  refine lv_aload_n hx hb dX7_group48_0 rfl (lv_at hl 0 rfl) ?_
  refine gM_X7_op hx hb hT hown hK hP (hT _ tF_X7_174) dX7_group48_1 ?_
  refine lv_bipush (v := 6) hx hb dX7_group48_4 (by decide) ?_
  refine lv_ishr hx hb dX7_group48_6 ?_
  refine lv_iconst (v := 3) hx hb dX7_group48_7 (by decide) ?_
  refine lv_iand hx hb dX7_group48_8 ?_
  obtain ⟨v1, h1, hs⟩ := lt_e hs
  refine u_top h1 ?_
  refine lv_istore_n (lv' := [(1, .int v1), (0, .ref (ad 0))]) hx hb dX7_group48_9 rfl hl (by decide) rfl (fun ls hl => ?_)
  refine lv_aload_n hx hb dX7_group48_10 rfl (lv_at hl 1 rfl) ?_
  refine gM_X7_op hx hb hT hown hK hP (hT _ tF_X7_174) dX7_group48_11 ?_
  refine lv_iconst (v := 3) hx hb dX7_group48_14 (by decide) ?_
  refine lv_ishr hx hb dX7_group48_15 ?_
  refine lv_bipush (v := 7) hx hb dX7_group48_16 (by decide) ?_
  refine lv_iand hx hb dX7_group48_18 ?_
  obtain ⟨v2, h2, hs⟩ := lt_e hs
  refine u_top h2 ?_
  refine lv_istore_n (lv' := [(2, .int v2), (1, .int v1), (0, .ref (ad 0))]) hx hb dX7_group48_19 rfl hl (by decide) rfl (fun ls hl => ?_)
  refine lv_aload_n hx hb dX7_group48_20 rfl (lv_at hl 2 rfl) ?_
  refine gM_X7_op hx hb hT hown hK hP (hT _ tF_X7_174) dX7_group48_21 ?_
  refine lv_bipush (v := 7) hx hb dX7_group48_24 (by decide) ?_
  refine lv_iand hx hb dX7_group48_26 ?_
  obtain ⟨v3, h3, hs⟩ := lt_e hs
  refine u_top h3 ?_
  refine lv_istore_n (lv' := [(3, .int v3), (2, .int v2), (1, .int v1), (0, .ref (ad 0))]) hx hb dX7_group48_27 rfl hl (by decide) rfl (fun ls hl => ?_)
  refine lv_iload_n hx hb dX7_group48_28 rfl (lv_at hl 2 rfl) ?_
  refine lv_iconst (v := 1) hx hb dX7_group48_29 (by decide) ?_
  refine lv_icmp_le (tgt := 43) hx hb dX7_group48_30 (by decide) (fun c1 => ?_) (fun c1 => ?_)
  · have hs := if_t c1 hs
    refine lv_iload_n hx hb dX7_group48_43 rfl (lv_at hl 2 rfl) ?_
    refine lv_iconst (v := 1) hx hb dX7_group48_44 (by decide) ?_
    refine lv_icmp_le (tgt := 113) hx hb dX7_group48_45 (by decide) (fun c2 => ?_) (fun c2 => ?_)
    · have hs := if_t c2 hs
      refine lv_iload_n hx hb dX7_group48_113 rfl (lv_at hl 2 rfl) ?_
      refine lv_iconst (v := 1) hx hb dX7_group48_114 (by decide) ?_
      refine lv_icmp_ne (tgt := 160) hx hb dX7_group48_115 (by decide) (fun c3 => ?_) (fun c3 => ?_)
      · have hs := if_f c3 hs
        refine lv_iload_n hx hb dX7_group48_160 rfl (lv_at hl 2 rfl) ?_
        refine lv_iconst (v := 1) hx hb dX7_group48_161 (by decide) ?_
        refine lv_icmp_ne (tgt := 205) hx hb dX7_group48_162 (by decide) (fun c4 => ?_) (fun c4 => ?_)
        · have hs := if_f c4 hs
          refine lv_aload_n hx hb dX7_group48_205 rfl (lv_at hl 3 rfl) ?_
          refine gM_X7_op hx hb hT hown hK hP (hT _ tF_X7_174) dX7_group48_206 ?_
          refine lv_bipush (v := 63) hx hb dX7_group48_209 (by decide) ?_
          refine lv_iand hx hb dX7_group48_211 ?_
          refine lv_iconst (v := 4) hx hb dX7_group48_212 (by decide) ?_
          refine lv_iconst (v := 1) hx hb dX7_group48_213 (by decide) ?_
          obtain ⟨b1, S1, h4, hs⟩ := bd_e hs
          refine kX7_fits C tM_X7_188 ⟨Nat.le_of_ble_eq_true rfl, Nat.le_of_ble_eq_true rfl⟩ ⟨Nat.le_of_ble_eq_true rfl, Nat.le_of_ble_eq_true rfl⟩ hK hP hS hl.1 (rest := []) (Nat.le_of_ble_eq_true rfl) dX7_group48_214 h4 (fun H locs hP hS => ?_)
          refine lv_if_ne (tgt := 222) hx hb dX7_group48_217 (by decide) (fun c5 => ?_) (fun c5 => ?_)
          · have hs := if_f c5 hs
            refine lv_aload_n hx hb dX7_group48_222 rfl (lv_at hl 3 rfl) ?_
            refine lv_aload_n hx hb dX7_group48_223 rfl (lv_at hl 3 rfl) ?_
            refine gM_X7_op hx hb hT hown hK hP (hT _ tF_X7_174) dX7_group48_224 ?_
            refine lv_bipush (v := 63) hx hb dX7_group48_227 (by decide) ?_
            refine lv_iand hx hb dX7_group48_229 ?_
            refine lv_iconst (v := 1) hx hb dX7_group48_230 (by decide) ?_
            obtain ⟨S2, h5, hs⟩ := bv_e hs
            refine kX7_operand C tM_X7_192 ⟨Nat.le_of_ble_eq_true rfl, Nat.le_of_ble_eq_true rfl⟩ ⟨Nat.le_of_ble_eq_true rfl, Nat.le_of_ble_eq_true rfl⟩ hK hP hS hl.1 (rest := []) (Nat.le_of_ble_eq_true rfl) dX7_group48_231 h5 (fun H locs hP hS => ?_)
            refine lv_aload_n hx hb dX7_group48_234 rfl (lv_at hl 3 rfl) ?_
            refine lv_iconst (v := 1) hx hb dX7_group48_235 (by decide) ?_
            obtain ⟨r1, S3, h6, hs⟩ := bd_e hs
            refine kX7_take C tM_X7_195 ⟨Nat.le_of_ble_eq_true rfl, Nat.le_of_ble_eq_true rfl⟩ ⟨Nat.le_of_ble_eq_true rfl, Nat.le_of_ble_eq_true rfl⟩ hK hP hS hl.1 (rest := []) (Nat.le_of_ble_eq_true rfl) dX7_group48_236 h6 (fun H locs hP hS => ?_)
            refine lv_istore (lv' := [(4, .int r1), (3, .int v3), (2, .int v2), (1, .int v1), (0, .ref (ad 0))]) hx hb dX7_group48_239 hl (by decide) rfl (fun ls hl => ?_)
            refine lv_aload_n hx hb dX7_group48_241 rfl (lv_at hl 4 rfl) ?_
            refine lv_aload_n hx hb dX7_group48_242 rfl (lv_at hl 4 rfl) ?_
            refine lv_iconst (v := 0) hx hb dX7_group48_243 (by decide) ?_
            refine lv_iload hx hb dX7_group48_244 (lv_at hl 0 rfl) ?_
            obtain ⟨r2, S4, h7, hs⟩ := bd_e hs
            refine kX7_decimalLess C tM_X7_233 ⟨Nat.le_of_ble_eq_true rfl, Nat.le_of_ble_eq_true rfl⟩ ⟨Nat.le_of_ble_eq_true rfl, Nat.le_of_ble_eq_true rfl⟩ hK hP hS hl.1 (rest := [.ref (ad 0)]) (Nat.le_of_ble_eq_true rfl) dX7_group48_246 h7 (fun H locs hP hS => ?_)
            refine lv_iconst (v := 1) hx hb dX7_group48_249 (by decide) ?_
            obtain ⟨S5, h8, hs⟩ := bv_e hs
            refine kX7_give C tM_X7_198 ⟨Nat.le_of_ble_eq_true rfl, Nat.le_of_ble_eq_true rfl⟩ ⟨Nat.le_of_ble_eq_true rfl, Nat.le_of_ble_eq_true rfl⟩ hK hP hS hl.1 (rest := []) (Nat.le_of_ble_eq_true rfl) dX7_group48_250 h8 (fun H locs hP hS => ?_)
            refine lv_iconst (v := 1) hx hb dX7_group48_253 (by decide) ?_
            exact u_zret (v := true) hx hb hr hlocks hP hS hs dX7_group48_254
          · have hs := if_t c5 hs
            refine lv_iconst (v := 0) hx hb dX7_group48_220 (by decide) ?_
            exact u_zret (v := false) hx hb hr hlocks hP hS hs dX7_group48_221
        · have hs := if_t c4 hs
          refine lv_aload_n hx hb dX7_group48_165 rfl (lv_at hl 3 rfl) ?_
          refine gM_X7_op hx hb hT hown hK hP (hT _ tF_X7_174) dX7_group48_166 ?_
          refine lv_bipush (v := 63) hx hb dX7_group48_169 (by decide) ?_
          refine lv_iand hx hb dX7_group48_171 ?_
          refine lv_iconst (v := 3) hx hb dX7_group48_172 (by decide) ?_
          refine lv_iconst (v := 4) hx hb dX7_group48_173 (by decide) ?_
          obtain ⟨b2, S6, h9, hs⟩ := bd_e hs
          refine kX7_fits C tM_X7_188 ⟨Nat.le_of_ble_eq_true rfl, Nat.le_of_ble_eq_true rfl⟩ ⟨Nat.le_of_ble_eq_true rfl, Nat.le_of_ble_eq_true rfl⟩ hK hP hS hl.1 (rest := []) (Nat.le_of_ble_eq_true rfl) dX7_group48_174 h9 (fun H locs hP hS => ?_)
          refine lv_if_ne (tgt := 182) hx hb dX7_group48_177 (by decide) (fun c6 => ?_) (fun c6 => ?_)
          · have hs := if_f c6 hs
            refine lv_aload_n hx hb dX7_group48_182 rfl (lv_at hl 3 rfl) ?_
            refine lv_aload_n hx hb dX7_group48_183 rfl (lv_at hl 3 rfl) ?_
            refine gM_X7_op hx hb hT hown hK hP (hT _ tF_X7_174) dX7_group48_184 ?_
            refine lv_bipush (v := 63) hx hb dX7_group48_187 (by decide) ?_
            refine lv_iand hx hb dX7_group48_189 ?_
            refine lv_iconst (v := 4) hx hb dX7_group48_190 (by decide) ?_
            obtain ⟨S7, h10, hs⟩ := bv_e hs
            refine kX7_operand C tM_X7_192 ⟨Nat.le_of_ble_eq_true rfl, Nat.le_of_ble_eq_true rfl⟩ ⟨Nat.le_of_ble_eq_true rfl, Nat.le_of_ble_eq_true rfl⟩ hK hP hS hl.1 (rest := []) (Nat.le_of_ble_eq_true rfl) dX7_group48_191 h10 (fun H locs hP hS => ?_)
            refine lv_aload_n hx hb dX7_group48_194 rfl (lv_at hl 3 rfl) ?_
            refine lv_aload_n hx hb dX7_group48_195 rfl (lv_at hl 3 rfl) ?_
            refine gM_X7_address hx hb hT hown hK hP (hT _ tF_X7_135) dX7_group48_196 ?_
            refine lv_iconst (v := 4) hx hb dX7_group48_199 (by decide) ?_
            obtain ⟨S8, h11, hs⟩ := bv_e hs
            refine kX7_push C tM_X7_230 ⟨Nat.le_of_ble_eq_true rfl, Nat.le_of_ble_eq_true rfl⟩ ⟨Nat.le_of_ble_eq_true rfl, Nat.le_of_ble_eq_true rfl⟩ hK hP hS hl.1 (rest := []) (Nat.le_of_ble_eq_true rfl) dX7_group48_200 h11 (fun H locs hP hS => ?_)
            refine lv_iconst (v := 1) hx hb dX7_group48_203 (by decide) ?_
            exact u_zret (v := true) hx hb hr hlocks hP hS hs dX7_group48_204
          · have hs := if_t c6 hs
            refine lv_iconst (v := 0) hx hb dX7_group48_180 (by decide) ?_
            exact u_zret (v := false) hx hb hr hlocks hP hS hs dX7_group48_181
      · have hs := if_t c3 hs
        refine lv_iload_n hx hb dX7_group48_118 rfl (lv_at hl 1 rfl) ?_
        refine lv_if_ne (tgt := 160) hx hb dX7_group48_119 (by decide) (fun c7 => ?_) (fun c7 => ?_)
        · have hs := if_f c7 hs
          refine lv_iload_n hx hb dX7_group48_160 rfl (lv_at hl 2 rfl) ?_
          refine lv_iconst (v := 1) hx hb dX7_group48_161 (by decide) ?_
          refine lv_icmp_ne (tgt := 205) hx hb dX7_group48_162 (by decide) (fun c8 => ?_) (fun c8 => ?_)
          · have hs := if_f c8 hs
            refine lv_aload_n hx hb dX7_group48_205 rfl (lv_at hl 3 rfl) ?_
            refine gM_X7_op hx hb hT hown hK hP (hT _ tF_X7_174) dX7_group48_206 ?_
            refine lv_bipush (v := 63) hx hb dX7_group48_209 (by decide) ?_
            refine lv_iand hx hb dX7_group48_211 ?_
            refine lv_iconst (v := 4) hx hb dX7_group48_212 (by decide) ?_
            refine lv_iconst (v := 1) hx hb dX7_group48_213 (by decide) ?_
            obtain ⟨b3, S9, h12, hs⟩ := bd_e hs
            refine kX7_fits C tM_X7_188 ⟨Nat.le_of_ble_eq_true rfl, Nat.le_of_ble_eq_true rfl⟩ ⟨Nat.le_of_ble_eq_true rfl, Nat.le_of_ble_eq_true rfl⟩ hK hP hS hl.1 (rest := []) (Nat.le_of_ble_eq_true rfl) dX7_group48_214 h12 (fun H locs hP hS => ?_)
            refine lv_if_ne (tgt := 222) hx hb dX7_group48_217 (by decide) (fun c9 => ?_) (fun c9 => ?_)
            · have hs := if_f c9 hs
              refine lv_aload_n hx hb dX7_group48_222 rfl (lv_at hl 3 rfl) ?_
              refine lv_aload_n hx hb dX7_group48_223 rfl (lv_at hl 3 rfl) ?_
              refine gM_X7_op hx hb hT hown hK hP (hT _ tF_X7_174) dX7_group48_224 ?_
              refine lv_bipush (v := 63) hx hb dX7_group48_227 (by decide) ?_
              refine lv_iand hx hb dX7_group48_229 ?_
              refine lv_iconst (v := 1) hx hb dX7_group48_230 (by decide) ?_
              obtain ⟨S10, h13, hs⟩ := bv_e hs
              refine kX7_operand C tM_X7_192 ⟨Nat.le_of_ble_eq_true rfl, Nat.le_of_ble_eq_true rfl⟩ ⟨Nat.le_of_ble_eq_true rfl, Nat.le_of_ble_eq_true rfl⟩ hK hP hS hl.1 (rest := []) (Nat.le_of_ble_eq_true rfl) dX7_group48_231 h13 (fun H locs hP hS => ?_)
              refine lv_aload_n hx hb dX7_group48_234 rfl (lv_at hl 3 rfl) ?_
              refine lv_iconst (v := 1) hx hb dX7_group48_235 (by decide) ?_
              obtain ⟨r3, S11, h14, hs⟩ := bd_e hs
              refine kX7_take C tM_X7_195 ⟨Nat.le_of_ble_eq_true rfl, Nat.le_of_ble_eq_true rfl⟩ ⟨Nat.le_of_ble_eq_true rfl, Nat.le_of_ble_eq_true rfl⟩ hK hP hS hl.1 (rest := []) (Nat.le_of_ble_eq_true rfl) dX7_group48_236 h14 (fun H locs hP hS => ?_)
              refine lv_istore (lv' := [(4, .int r3), (3, .int v3), (2, .int v2), (1, .int v1), (0, .ref (ad 0))]) hx hb dX7_group48_239 hl (by decide) rfl (fun ls hl => ?_)
              refine lv_aload_n hx hb dX7_group48_241 rfl (lv_at hl 4 rfl) ?_
              refine lv_aload_n hx hb dX7_group48_242 rfl (lv_at hl 4 rfl) ?_
              refine lv_iconst (v := 0) hx hb dX7_group48_243 (by decide) ?_
              refine lv_iload hx hb dX7_group48_244 (lv_at hl 0 rfl) ?_
              obtain ⟨r4, S12, h15, hs⟩ := bd_e hs
              refine kX7_decimalLess C tM_X7_233 ⟨Nat.le_of_ble_eq_true rfl, Nat.le_of_ble_eq_true rfl⟩ ⟨Nat.le_of_ble_eq_true rfl, Nat.le_of_ble_eq_true rfl⟩ hK hP hS hl.1 (rest := [.ref (ad 0)]) (Nat.le_of_ble_eq_true rfl) dX7_group48_246 h15 (fun H locs hP hS => ?_)
              refine lv_iconst (v := 1) hx hb dX7_group48_249 (by decide) ?_
              obtain ⟨S13, h16, hs⟩ := bv_e hs
              refine kX7_give C tM_X7_198 ⟨Nat.le_of_ble_eq_true rfl, Nat.le_of_ble_eq_true rfl⟩ ⟨Nat.le_of_ble_eq_true rfl, Nat.le_of_ble_eq_true rfl⟩ hK hP hS hl.1 (rest := []) (Nat.le_of_ble_eq_true rfl) dX7_group48_250 h16 (fun H locs hP hS => ?_)
              refine lv_iconst (v := 1) hx hb dX7_group48_253 (by decide) ?_
              exact u_zret (v := true) hx hb hr hlocks hP hS hs dX7_group48_254
            · have hs := if_t c9 hs
              refine lv_iconst (v := 0) hx hb dX7_group48_220 (by decide) ?_
              exact u_zret (v := false) hx hb hr hlocks hP hS hs dX7_group48_221
          · have hs := if_t c8 hs
            refine lv_aload_n hx hb dX7_group48_165 rfl (lv_at hl 3 rfl) ?_
            refine gM_X7_op hx hb hT hown hK hP (hT _ tF_X7_174) dX7_group48_166 ?_
            refine lv_bipush (v := 63) hx hb dX7_group48_169 (by decide) ?_
            refine lv_iand hx hb dX7_group48_171 ?_
            refine lv_iconst (v := 3) hx hb dX7_group48_172 (by decide) ?_
            refine lv_iconst (v := 4) hx hb dX7_group48_173 (by decide) ?_
            obtain ⟨b4, S14, h17, hs⟩ := bd_e hs
            refine kX7_fits C tM_X7_188 ⟨Nat.le_of_ble_eq_true rfl, Nat.le_of_ble_eq_true rfl⟩ ⟨Nat.le_of_ble_eq_true rfl, Nat.le_of_ble_eq_true rfl⟩ hK hP hS hl.1 (rest := []) (Nat.le_of_ble_eq_true rfl) dX7_group48_174 h17 (fun H locs hP hS => ?_)
            refine lv_if_ne (tgt := 182) hx hb dX7_group48_177 (by decide) (fun c10 => ?_) (fun c10 => ?_)
            · have hs := if_f c10 hs
              refine lv_aload_n hx hb dX7_group48_182 rfl (lv_at hl 3 rfl) ?_
              refine lv_aload_n hx hb dX7_group48_183 rfl (lv_at hl 3 rfl) ?_
              refine gM_X7_op hx hb hT hown hK hP (hT _ tF_X7_174) dX7_group48_184 ?_
              refine lv_bipush (v := 63) hx hb dX7_group48_187 (by decide) ?_
              refine lv_iand hx hb dX7_group48_189 ?_
              refine lv_iconst (v := 4) hx hb dX7_group48_190 (by decide) ?_
              obtain ⟨S15, h18, hs⟩ := bv_e hs
              refine kX7_operand C tM_X7_192 ⟨Nat.le_of_ble_eq_true rfl, Nat.le_of_ble_eq_true rfl⟩ ⟨Nat.le_of_ble_eq_true rfl, Nat.le_of_ble_eq_true rfl⟩ hK hP hS hl.1 (rest := []) (Nat.le_of_ble_eq_true rfl) dX7_group48_191 h18 (fun H locs hP hS => ?_)
              refine lv_aload_n hx hb dX7_group48_194 rfl (lv_at hl 3 rfl) ?_
              refine lv_aload_n hx hb dX7_group48_195 rfl (lv_at hl 3 rfl) ?_
              refine gM_X7_address hx hb hT hown hK hP (hT _ tF_X7_135) dX7_group48_196 ?_
              refine lv_iconst (v := 4) hx hb dX7_group48_199 (by decide) ?_
              obtain ⟨S16, h19, hs⟩ := bv_e hs
              refine kX7_push C tM_X7_230 ⟨Nat.le_of_ble_eq_true rfl, Nat.le_of_ble_eq_true rfl⟩ ⟨Nat.le_of_ble_eq_true rfl, Nat.le_of_ble_eq_true rfl⟩ hK hP hS hl.1 (rest := []) (Nat.le_of_ble_eq_true rfl) dX7_group48_200 h19 (fun H locs hP hS => ?_)
              refine lv_iconst (v := 1) hx hb dX7_group48_203 (by decide) ?_
              exact u_zret (v := true) hx hb hr hlocks hP hS hs dX7_group48_204
            · have hs := if_t c10 hs
              refine lv_iconst (v := 0) hx hb dX7_group48_180 (by decide) ?_
              exact u_zret (v := false) hx hb hr hlocks hP hS hs dX7_group48_181
        · have hs := if_t c7 hs
          refine lv_aload_n hx hb dX7_group48_122 rfl (lv_at hl 3 rfl) ?_
          refine gM_X7_d hx hb hT hown hK hP (hT _ tF_X7_13) dX7_group48_123 ?_
          refine lv_iload_n hx hb dX7_group48_126 rfl (lv_at hl 0 rfl) ?_
          refine lv_aload_n hx hb dX7_group48_127 rfl (lv_at hl 3 rfl) ?_
          refine gM_X7_d hx hb hT hown hK hP (hT _ tF_X7_13) dX7_group48_128 ?_
          refine lv_iload_n hx hb dX7_group48_131 rfl (lv_at hl 0 rfl) ?_
          obtain ⟨h20, hs⟩ := gd_e hs
          refine lM_d hx hb hK hP (ixo_in h20) dX7_group48_132 ?_
          refine lv_bipush (v := 16) hx hb dX7_group48_133 (by decide) ?_
          refine lv_ishl hx hb dX7_group48_135 ?_
          refine lv_aload_n hx hb dX7_group48_136 rfl (lv_at hl 3 rfl) ?_
          refine gM_X7_d hx hb hT hown hK hP (hT _ tF_X7_13) dX7_group48_137 ?_
          refine lv_iload_n hx hb dX7_group48_140 rfl (lv_at hl 0 rfl) ?_
          obtain ⟨h21, hs⟩ := gd_e hs
          refine lM_d hx hb hK hP (ixo_in h21) dX7_group48_141 ?_
          refine lv_bipush (v := 16) hx hb dX7_group48_142 (by decide) ?_
          refine lv_iushr (v := (ush (S.2.2 1 v3.toNatClampNeg) 16)) hx hb dX7_group48_144 rfl ?_
          refine lv_ior hx hb dX7_group48_145 ?_
          obtain ⟨h22, hs⟩ := gd_e hs
          obtain ⟨S17, h23, hs⟩ := lt_e hs
          refine sM_d hx hb hK hP hS (v := (((S.2.2 1 v3.toNatClampNeg) <<< ((16 : Int32) &&& 31)) ||| (ush (S.2.2 1 v3.toNatClampNeg) 16))) (ixo_in h22) dX7_group48_146 h23 (fun H locs hP hS => ?_)
          refine lv_aload_n hx hb dX7_group48_147 rfl (lv_at hl 3 rfl) ?_
          refine lv_aload_n hx hb dX7_group48_148 rfl (lv_at hl 3 rfl) ?_
          refine gM_X7_d hx hb hT hown hK hP (hT _ tF_X7_13) dX7_group48_149 ?_
          refine lv_iload_n hx hb dX7_group48_152 rfl (lv_at hl 0 rfl) ?_
          obtain ⟨h24, hs⟩ := gd_e hs
          refine lM_d hx hb hK hP (ixo_in h24) dX7_group48_153 ?_
          refine lv_iconst (v := 4) hx hb dX7_group48_154 (by decide) ?_
          obtain ⟨S18, h25, hs⟩ := bv_e hs
          refine kX7_logic C tM_X7_214 ⟨Nat.le_of_ble_eq_true rfl, Nat.le_of_ble_eq_true rfl⟩ ⟨Nat.le_of_ble_eq_true rfl, Nat.le_of_ble_eq_true rfl⟩ hK hP hS hl.1 (rest := []) (Nat.le_of_ble_eq_true rfl) dX7_group48_155 h25 (fun H locs hP hS => ?_)
          refine lv_iconst (v := 1) hx hb dX7_group48_158 (by decide) ?_
          exact u_zret (v := true) hx hb hr hlocks hP hS hs dX7_group48_159
    · have hs := if_f c2 hs
      refine lv_iload_n hx hb dX7_group48_48 rfl (lv_at hl 2 rfl) ?_
      refine lv_iconst (v := 2) hx hb dX7_group48_49 (by decide) ?_
      refine jn_e hs (fun K1 => ∀ (v4 : Int32) (H : Heap) (locs : List Loc) (ls : Array Slot), lv_has ls 6 [(3, .int v3), (1, .int v1), (0, .ref (ad 0))] → va_P D vwCl (wM ad cI cB S) H → va_S (AX 11 ad s.heap.size) s.heap H locs → K1 v4 = some (ro, So) → W p l e rmX7_group48 s m ([.ref (ad 0)] : List Value).toArray below meth c H locs 0 0 (MQ below (uQ D (wM ad cI cB) (some (.int (zI ro)), So) (AX 11 ad s.heap.size)) ([.ref (ad 0)] : List Value).toArray s 0 0 (AX 11 ad s.heap.size)) (F0 m 58 ls [.int v4])) ?_ (fun K1 J1 hs => ?_)
      · intro v4 H locs ls hl hP hS hs
        refine lv_istore (lv' := [(4, .int v4), (3, .int v3), (1, .int v1), (0, .ref (ad 0))]) hx hb dX7_group48_58 hl (by decide) rfl (fun ls hl => ?_)
        refine lv_iload_n hx hb dX7_group48_60 rfl (lv_at hl 2 rfl) ?_
        refine lv_iconst (v := 2) hx hb dX7_group48_61 (by decide) ?_
        refine jn_e hs (fun K2 => ∀ (v5 : Int32) (H : Heap) (locs : List Loc) (ls : Array Slot), lv_has ls 6 [(4, .int v4), (3, .int v3), (0, .ref (ad 0))] → va_P D vwCl (wM ad cI cB S) H → va_S (AX 11 ad s.heap.size) s.heap H locs → K2 v5 = some (ro, So) → W p l e rmX7_group48 s m ([.ref (ad 0)] : List Value).toArray below meth c H locs 0 0 (MQ below (uQ D (wM ad cI cB) (some (.int (zI ro)), So) (AX 11 ad s.heap.size)) ([.ref (ad 0)] : List Value).toArray s 0 0 (AX 11 ad s.heap.size)) (F0 m 82 ls [.int v5])) ?_ (fun K2 J2 hs => ?_)
        · intro v5 H locs ls hl hP hS hs
          refine lv_istore (lv' := [(5, .int v5), (4, .int v4), (3, .int v3), (0, .ref (ad 0))]) hx hb dX7_group48_82 hl (by decide) rfl (fun ls hl => ?_)
          refine lv_aload_n hx hb dX7_group48_84 rfl (lv_at hl 3 rfl) ?_
          refine gM_X7_d hx hb hT hown hK hP (hT _ tF_X7_13) dX7_group48_85 ?_
          refine lv_iload_n hx hb dX7_group48_88 rfl (lv_at hl 2 rfl) ?_
          refine lv_aload_n hx hb dX7_group48_89 rfl (lv_at hl 3 rfl) ?_
          refine gM_X7_d hx hb hT hown hK hP (hT _ tF_X7_13) dX7_group48_90 ?_
          refine lv_iload_n hx hb dX7_group48_93 rfl (lv_at hl 2 rfl) ?_
          obtain ⟨h26, hs⟩ := gd_e hs
          refine lM_d hx hb hK hP (ixo_in h26) dX7_group48_94 ?_
          refine lv_iload hx hb dX7_group48_95 (lv_at hl 0 rfl) ?_
          refine lv_iload hx hb dX7_group48_97 (lv_at hl 1 rfl) ?_
          obtain ⟨r5, S19, h27, hs⟩ := bd_e hs
          refine kX7_joined C tM_X7_150 ⟨Nat.le_of_ble_eq_true rfl, Nat.le_of_ble_eq_true rfl⟩ ⟨Nat.le_of_ble_eq_true rfl, Nat.le_of_ble_eq_true rfl⟩ hK hP hS hl.1 (rest := [.int v3, .ref (ad 2)]) (Nat.le_of_ble_eq_true rfl) dX7_group48_99 h27 (fun H locs hP hS => ?_)
          obtain ⟨h28, hs⟩ := gd_e hs
          obtain ⟨S20, h29, hs⟩ := lt_e hs
          refine sM_d hx hb hK hP hS (v := r5) (ixo_in h28) dX7_group48_102 h29 (fun H locs hP hS => ?_)
          refine lv_aload_n hx hb dX7_group48_103 rfl (lv_at hl 3 rfl) ?_
          refine lv_iload hx hb dX7_group48_104 (lv_at hl 0 rfl) ?_
          refine lv_iload hx hb dX7_group48_106 (lv_at hl 1 rfl) ?_
          obtain ⟨S21, h30, hs⟩ := bv_e hs
          refine kX7_logic C tM_X7_214 ⟨Nat.le_of_ble_eq_true rfl, Nat.le_of_ble_eq_true rfl⟩ ⟨Nat.le_of_ble_eq_true rfl, Nat.le_of_ble_eq_true rfl⟩ hK hP hS hl.1 (rest := []) (Nat.le_of_ble_eq_true rfl) dX7_group48_108 h30 (fun H locs hP hS => ?_)
          refine lv_iconst (v := 1) hx hb dX7_group48_111 (by decide) ?_
          exact u_zret (v := true) hx hb hr hlocks hP hS hs dX7_group48_112
        ·
          refine lv_icmp_ne (tgt := 75) hx hb dX7_group48_62 (by decide) (fun c11 => ?_) (fun c11 => ?_)
          · have hs := if_f c11 hs
            refine lv_aload_n hx hb dX7_group48_75 rfl (lv_at hl 3 rfl) ?_
            refine gM_X7_d hx hb hT hown hK hP (hT _ tF_X7_13) dX7_group48_76 ?_
            refine lv_iload_n hx hb dX7_group48_79 rfl (lv_at hl 1 rfl) ?_
            obtain ⟨h31, hs⟩ := gd_e hs
            refine lM_d hx hb hK hP (ixo_in h31) dX7_group48_80 ?_
            refine lv_i2s (v := ((S.2.2 1 v3.toNatClampNeg).toInt16.toInt32)) hx hb dX7_group48_81 rfl ?_
            exact J2 ((S.2.2 1 v3.toNatClampNeg).toInt16.toInt32) _ _ _ (lv_sub hl [0, 1, 3] rfl) hP hS hs
          · have hs := if_t c11 hs
            refine lv_aload_n hx hb dX7_group48_65 rfl (lv_at hl 3 rfl) ?_
            refine gM_X7_d hx hb hT hown hK hP (hT _ tF_X7_13) dX7_group48_66 ?_
            refine lv_iload_n hx hb dX7_group48_69 rfl (lv_at hl 1 rfl) ?_
            obtain ⟨h32, hs⟩ := gd_e hs
            refine lM_d hx hb hK hP (ixo_in h32) dX7_group48_70 ?_
            refine lv_i2b (v := ((S.2.2 1 v3.toNatClampNeg).toInt8.toInt32)) hx hb dX7_group48_71 rfl ?_
            refine lv_goto (tgt := 82) hx hb dX7_group48_72 (by decide) ?_
            exact J2 ((S.2.2 1 v3.toNatClampNeg).toInt8.toInt32) _ _ _ (lv_sub hl [0, 1, 3] rfl) hP hS hs
      ·
        refine lv_icmp_ne (tgt := 57) hx hb dX7_group48_50 (by decide) (fun c12 => ?_) (fun c12 => ?_)
        · have hs := if_f c12 hs
          refine lv_iconst (v := 4) hx hb dX7_group48_57 (by decide) ?_
          exact J1 4 _ _ _ (lv_sub hl [0, 2, 3] rfl) hP hS hs
        · have hs := if_t c12 hs
          refine lv_iconst (v := 2) hx hb dX7_group48_53 (by decide) ?_
          refine lv_goto (tgt := 58) hx hb dX7_group48_54 (by decide) ?_
          exact J1 2 _ _ _ (lv_sub hl [0, 2, 3] rfl) hP hS hs
  · have hs := if_f c1 hs
    refine lv_iload_n hx hb dX7_group48_33 rfl (lv_at hl 1 rfl) ?_
    refine lv_if_le (tgt := 43) hx hb dX7_group48_34 (by decide) (fun c13 => ?_) (fun c13 => ?_)
    · have hs := if_t c13 hs
      refine lv_iload_n hx hb dX7_group48_43 rfl (lv_at hl 2 rfl) ?_
      refine lv_iconst (v := 1) hx hb dX7_group48_44 (by decide) ?_
      refine lv_icmp_le (tgt := 113) hx hb dX7_group48_45 (by decide) (fun c14 => ?_) (fun c14 => ?_)
      · have hs := if_t c14 hs
        refine lv_iload_n hx hb dX7_group48_113 rfl (lv_at hl 2 rfl) ?_
        refine lv_iconst (v := 1) hx hb dX7_group48_114 (by decide) ?_
        refine lv_icmp_ne (tgt := 160) hx hb dX7_group48_115 (by decide) (fun c15 => ?_) (fun c15 => ?_)
        · have hs := if_f c15 hs
          refine lv_iload_n hx hb dX7_group48_160 rfl (lv_at hl 2 rfl) ?_
          refine lv_iconst (v := 1) hx hb dX7_group48_161 (by decide) ?_
          refine lv_icmp_ne (tgt := 205) hx hb dX7_group48_162 (by decide) (fun c16 => ?_) (fun c16 => ?_)
          · have hs := if_f c16 hs
            refine lv_aload_n hx hb dX7_group48_205 rfl (lv_at hl 3 rfl) ?_
            refine gM_X7_op hx hb hT hown hK hP (hT _ tF_X7_174) dX7_group48_206 ?_
            refine lv_bipush (v := 63) hx hb dX7_group48_209 (by decide) ?_
            refine lv_iand hx hb dX7_group48_211 ?_
            refine lv_iconst (v := 4) hx hb dX7_group48_212 (by decide) ?_
            refine lv_iconst (v := 1) hx hb dX7_group48_213 (by decide) ?_
            obtain ⟨b5, S22, h33, hs⟩ := bd_e hs
            refine kX7_fits C tM_X7_188 ⟨Nat.le_of_ble_eq_true rfl, Nat.le_of_ble_eq_true rfl⟩ ⟨Nat.le_of_ble_eq_true rfl, Nat.le_of_ble_eq_true rfl⟩ hK hP hS hl.1 (rest := []) (Nat.le_of_ble_eq_true rfl) dX7_group48_214 h33 (fun H locs hP hS => ?_)
            refine lv_if_ne (tgt := 222) hx hb dX7_group48_217 (by decide) (fun c17 => ?_) (fun c17 => ?_)
            · have hs := if_f c17 hs
              refine lv_aload_n hx hb dX7_group48_222 rfl (lv_at hl 3 rfl) ?_
              refine lv_aload_n hx hb dX7_group48_223 rfl (lv_at hl 3 rfl) ?_
              refine gM_X7_op hx hb hT hown hK hP (hT _ tF_X7_174) dX7_group48_224 ?_
              refine lv_bipush (v := 63) hx hb dX7_group48_227 (by decide) ?_
              refine lv_iand hx hb dX7_group48_229 ?_
              refine lv_iconst (v := 1) hx hb dX7_group48_230 (by decide) ?_
              obtain ⟨S23, h34, hs⟩ := bv_e hs
              refine kX7_operand C tM_X7_192 ⟨Nat.le_of_ble_eq_true rfl, Nat.le_of_ble_eq_true rfl⟩ ⟨Nat.le_of_ble_eq_true rfl, Nat.le_of_ble_eq_true rfl⟩ hK hP hS hl.1 (rest := []) (Nat.le_of_ble_eq_true rfl) dX7_group48_231 h34 (fun H locs hP hS => ?_)
              refine lv_aload_n hx hb dX7_group48_234 rfl (lv_at hl 3 rfl) ?_
              refine lv_iconst (v := 1) hx hb dX7_group48_235 (by decide) ?_
              obtain ⟨r6, S24, h35, hs⟩ := bd_e hs
              refine kX7_take C tM_X7_195 ⟨Nat.le_of_ble_eq_true rfl, Nat.le_of_ble_eq_true rfl⟩ ⟨Nat.le_of_ble_eq_true rfl, Nat.le_of_ble_eq_true rfl⟩ hK hP hS hl.1 (rest := []) (Nat.le_of_ble_eq_true rfl) dX7_group48_236 h35 (fun H locs hP hS => ?_)
              refine lv_istore (lv' := [(4, .int r6), (3, .int v3), (2, .int v2), (1, .int v1), (0, .ref (ad 0))]) hx hb dX7_group48_239 hl (by decide) rfl (fun ls hl => ?_)
              refine lv_aload_n hx hb dX7_group48_241 rfl (lv_at hl 4 rfl) ?_
              refine lv_aload_n hx hb dX7_group48_242 rfl (lv_at hl 4 rfl) ?_
              refine lv_iconst (v := 0) hx hb dX7_group48_243 (by decide) ?_
              refine lv_iload hx hb dX7_group48_244 (lv_at hl 0 rfl) ?_
              obtain ⟨r7, S25, h36, hs⟩ := bd_e hs
              refine kX7_decimalLess C tM_X7_233 ⟨Nat.le_of_ble_eq_true rfl, Nat.le_of_ble_eq_true rfl⟩ ⟨Nat.le_of_ble_eq_true rfl, Nat.le_of_ble_eq_true rfl⟩ hK hP hS hl.1 (rest := [.ref (ad 0)]) (Nat.le_of_ble_eq_true rfl) dX7_group48_246 h36 (fun H locs hP hS => ?_)
              refine lv_iconst (v := 1) hx hb dX7_group48_249 (by decide) ?_
              obtain ⟨S26, h37, hs⟩ := bv_e hs
              refine kX7_give C tM_X7_198 ⟨Nat.le_of_ble_eq_true rfl, Nat.le_of_ble_eq_true rfl⟩ ⟨Nat.le_of_ble_eq_true rfl, Nat.le_of_ble_eq_true rfl⟩ hK hP hS hl.1 (rest := []) (Nat.le_of_ble_eq_true rfl) dX7_group48_250 h37 (fun H locs hP hS => ?_)
              refine lv_iconst (v := 1) hx hb dX7_group48_253 (by decide) ?_
              exact u_zret (v := true) hx hb hr hlocks hP hS hs dX7_group48_254
            · have hs := if_t c17 hs
              refine lv_iconst (v := 0) hx hb dX7_group48_220 (by decide) ?_
              exact u_zret (v := false) hx hb hr hlocks hP hS hs dX7_group48_221
          · have hs := if_t c16 hs
            refine lv_aload_n hx hb dX7_group48_165 rfl (lv_at hl 3 rfl) ?_
            refine gM_X7_op hx hb hT hown hK hP (hT _ tF_X7_174) dX7_group48_166 ?_
            refine lv_bipush (v := 63) hx hb dX7_group48_169 (by decide) ?_
            refine lv_iand hx hb dX7_group48_171 ?_
            refine lv_iconst (v := 3) hx hb dX7_group48_172 (by decide) ?_
            refine lv_iconst (v := 4) hx hb dX7_group48_173 (by decide) ?_
            obtain ⟨b6, S27, h38, hs⟩ := bd_e hs
            refine kX7_fits C tM_X7_188 ⟨Nat.le_of_ble_eq_true rfl, Nat.le_of_ble_eq_true rfl⟩ ⟨Nat.le_of_ble_eq_true rfl, Nat.le_of_ble_eq_true rfl⟩ hK hP hS hl.1 (rest := []) (Nat.le_of_ble_eq_true rfl) dX7_group48_174 h38 (fun H locs hP hS => ?_)
            refine lv_if_ne (tgt := 182) hx hb dX7_group48_177 (by decide) (fun c18 => ?_) (fun c18 => ?_)
            · have hs := if_f c18 hs
              refine lv_aload_n hx hb dX7_group48_182 rfl (lv_at hl 3 rfl) ?_
              refine lv_aload_n hx hb dX7_group48_183 rfl (lv_at hl 3 rfl) ?_
              refine gM_X7_op hx hb hT hown hK hP (hT _ tF_X7_174) dX7_group48_184 ?_
              refine lv_bipush (v := 63) hx hb dX7_group48_187 (by decide) ?_
              refine lv_iand hx hb dX7_group48_189 ?_
              refine lv_iconst (v := 4) hx hb dX7_group48_190 (by decide) ?_
              obtain ⟨S28, h39, hs⟩ := bv_e hs
              refine kX7_operand C tM_X7_192 ⟨Nat.le_of_ble_eq_true rfl, Nat.le_of_ble_eq_true rfl⟩ ⟨Nat.le_of_ble_eq_true rfl, Nat.le_of_ble_eq_true rfl⟩ hK hP hS hl.1 (rest := []) (Nat.le_of_ble_eq_true rfl) dX7_group48_191 h39 (fun H locs hP hS => ?_)
              refine lv_aload_n hx hb dX7_group48_194 rfl (lv_at hl 3 rfl) ?_
              refine lv_aload_n hx hb dX7_group48_195 rfl (lv_at hl 3 rfl) ?_
              refine gM_X7_address hx hb hT hown hK hP (hT _ tF_X7_135) dX7_group48_196 ?_
              refine lv_iconst (v := 4) hx hb dX7_group48_199 (by decide) ?_
              obtain ⟨S29, h40, hs⟩ := bv_e hs
              refine kX7_push C tM_X7_230 ⟨Nat.le_of_ble_eq_true rfl, Nat.le_of_ble_eq_true rfl⟩ ⟨Nat.le_of_ble_eq_true rfl, Nat.le_of_ble_eq_true rfl⟩ hK hP hS hl.1 (rest := []) (Nat.le_of_ble_eq_true rfl) dX7_group48_200 h40 (fun H locs hP hS => ?_)
              refine lv_iconst (v := 1) hx hb dX7_group48_203 (by decide) ?_
              exact u_zret (v := true) hx hb hr hlocks hP hS hs dX7_group48_204
            · have hs := if_t c18 hs
              refine lv_iconst (v := 0) hx hb dX7_group48_180 (by decide) ?_
              exact u_zret (v := false) hx hb hr hlocks hP hS hs dX7_group48_181
        · have hs := if_t c15 hs
          refine lv_iload_n hx hb dX7_group48_118 rfl (lv_at hl 1 rfl) ?_
          refine lv_if_ne (tgt := 160) hx hb dX7_group48_119 (by decide) (fun c19 => ?_) (fun c19 => ?_)
          · have hs := if_f c19 hs
            refine lv_iload_n hx hb dX7_group48_160 rfl (lv_at hl 2 rfl) ?_
            refine lv_iconst (v := 1) hx hb dX7_group48_161 (by decide) ?_
            refine lv_icmp_ne (tgt := 205) hx hb dX7_group48_162 (by decide) (fun c20 => ?_) (fun c20 => ?_)
            · have hs := if_f c20 hs
              refine lv_aload_n hx hb dX7_group48_205 rfl (lv_at hl 3 rfl) ?_
              refine gM_X7_op hx hb hT hown hK hP (hT _ tF_X7_174) dX7_group48_206 ?_
              refine lv_bipush (v := 63) hx hb dX7_group48_209 (by decide) ?_
              refine lv_iand hx hb dX7_group48_211 ?_
              refine lv_iconst (v := 4) hx hb dX7_group48_212 (by decide) ?_
              refine lv_iconst (v := 1) hx hb dX7_group48_213 (by decide) ?_
              obtain ⟨b7, S30, h41, hs⟩ := bd_e hs
              refine kX7_fits C tM_X7_188 ⟨Nat.le_of_ble_eq_true rfl, Nat.le_of_ble_eq_true rfl⟩ ⟨Nat.le_of_ble_eq_true rfl, Nat.le_of_ble_eq_true rfl⟩ hK hP hS hl.1 (rest := []) (Nat.le_of_ble_eq_true rfl) dX7_group48_214 h41 (fun H locs hP hS => ?_)
              refine lv_if_ne (tgt := 222) hx hb dX7_group48_217 (by decide) (fun c21 => ?_) (fun c21 => ?_)
              · have hs := if_f c21 hs
                refine lv_aload_n hx hb dX7_group48_222 rfl (lv_at hl 3 rfl) ?_
                refine lv_aload_n hx hb dX7_group48_223 rfl (lv_at hl 3 rfl) ?_
                refine gM_X7_op hx hb hT hown hK hP (hT _ tF_X7_174) dX7_group48_224 ?_
                refine lv_bipush (v := 63) hx hb dX7_group48_227 (by decide) ?_
                refine lv_iand hx hb dX7_group48_229 ?_
                refine lv_iconst (v := 1) hx hb dX7_group48_230 (by decide) ?_
                obtain ⟨S31, h42, hs⟩ := bv_e hs
                refine kX7_operand C tM_X7_192 ⟨Nat.le_of_ble_eq_true rfl, Nat.le_of_ble_eq_true rfl⟩ ⟨Nat.le_of_ble_eq_true rfl, Nat.le_of_ble_eq_true rfl⟩ hK hP hS hl.1 (rest := []) (Nat.le_of_ble_eq_true rfl) dX7_group48_231 h42 (fun H locs hP hS => ?_)
                refine lv_aload_n hx hb dX7_group48_234 rfl (lv_at hl 3 rfl) ?_
                refine lv_iconst (v := 1) hx hb dX7_group48_235 (by decide) ?_
                obtain ⟨r8, S32, h43, hs⟩ := bd_e hs
                refine kX7_take C tM_X7_195 ⟨Nat.le_of_ble_eq_true rfl, Nat.le_of_ble_eq_true rfl⟩ ⟨Nat.le_of_ble_eq_true rfl, Nat.le_of_ble_eq_true rfl⟩ hK hP hS hl.1 (rest := []) (Nat.le_of_ble_eq_true rfl) dX7_group48_236 h43 (fun H locs hP hS => ?_)
                refine lv_istore (lv' := [(4, .int r8), (3, .int v3), (2, .int v2), (1, .int v1), (0, .ref (ad 0))]) hx hb dX7_group48_239 hl (by decide) rfl (fun ls hl => ?_)
                refine lv_aload_n hx hb dX7_group48_241 rfl (lv_at hl 4 rfl) ?_
                refine lv_aload_n hx hb dX7_group48_242 rfl (lv_at hl 4 rfl) ?_
                refine lv_iconst (v := 0) hx hb dX7_group48_243 (by decide) ?_
                refine lv_iload hx hb dX7_group48_244 (lv_at hl 0 rfl) ?_
                obtain ⟨r9, S33, h44, hs⟩ := bd_e hs
                refine kX7_decimalLess C tM_X7_233 ⟨Nat.le_of_ble_eq_true rfl, Nat.le_of_ble_eq_true rfl⟩ ⟨Nat.le_of_ble_eq_true rfl, Nat.le_of_ble_eq_true rfl⟩ hK hP hS hl.1 (rest := [.ref (ad 0)]) (Nat.le_of_ble_eq_true rfl) dX7_group48_246 h44 (fun H locs hP hS => ?_)
                refine lv_iconst (v := 1) hx hb dX7_group48_249 (by decide) ?_
                obtain ⟨S34, h45, hs⟩ := bv_e hs
                refine kX7_give C tM_X7_198 ⟨Nat.le_of_ble_eq_true rfl, Nat.le_of_ble_eq_true rfl⟩ ⟨Nat.le_of_ble_eq_true rfl, Nat.le_of_ble_eq_true rfl⟩ hK hP hS hl.1 (rest := []) (Nat.le_of_ble_eq_true rfl) dX7_group48_250 h45 (fun H locs hP hS => ?_)
                refine lv_iconst (v := 1) hx hb dX7_group48_253 (by decide) ?_
                exact u_zret (v := true) hx hb hr hlocks hP hS hs dX7_group48_254
              · have hs := if_t c21 hs
                refine lv_iconst (v := 0) hx hb dX7_group48_220 (by decide) ?_
                exact u_zret (v := false) hx hb hr hlocks hP hS hs dX7_group48_221
            · have hs := if_t c20 hs
              refine lv_aload_n hx hb dX7_group48_165 rfl (lv_at hl 3 rfl) ?_
              refine gM_X7_op hx hb hT hown hK hP (hT _ tF_X7_174) dX7_group48_166 ?_
              refine lv_bipush (v := 63) hx hb dX7_group48_169 (by decide) ?_
              refine lv_iand hx hb dX7_group48_171 ?_
              refine lv_iconst (v := 3) hx hb dX7_group48_172 (by decide) ?_
              refine lv_iconst (v := 4) hx hb dX7_group48_173 (by decide) ?_
              obtain ⟨b8, S35, h46, hs⟩ := bd_e hs
              refine kX7_fits C tM_X7_188 ⟨Nat.le_of_ble_eq_true rfl, Nat.le_of_ble_eq_true rfl⟩ ⟨Nat.le_of_ble_eq_true rfl, Nat.le_of_ble_eq_true rfl⟩ hK hP hS hl.1 (rest := []) (Nat.le_of_ble_eq_true rfl) dX7_group48_174 h46 (fun H locs hP hS => ?_)
              refine lv_if_ne (tgt := 182) hx hb dX7_group48_177 (by decide) (fun c22 => ?_) (fun c22 => ?_)
              · have hs := if_f c22 hs
                refine lv_aload_n hx hb dX7_group48_182 rfl (lv_at hl 3 rfl) ?_
                refine lv_aload_n hx hb dX7_group48_183 rfl (lv_at hl 3 rfl) ?_
                refine gM_X7_op hx hb hT hown hK hP (hT _ tF_X7_174) dX7_group48_184 ?_
                refine lv_bipush (v := 63) hx hb dX7_group48_187 (by decide) ?_
                refine lv_iand hx hb dX7_group48_189 ?_
                refine lv_iconst (v := 4) hx hb dX7_group48_190 (by decide) ?_
                obtain ⟨S36, h47, hs⟩ := bv_e hs
                refine kX7_operand C tM_X7_192 ⟨Nat.le_of_ble_eq_true rfl, Nat.le_of_ble_eq_true rfl⟩ ⟨Nat.le_of_ble_eq_true rfl, Nat.le_of_ble_eq_true rfl⟩ hK hP hS hl.1 (rest := []) (Nat.le_of_ble_eq_true rfl) dX7_group48_191 h47 (fun H locs hP hS => ?_)
                refine lv_aload_n hx hb dX7_group48_194 rfl (lv_at hl 3 rfl) ?_
                refine lv_aload_n hx hb dX7_group48_195 rfl (lv_at hl 3 rfl) ?_
                refine gM_X7_address hx hb hT hown hK hP (hT _ tF_X7_135) dX7_group48_196 ?_
                refine lv_iconst (v := 4) hx hb dX7_group48_199 (by decide) ?_
                obtain ⟨S37, h48, hs⟩ := bv_e hs
                refine kX7_push C tM_X7_230 ⟨Nat.le_of_ble_eq_true rfl, Nat.le_of_ble_eq_true rfl⟩ ⟨Nat.le_of_ble_eq_true rfl, Nat.le_of_ble_eq_true rfl⟩ hK hP hS hl.1 (rest := []) (Nat.le_of_ble_eq_true rfl) dX7_group48_200 h48 (fun H locs hP hS => ?_)
                refine lv_iconst (v := 1) hx hb dX7_group48_203 (by decide) ?_
                exact u_zret (v := true) hx hb hr hlocks hP hS hs dX7_group48_204
              · have hs := if_t c22 hs
                refine lv_iconst (v := 0) hx hb dX7_group48_180 (by decide) ?_
                exact u_zret (v := false) hx hb hr hlocks hP hS hs dX7_group48_181
          · have hs := if_t c19 hs
            refine lv_aload_n hx hb dX7_group48_122 rfl (lv_at hl 3 rfl) ?_
            refine gM_X7_d hx hb hT hown hK hP (hT _ tF_X7_13) dX7_group48_123 ?_
            refine lv_iload_n hx hb dX7_group48_126 rfl (lv_at hl 0 rfl) ?_
            refine lv_aload_n hx hb dX7_group48_127 rfl (lv_at hl 3 rfl) ?_
            refine gM_X7_d hx hb hT hown hK hP (hT _ tF_X7_13) dX7_group48_128 ?_
            refine lv_iload_n hx hb dX7_group48_131 rfl (lv_at hl 0 rfl) ?_
            obtain ⟨h49, hs⟩ := gd_e hs
            refine lM_d hx hb hK hP (ixo_in h49) dX7_group48_132 ?_
            refine lv_bipush (v := 16) hx hb dX7_group48_133 (by decide) ?_
            refine lv_ishl hx hb dX7_group48_135 ?_
            refine lv_aload_n hx hb dX7_group48_136 rfl (lv_at hl 3 rfl) ?_
            refine gM_X7_d hx hb hT hown hK hP (hT _ tF_X7_13) dX7_group48_137 ?_
            refine lv_iload_n hx hb dX7_group48_140 rfl (lv_at hl 0 rfl) ?_
            obtain ⟨h50, hs⟩ := gd_e hs
            refine lM_d hx hb hK hP (ixo_in h50) dX7_group48_141 ?_
            refine lv_bipush (v := 16) hx hb dX7_group48_142 (by decide) ?_
            refine lv_iushr (v := (ush (S.2.2 1 v3.toNatClampNeg) 16)) hx hb dX7_group48_144 rfl ?_
            refine lv_ior hx hb dX7_group48_145 ?_
            obtain ⟨h51, hs⟩ := gd_e hs
            obtain ⟨S38, h52, hs⟩ := lt_e hs
            refine sM_d hx hb hK hP hS (v := (((S.2.2 1 v3.toNatClampNeg) <<< ((16 : Int32) &&& 31)) ||| (ush (S.2.2 1 v3.toNatClampNeg) 16))) (ixo_in h51) dX7_group48_146 h52 (fun H locs hP hS => ?_)
            refine lv_aload_n hx hb dX7_group48_147 rfl (lv_at hl 3 rfl) ?_
            refine lv_aload_n hx hb dX7_group48_148 rfl (lv_at hl 3 rfl) ?_
            refine gM_X7_d hx hb hT hown hK hP (hT _ tF_X7_13) dX7_group48_149 ?_
            refine lv_iload_n hx hb dX7_group48_152 rfl (lv_at hl 0 rfl) ?_
            obtain ⟨h53, hs⟩ := gd_e hs
            refine lM_d hx hb hK hP (ixo_in h53) dX7_group48_153 ?_
            refine lv_iconst (v := 4) hx hb dX7_group48_154 (by decide) ?_
            obtain ⟨S39, h54, hs⟩ := bv_e hs
            refine kX7_logic C tM_X7_214 ⟨Nat.le_of_ble_eq_true rfl, Nat.le_of_ble_eq_true rfl⟩ ⟨Nat.le_of_ble_eq_true rfl, Nat.le_of_ble_eq_true rfl⟩ hK hP hS hl.1 (rest := []) (Nat.le_of_ble_eq_true rfl) dX7_group48_155 h54 (fun H locs hP hS => ?_)
            refine lv_iconst (v := 1) hx hb dX7_group48_158 (by decide) ?_
            exact u_zret (v := true) hx hb hr hlocks hP hS hs dX7_group48_159
      · have hs := if_f c14 hs
        refine lv_iload_n hx hb dX7_group48_48 rfl (lv_at hl 2 rfl) ?_
        refine lv_iconst (v := 2) hx hb dX7_group48_49 (by decide) ?_
        refine jn_e hs (fun K3 => ∀ (v6 : Int32) (H : Heap) (locs : List Loc) (ls : Array Slot), lv_has ls 6 [(3, .int v3), (1, .int v1), (0, .ref (ad 0))] → va_P D vwCl (wM ad cI cB S) H → va_S (AX 11 ad s.heap.size) s.heap H locs → K3 v6 = some (ro, So) → W p l e rmX7_group48 s m ([.ref (ad 0)] : List Value).toArray below meth c H locs 0 0 (MQ below (uQ D (wM ad cI cB) (some (.int (zI ro)), So) (AX 11 ad s.heap.size)) ([.ref (ad 0)] : List Value).toArray s 0 0 (AX 11 ad s.heap.size)) (F0 m 58 ls [.int v6])) ?_ (fun K3 J3 hs => ?_)
        · intro v6 H locs ls hl hP hS hs
          refine lv_istore (lv' := [(4, .int v6), (3, .int v3), (1, .int v1), (0, .ref (ad 0))]) hx hb dX7_group48_58 hl (by decide) rfl (fun ls hl => ?_)
          refine lv_iload_n hx hb dX7_group48_60 rfl (lv_at hl 2 rfl) ?_
          refine lv_iconst (v := 2) hx hb dX7_group48_61 (by decide) ?_
          refine jn_e hs (fun K4 => ∀ (v7 : Int32) (H : Heap) (locs : List Loc) (ls : Array Slot), lv_has ls 6 [(4, .int v6), (3, .int v3), (0, .ref (ad 0))] → va_P D vwCl (wM ad cI cB S) H → va_S (AX 11 ad s.heap.size) s.heap H locs → K4 v7 = some (ro, So) → W p l e rmX7_group48 s m ([.ref (ad 0)] : List Value).toArray below meth c H locs 0 0 (MQ below (uQ D (wM ad cI cB) (some (.int (zI ro)), So) (AX 11 ad s.heap.size)) ([.ref (ad 0)] : List Value).toArray s 0 0 (AX 11 ad s.heap.size)) (F0 m 82 ls [.int v7])) ?_ (fun K4 J4 hs => ?_)
          · intro v7 H locs ls hl hP hS hs
            refine lv_istore (lv' := [(5, .int v7), (4, .int v6), (3, .int v3), (0, .ref (ad 0))]) hx hb dX7_group48_82 hl (by decide) rfl (fun ls hl => ?_)
            refine lv_aload_n hx hb dX7_group48_84 rfl (lv_at hl 3 rfl) ?_
            refine gM_X7_d hx hb hT hown hK hP (hT _ tF_X7_13) dX7_group48_85 ?_
            refine lv_iload_n hx hb dX7_group48_88 rfl (lv_at hl 2 rfl) ?_
            refine lv_aload_n hx hb dX7_group48_89 rfl (lv_at hl 3 rfl) ?_
            refine gM_X7_d hx hb hT hown hK hP (hT _ tF_X7_13) dX7_group48_90 ?_
            refine lv_iload_n hx hb dX7_group48_93 rfl (lv_at hl 2 rfl) ?_
            obtain ⟨h55, hs⟩ := gd_e hs
            refine lM_d hx hb hK hP (ixo_in h55) dX7_group48_94 ?_
            refine lv_iload hx hb dX7_group48_95 (lv_at hl 0 rfl) ?_
            refine lv_iload hx hb dX7_group48_97 (lv_at hl 1 rfl) ?_
            obtain ⟨r10, S40, h56, hs⟩ := bd_e hs
            refine kX7_joined C tM_X7_150 ⟨Nat.le_of_ble_eq_true rfl, Nat.le_of_ble_eq_true rfl⟩ ⟨Nat.le_of_ble_eq_true rfl, Nat.le_of_ble_eq_true rfl⟩ hK hP hS hl.1 (rest := [.int v3, .ref (ad 2)]) (Nat.le_of_ble_eq_true rfl) dX7_group48_99 h56 (fun H locs hP hS => ?_)
            obtain ⟨h57, hs⟩ := gd_e hs
            obtain ⟨S41, h58, hs⟩ := lt_e hs
            refine sM_d hx hb hK hP hS (v := r10) (ixo_in h57) dX7_group48_102 h58 (fun H locs hP hS => ?_)
            refine lv_aload_n hx hb dX7_group48_103 rfl (lv_at hl 3 rfl) ?_
            refine lv_iload hx hb dX7_group48_104 (lv_at hl 0 rfl) ?_
            refine lv_iload hx hb dX7_group48_106 (lv_at hl 1 rfl) ?_
            obtain ⟨S42, h59, hs⟩ := bv_e hs
            refine kX7_logic C tM_X7_214 ⟨Nat.le_of_ble_eq_true rfl, Nat.le_of_ble_eq_true rfl⟩ ⟨Nat.le_of_ble_eq_true rfl, Nat.le_of_ble_eq_true rfl⟩ hK hP hS hl.1 (rest := []) (Nat.le_of_ble_eq_true rfl) dX7_group48_108 h59 (fun H locs hP hS => ?_)
            refine lv_iconst (v := 1) hx hb dX7_group48_111 (by decide) ?_
            exact u_zret (v := true) hx hb hr hlocks hP hS hs dX7_group48_112
          ·
            refine lv_icmp_ne (tgt := 75) hx hb dX7_group48_62 (by decide) (fun c23 => ?_) (fun c23 => ?_)
            · have hs := if_f c23 hs
              refine lv_aload_n hx hb dX7_group48_75 rfl (lv_at hl 3 rfl) ?_
              refine gM_X7_d hx hb hT hown hK hP (hT _ tF_X7_13) dX7_group48_76 ?_
              refine lv_iload_n hx hb dX7_group48_79 rfl (lv_at hl 1 rfl) ?_
              obtain ⟨h60, hs⟩ := gd_e hs
              refine lM_d hx hb hK hP (ixo_in h60) dX7_group48_80 ?_
              refine lv_i2s (v := ((S.2.2 1 v3.toNatClampNeg).toInt16.toInt32)) hx hb dX7_group48_81 rfl ?_
              exact J4 ((S.2.2 1 v3.toNatClampNeg).toInt16.toInt32) _ _ _ (lv_sub hl [0, 1, 3] rfl) hP hS hs
            · have hs := if_t c23 hs
              refine lv_aload_n hx hb dX7_group48_65 rfl (lv_at hl 3 rfl) ?_
              refine gM_X7_d hx hb hT hown hK hP (hT _ tF_X7_13) dX7_group48_66 ?_
              refine lv_iload_n hx hb dX7_group48_69 rfl (lv_at hl 1 rfl) ?_
              obtain ⟨h61, hs⟩ := gd_e hs
              refine lM_d hx hb hK hP (ixo_in h61) dX7_group48_70 ?_
              refine lv_i2b (v := ((S.2.2 1 v3.toNatClampNeg).toInt8.toInt32)) hx hb dX7_group48_71 rfl ?_
              refine lv_goto (tgt := 82) hx hb dX7_group48_72 (by decide) ?_
              exact J4 ((S.2.2 1 v3.toNatClampNeg).toInt8.toInt32) _ _ _ (lv_sub hl [0, 1, 3] rfl) hP hS hs
        ·
          refine lv_icmp_ne (tgt := 57) hx hb dX7_group48_50 (by decide) (fun c24 => ?_) (fun c24 => ?_)
          · have hs := if_f c24 hs
            refine lv_iconst (v := 4) hx hb dX7_group48_57 (by decide) ?_
            exact J3 4 _ _ _ (lv_sub hl [0, 2, 3] rfl) hP hS hs
          · have hs := if_t c24 hs
            refine lv_iconst (v := 2) hx hb dX7_group48_53 (by decide) ?_
            refine lv_goto (tgt := 58) hx hb dX7_group48_54 (by decide) ?_
            exact J3 2 _ _ _ (lv_sub hl [0, 2, 3] rfl) hP hS hs
    · have hs := if_f c13 hs
      refine lv_aload_n hx hb dX7_group48_37 rfl (lv_at hl 3 rfl) ?_
      refine lv_iconst (v := 1) hx hb dX7_group48_38 (by decide) ?_
      obtain ⟨b9, S43, h62, hs⟩ := bd_e hs
      refine kX7_many C tM_X7_226 ⟨Nat.le_of_ble_eq_true rfl, Nat.le_of_ble_eq_true rfl⟩ ⟨Nat.le_of_ble_eq_true rfl, Nat.le_of_ble_eq_true rfl⟩ hK hP hS hl.1 (rest := []) (Nat.le_of_ble_eq_true rfl) dX7_group48_39 h62 (fun H locs hP hS => ?_)
      exact u_zret (v := b9) hx hb hr hlocks hP hS hs dX7_group48_42
theorem kX7_group48 {p : Program} {l : Launch} {e : Env} {R : Room} {s : State} {m : MethodId} {args : Array Value} {below : List Frame} {meth : Method} {c : Code} {H : Heap} {locs : List Loc} {cells slots : Nat} {Q : State → Prop} {cc : ByteArray} {pc nL : Nat} {ls : Array Slot} {rest : List Value} {D : va_G} {ad : Nat → Nat} {cI cB : ClassId} {en : Nat → Nat} {S : St} {own : String} {index : Nat}  {ro : Bool} {So : St} (C : CallFix p m c cc nL s args wG own) (hlk : Cond.methodLink own index yX7_group48 ∈ wG) (hR : rmX7_group48.frames + 1 ≤ R.frames ∧ 8 + (6 + 11) + rmX7_group48.locals ≤ R.locals) (hc : cells ≤ R.cells ∧ slots ≤ R.slots) (hK : KM D ad cI cB en s) (hP : va_P D vwCl (wM ad cI cB S) H) (hS : va_S (AX 11 ad s.heap.size) s.heap H locs) (hls : ls.size = nL) (hrest : (rest.map fun v => v.category).sum ≤ 8) (hd : decode cc pc = .ok (.invokevirtual index, 3)) (hs : fX7_group48  S = some (ro, So)) (k : ∀ (H : Heap) (locs : List Loc), va_P D vwCl (wM ad cI cB So) H → va_S (AX 11 ad s.heap.size) s.heap H locs → W p l e R s m args below meth c H locs cells slots Q (F0 m (pc + 3) ls (.int (zI ro) :: rest))) : W p l e R s m args below meth c H locs cells slots Q (F0 m pc ls (.ref (ad 0) :: rest)) :=
  u_callV (n := 0) (mX7_group48 l D ad cI cB en S  ro So hs) C uK_M (wg_V hlk tI_X7_group48 tS_X7_group48 tN_X7 tK_X7_group48) rfl rfl rfl (by decide +kernel) hR rfl (va_recv hK.1 hP (ci := 6) (q0 := 0) rfl rfl) hK hP hS hls hrest hd hc rfl k
