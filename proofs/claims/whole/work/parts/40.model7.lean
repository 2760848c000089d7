def fX7_group11  (S : St) : Option (Bool × St) :=
    (lt ((((S.1 5) >>> ((6 : Int32) &&& 31)) &&& 3) : Int32) fun v1 => (jn (fun (b1 : Bool) => (lt ((((S.1 5) >>> ((9 : Int32) &&& 31)) &&& 7) : Int32) fun v2 => (if 3 ≤ v1 then (jn (fun (v3 : Int32) (S1 : St) => (if 3 ≤ v1 then (bd (fX7_fits ((S1.1 5) &&& 63) 0 v3 S1) fun b2 S2 => (if (zI b2) = 0 then (some (false, S2))
    else (bv (fX7_operand ((S2.1 5) &&& 63) v3 S2) fun S3 => (bd (fX7_take v3 S3) fun r1 S4 => (if v1 = 3 then (bd (fX7_getA v2 S4) fun r2 S6 => (bd (fX7_extended r1 v3 S6) fun r3 S7 => (bv (fX7_compare r2 r3 4 S7) fun S8 => (some (true, S8)))))
    else (gd (ixo v2 8 = true) (bv (fX7_compare (S4.2.2 1 v2.toNatClampNeg) r1 v3 S4) fun S5 => (some (true, S5)))))))))
    else (if (zI b1) = 0 then (bd (fX7_fits ((S1.1 5) &&& 63) 0 v3 S1) fun b3 S9 => (if (zI b3) = 0 then (some (false, S9))
    else (bv (fX7_operand ((S9.1 5) &&& 63) v3 S9) fun S10 => (bd (fX7_take v3 S10) fun r4 S11 => (if v1 = 3 then (bd (fX7_getA v2 S11) fun r5 S13 => (bd (fX7_extended r4 v3 S13) fun r6 S14 => (bv (fX7_compare r5 r6 4 S14) fun S15 => (some (true, S15)))))
    else (gd (ixo v2 8 = true) (bv (fX7_compare (S11.2.2 1 v2.toNatClampNeg) r4 v3 S11) fun S12 => (some (true, S12)))))))))
    else (bv (fX7_operand (24 ||| ((S1.1 5) &&& 7)) v3 S1) fun S16 => (bd (fX7_take v3 S16) fun r7 S17 => (bv (fX7_operand (24 ||| v2) v3 S17) fun S18 => (bd (fX7_take v3 S18) fun r8 S19 => (bv (fX7_compare r8 r7 v3 S19) fun S20 => (some (true, S20)))))))))) fun K2 =>
    (if v1 = 3 then (if (zI b1) = 0 then (K2 2 S)
    else (K2 4 S))
    else (bd (fX7_sizeOf v1 S) fun r9 S21 => (K2 r9 S21))))
    else (if (zI b1) = 0 then (jn (fun (v4 : Int32) (S22 : St) => (if 3 ≤ v1 then (bd (fX7_fits ((S22.1 5) &&& 63) 0 v4 S22) fun b4 S23 => (if (zI b4) = 0 then (some (false, S23))
    else (bv (fX7_operand ((S23.1 5) &&& 63) v4 S23) fun S24 => (bd (fX7_take v4 S24) fun r10 S25 => (if v1 = 3 then (bd (fX7_getA v2 S25) fun r11 S27 => (bd (fX7_extended r10 v4 S27) fun r12 S28 => (bv (fX7_compare r11 r12 4 S28) fun S29 => (some (true, S29)))))
    else (gd (ixo v2 8 = true) (bv (fX7_compare (S25.2.2 1 v2.toNatClampNeg) r10 v4 S25) fun S26 => (some (true, S26)))))))))
    else (if (zI b1) = 0 then (bd (fX7_fits ((S22.1 5) &&& 63) 0 v4 S22) fun b5 S30 => (if (zI b5) = 0 then (some (false, S30))
    else (bv (fX7_operand ((S30.1 5) &&& 63) v4 S30) fun S31 => (bd (fX7_take v4 S31) fun r13 S32 => (if v1 = 3 then (bd (fX7_getA v2 S32) fun r14 S34 => (bd (fX7_extended r13 v4 S34) fun r15 S35 => (bv (fX7_compare r14 r15 4 S35) fun S36 => (some (true, S36)))))
    else (gd (ixo v2 8 = true) (bv (fX7_compare (S32.2.2 1 v2.toNatClampNeg) r13 v4 S32) fun S33 => (some (true, S33)))))))))
    else (bv (fX7_operand (24 ||| ((S22.1 5) &&& 7)) v4 S22) fun S37 => (bd (fX7_take v4 S37) fun r16 S38 => (bv (fX7_operand (24 ||| v2) v4 S38) fun S39 => (bd (fX7_take v4 S39) fun r17 S40 => (bv (fX7_compare r17 r16 v4 S40) fun S41 => (some (true, S41)))))))))) fun K3 =>
    (if v1 = 3 then (if (zI b1) = 0 then (K3 2 S)
    else (K3 4 S))
    else (bd (fX7_sizeOf v1 S) fun r18 S42 => (K3 r18 S42))))
    else (if (((S.1 5) >>> ((3 : Int32) &&& 31)) &&& 7) = 1 then (jn (fun (v5 : Int32) (S43 : St) => (if 3 ≤ v1 then (bd (fX7_fits ((S43.1 5) &&& 63) 0 v5 S43) fun b6 S44 => (if (zI b6) = 0 then (some (false, S44))
    else (bv (fX7_operand ((S44.1 5) &&& 63) v5 S44) fun S45 => (bd (fX7_take v5 S45) fun r19 S46 => (if v1 = 3 then (bd (fX7_getA v2 S46) fun r20 S48 => (bd (fX7_extended r19 v5 S48) fun r21 S49 => (bv (fX7_compare r20 r21 4 S49) fun S50 => (some (true, S50)))))
    else (gd (ixo v2 8 = true) (bv (fX7_compare (S46.2.2 1 v2.toNatClampNeg) r19 v5 S46) fun S47 => (some (true, S47)))))))))
    else (if (zI b1) = 0 then (bd (fX7_fits ((S43.1 5) &&& 63) 0 v5 S43) fun b7 S51 => (if (zI b7) = 0 then (some (false, S51))
    else (bv (fX7_operand ((S51.1 5) &&& 63) v5 S51) fun S52 => (bd (fX7_take v5 S52) fun r22 S53 => (if v1 = 3 then (bd (fX7_getA v2 S53) fun r23 S55 => (bd (fX7_extended r22 v5 S55) fun r24 S56 => (bv (fX7_compare r23 r24 4 S56) fun S57 => (some (true, S57)))))
    else (gd (ixo v2 8 = true) (bv (fX7_compare (S53.2.2 1 v2.toNatClampNeg) r22 v5 S53) fun S54 => (some (true, S54)))))))))
    else (bv (fX7_operand (24 ||| ((S43.1 5) &&& 7)) v5 S43) fun S58 => (bd (fX7_take v5 S58) fun r25 S59 => (bv (fX7_operand (24 ||| v2) v5 S59) fun S60 => (bd (fX7_take v5 S60) fun r26 S61 => (bv (fX7_compare r26 r25 v5 S61) fun S62 => (some (true, S62)))))))))) fun K4 =>
    (if v1 = 3 then (if (zI b1) = 0 then (K4 2 S)
    else (K4 4 S))
    else (bd (fX7_sizeOf v1 S) fun r27 S63 => (K4 r27 S63))))
    else (bd (fX7_logicPair 2 S) fun b8 S64 => (some (b8, S64)))))))) fun K1 =>
    (if ((S.1 5) &&& 256) = 0 then (K1 false)
    else (K1 true))))
abbrev rmX7_group11 : Room := { frames := 7, cells := 0, slots := 0, locals := 163 }
set_option maxRecDepth 100000 in
set_option maxHeartbeats 4000000 in
theorem mX7_group11 (l : Launch) (D : va_G) (ad : Nat → Nat) (cI cB : ClassId) (en : Nat → Nat) (S : St)  (ro : Bool) (So : St) (hs : fX7_group11  S = some (ro, So)) : uM l yX7_group11 (wg yX7_group11 cX7_group11 6 (some .boolean)) rmX7_group11 (KM D ad cI cB en) D (wM ad cI cB) (AX 11 ad) [.ref (ad 0)] S (some (.int (zI ro)), So) := by
  refine uM_start (by decide) rfl ?_
  intro p e s m below meth c hx hb hr hlocks hml hown hts hK hP
  have hT : ∀ w ∈ wG, w.before _ s = true := fun w h => hts w (List.mem_cons_of_mem _ h)
  have hS : va_S (AX 11 ad s.heap.size) s.heap s.heap [] := va_S.rf
  have hown : s.vm.findClass RX7 = some m.cls := hown
  have C : CallFix p m c cX7_group11 6 s _ wG RX7 := ⟨hx, hb, hml, hown, hT⟩
  have hl := lv_entry ([.ref (ad 0)]) (n := 6) (Nat.le_of_ble_eq_true rfl)
  rw [lg_entry_eq]
  generalize (lg_sl ([.ref (ad 0)]) ++ List.replicate (6 - (lg_sl ([.ref (ad 0)])).length) Slot.unset).toArray = ls at hl ⊢
  have hl : lv_has ls 6 [(0, .ref (ad 0))] := hl
  unfold fX7_group11 at hs
  refine lv_aload_n hx hb dX7_group11_0 rfl (lv_at hl 0 rfl) ?_
  refine gM_X7_op hx hb hT hown hK hP (hT _ tF_X7_174) dX7_group11_1 ?_
  refine lv_bipush (v := 6) hx hb dX7_group11_4 (by decide) ?_
  refine lv_ishr hx hb dX7_group11_6 ?_
  refine lv_iconst (v := 3) hx hb dX7_group11_7 (by decide) ?_
  refine lv_iand hx hb dX7_group11_8 ?_
  obtain ⟨v1, h1, hs⟩ := lt_e hs
  refine u_top h1 ?_
  refine lv_istore_n (lv' := [(1, .int v1), (0, .ref (ad 0))]) hx hb dX7_group11_9 rfl hl (by decide) rfl (fun ls hl => ?_)
  refine lv_aload_n hx hb dX7_group11_10 rfl (lv_at hl 1 rfl) ?_
  refine gM_X7_op hx hb hT hown hK hP (hT _ tF_X7_174) dX7_group11_11 ?_
  refine lv_sipush (v := 256) hx hb dX7_group11_14 (by decide) ?_
  refine lv_iand hx hb dX7_group11_17 ?_
  refine jn_e hs (fun K1 => ∀ (b1 : Bool) (H : Heap) (locs : List Loc) (ls : Array Slot), lv_has ls 6 [(1, .int v1), (0, .ref (ad 0))] → va_P D vwCl (wM ad cI cB S) H → va_S (AX 11 ad s.heap.size) s.heap H locs → K1 b1 = some (ro, So) → W p l e rmX7_group11 s m ([.ref (ad 0)] : List Value).toArray below meth c H locs 0 0 (MQ below (uQ D (wM ad cI cB) (some (.int (zI ro)), So) (AX 11 ad s.heap.size)) ([.ref (ad 0)] : List Value).toArray s 0 0 (AX 11 ad s.heap.size)) (F0 m 26 ls [.int (zI b1)])) ?_ (fun K1 J1 hs => ?_)
  · intro b1 H locs ls hl hP hS hs
    refine lv_istore_n (lv' := [(2, .int (zI b1)), (1, .int v1), (0, .ref (ad 0))]) hx hb dX7_group11_26 rfl hl (by decide) rfl (fun ls hl => ?_)
    refine lv_aload_n hx hb dX7_group11_27 rfl (lv_at hl 2 rfl) ?_
    refine gM_X7_op hx hb hT hown hK hP (hT _ tF_X7_174) dX7_group11_28 ?_
    refine lv_bipush (v := 9) hx hb dX7_group11_31 (by decide) ?_
    refine lv_ishr hx hb dX7_group11_33 ?_
    refine lv_bipush (v := 7) hx hb dX7_group11_34 (by decide) ?_
    refine lv_iand hx hb dX7_group11_36 ?_
    obtain ⟨v2, h2, hs⟩ := lt_e hs
    refine u_top h2 ?_
    refine lv_istore_n (lv' := [(3, .int v2), (2, .int (zI b1)), (1, .int v1), (0, .ref (ad 0))]) hx hb dX7_group11_37 rfl hl (by decide) rfl (fun ls hl => ?_)
    refine lv_iload_n hx hb dX7_group11_38 rfl (lv_at hl 2 rfl) ?_
    refine lv_iconst (v := 3) hx hb dX7_group11_39 (by decide) ?_
    refine lv_icmp_ge (tgt := 66) hx hb dX7_group11_40 (by decide) (fun c1 => ?_) (fun c1 => ?_)
    · have hs := if_t c1 hs
      refine lv_iload_n hx hb dX7_group11_66 rfl (lv_at hl 2 rfl) ?_
      refine lv_iconst (v := 3) hx hb dX7_group11_67 (by decide) ?_
      refine jn_e hs (fun K2 => ∀ (v3 : Int32) (S1 : St) (H : Heap) (locs : List Loc) (ls : Array Slot), lv_has ls 6 [(3, .int v2), (2, .int (zI b1)), (1, .int v1), (0, .ref (ad 0))] → va_P D vwCl (wM ad cI cB S1) H → va_S (AX 11 ad s.heap.size) s.heap H locs → K2 v3 S1 = some (ro, So) → W p l e rmX7_group11 s m ([.ref (ad 0)] : List Value).toArray below meth c H locs 0 0 (MQ below (uQ D (wM ad cI cB) (some (.int (zI ro)), So) (AX 11 ad s.heap.size)) ([.ref (ad 0)] : List Value).toArray s 0 0 (AX 11 ad s.heap.size)) (F0 m 87 ls [.int v3])) ?_ (fun K2 J2 hs => ?_)
      · intro v3 S1 H locs ls hl hP hS hs
        refine lv_istore (lv' := [(4, .int v3), (3, .int v2), (2, .int (zI b1)), (1, .int v1), (0, .ref (ad 0))]) hx hb dX7_group11_87 hl (by decide) rfl (fun ls hl => ?_)
        refine lv_iload_n hx hb dX7_group11_89 rfl (lv_at hl 3 rfl) ?_
        refine lv_iconst (v := 3) hx hb dX7_group11_90 (by decide) ?_
        refine lv_icmp_ge (tgt := 148) hx hb dX7_group11_91 (by decide) (fun c2 => ?_) (fun c2 => ?_)
        · have hs := if_t c2 hs
          refine lv_aload_n hx hb dX7_group11_148 rfl (lv_at hl 4 rfl) ?_
          refine gM_X7_op hx hb hT hown hK hP (hT _ tF_X7_174) dX7_group11_149 ?_
          refine lv_bipush (v := 63) hx hb dX7_group11_152 (by decide) ?_
          refine lv_iand hx hb dX7_group11_154 ?_
          refine lv_iconst (v := 0) hx hb dX7_group11_155 (by decide) ?_
          refine lv_iload hx hb dX7_group11_156 (lv_at hl 0 rfl) ?_
          obtain ⟨b2, S2, h3, hs⟩ := bd_e hs
          refine kX7_fits C tM_X7_188 ⟨Nat.le_of_ble_eq_true rfl, Nat.le_of_ble_eq_true rfl⟩ ⟨Nat.le_of_ble_eq_true rfl, Nat.le_of_ble_eq_true rfl⟩ hK hP hS hl.1 (rest := []) (Nat.le_of_ble_eq_true rfl) dX7_group11_158 h3 (fun H locs hP hS => ?_)
          refine lv_if_ne (tgt := 166) hx hb dX7_group11_161 (by decide) (fun c3 => ?_) (fun c3 => ?_)
          · have hs := if_f c3 hs
            refine lv_aload_n hx hb dX7_group11_166 rfl (lv_at hl 4 rfl) ?_
            refine lv_aload_n hx hb dX7_group11_167 rfl (lv_at hl 4 rfl) ?_
            refine gM_X7_op hx hb hT hown hK hP (hT _ tF_X7_174) dX7_group11_168 ?_
            refine lv_bipush (v := 63) hx hb dX7_group11_171 (by decide) ?_
            refine lv_iand hx hb dX7_group11_173 ?_
            refine lv_iload hx hb dX7_group11_174 (lv_at hl 0 rfl) ?_
            obtain ⟨S3, h4, hs⟩ := bv_e hs
            refine kX7_operand C tM_X7_192 ⟨Nat.le_of_ble_eq_true rfl, Nat.le_of_ble_eq_true rfl⟩ ⟨Nat.le_of_ble_eq_true rfl, Nat.le_of_ble_eq_true rfl⟩ hK hP hS hl.1 (rest := []) (Nat.le_of_ble_eq_true rfl) dX7_group11_176 h4 (fun H locs hP hS => ?_)
            refine lv_aload_n hx hb dX7_group11_179 rfl (lv_at hl 4 rfl) ?_
            refine lv_iload hx hb dX7_group11_180 (lv_at hl 0 rfl) ?_
            obtain ⟨r1, S4, h5, hs⟩ := bd_e hs
            refine kX7_take C tM_X7_195 ⟨Nat.le_of_ble_eq_true rfl, Nat.le_of_ble_eq_true rfl⟩ ⟨Nat.le_of_ble_eq_true rfl, Nat.le_of_ble_eq_true rfl⟩ hK hP hS hl.1 (rest := []) (Nat.le_of_ble_eq_true rfl) dX7_group11_182 h5 (fun H locs hP hS => ?_)
            refine lv_istore (lv' := [(5, .int r1), (4, .int v3), (3, .int v2), (2, .int (zI b1)), (1, .int v1), (0, .ref (ad 0))]) hx hb dX7_group11_185 hl (by decide) rfl (fun ls hl => ?_)
            refine lv_iload_n hx hb dX7_group11_187 rfl (lv_at hl 4 rfl) ?_
            refine lv_iconst (v := 3) hx hb dX7_group11_188 (by decide) ?_
            refine lv_icmp_ne (tgt := 212) hx hb dX7_group11_189 (by decide) (fun c4 => ?_) (fun c4 => ?_)
            · have hs := if_f c4 hs
              refine lv_aload_n hx hb dX7_group11_212 rfl (lv_at hl 5 rfl) ?_
              refine lv_aload_n hx hb dX7_group11_213 rfl (lv_at hl 5 rfl) ?_
              refine gM_X7_d hx hb hT hown hK hP (hT _ tF_X7_13) dX7_group11_214 ?_
              refine lv_iload_n hx hb dX7_group11_217 rfl (lv_at hl 2 rfl) ?_
              obtain ⟨h6, hs⟩ := gd_e hs
              refine lM_d hx hb hK hP (ixo_in h6) dX7_group11_218 ?_
              refine lv_iload hx hb dX7_group11_219 (lv_at hl 0 rfl) ?_
              refine lv_iload hx hb dX7_group11_221 (lv_at hl 1 rfl) ?_
              obtain ⟨S5, h7, hs⟩ := bv_e hs
              refine kX7_compare C tM_X7_217 ⟨Nat.le_of_ble_eq_true rfl, Nat.le_of_ble_eq_true rfl⟩ ⟨Nat.le_of_ble_eq_true rfl, Nat.le_of_ble_eq_true rfl⟩ hK hP hS hl.1 (rest := []) (Nat.le_of_ble_eq_true rfl) dX7_group11_223 h7 (fun H locs hP hS => ?_)
              refine lv_iconst (v := 1) hx hb dX7_group11_226 (by decide) ?_
              exact u_zret (v := true) hx hb hr hlocks hP hS hs dX7_group11_227
            · have hs := if_t c4 hs
              refine lv_aload_n hx hb dX7_group11_192 rfl (lv_at hl 5 rfl) ?_
              refine lv_aload_n hx hb dX7_group11_193 rfl (lv_at hl 5 rfl) ?_
              refine lv_iload_n hx hb dX7_group11_194 rfl (lv_at hl 2 rfl) ?_
              obtain ⟨r2, S6, h8, hs⟩ := bd_e hs
              refine kX7_getA C tM_X7_70 ⟨Nat.le_of_ble_eq_true rfl, Nat.le_of_ble_eq_true rfl⟩ ⟨Nat.le_of_ble_eq_true rfl, Nat.le_of_ble_eq_true rfl⟩ hK hP hS hl.1 (rest := [.ref (ad 0)]) (Nat.le_of_ble_eq_true rfl) dX7_group11_195 h8 (fun H locs hP hS => ?_)
              refine lv_iload hx hb dX7_group11_198 (lv_at hl 0 rfl) ?_
              refine lv_iload hx hb dX7_group11_200 (lv_at hl 1 rfl) ?_
              obtain ⟨r3, S7, h9, hs⟩ := bd_e hs
              refine kX7_extended C tM_X7_157 ⟨Nat.le_of_ble_eq_true rfl, Nat.le_of_ble_eq_true rfl⟩ ⟨Nat.le_of_ble_eq_true rfl, Nat.le_of_ble_eq_true rfl⟩ hK hP hS hl.1 (rest := [.int r2, .ref (ad 0)]) (Nat.le_of_ble_eq_true rfl) dX7_group11_202 h9 (fun H locs hP hS => ?_)
              refine lv_iconst (v := 4) hx hb dX7_group11_205 (by decide) ?_
              obtain ⟨S8, h10, hs⟩ := bv_e hs
              refine kX7_compare C tM_X7_217 ⟨Nat.le_of_ble_eq_true rfl, Nat.le_of_ble_eq_true rfl⟩ ⟨Nat.le_of_ble_eq_true rfl, Nat.le_of_ble_eq_true rfl⟩ hK hP hS hl.1 (rest := []) (Nat.le_of_ble_eq_true rfl) dX7_group11_206 h10 (fun H locs hP hS => ?_)
              refine lv_goto (tgt := 226) hx hb dX7_group11_209 (by decide) ?_
              refine lv_iconst (v := 1) hx hb dX7_group11_226 (by decide) ?_
              exact u_zret (v := true) hx hb hr hlocks hP hS hs dX7_group11_227
          · have hs := if_t c3 hs
            refine lv_iconst (v := 0) hx hb dX7_group11_164 (by decide) ?_
            exact u_zret (v := false) hx hb hr hlocks hP hS hs dX7_group11_165
        · have hs := if_f c2 hs
          refine lv_iload_n hx hb dX7_group11_94 rfl (lv_at hl 2 rfl) ?_
          refine lv_if_eq (tgt := 148) hx hb dX7_group11_95 (by decide) (fun c5 => ?_) (fun c5 => ?_)
          · have hs := if_t c5 hs
            refine lv_aload_n hx hb dX7_group11_148 rfl (lv_at hl 4 rfl) ?_
            refine gM_X7_op hx hb hT hown hK hP (hT _ tF_X7_174) dX7_group11_149 ?_
            refine lv_bipush (v := 63) hx hb dX7_group11_152 (by decide) ?_
            refine lv_iand hx hb dX7_group11_154 ?_
            refine lv_iconst (v := 0) hx hb dX7_group11_155 (by decide) ?_
            refine lv_iload hx hb dX7_group11_156 (lv_at hl 0 rfl) ?_
            obtain ⟨b3, S9, h11, hs⟩ := bd_e hs
            refine kX7_fits C tM_X7_188 ⟨Nat.le_of_ble_eq_true rfl, Nat.le_of_ble_eq_true rfl⟩ ⟨Nat.le_of_ble_eq_true rfl, Nat.le_of_ble_eq_true rfl⟩ hK hP hS hl.1 (rest := []) (Nat.le_of_ble_eq_true rfl) dX7_group11_158 h11 (fun H locs hP hS => ?_)
            refine lv_if_ne (tgt := 166) hx hb dX7_group11_161 (by decide) (fun c6 => ?_) (fun c6 => ?_)
            · have hs := if_f c6 hs
              refine lv_aload_n hx hb dX7_group11_166 rfl (lv_at hl 4 rfl) ?_
              refine lv_aload_n hx hb dX7_group11_167 rfl (lv_at hl 4 rfl) ?_
              refine gM_X7_op hx hb hT hown hK hP (hT _ tF_X7_174) dX7_group11_168 ?_
              refine lv_bipush (v := 63) hx hb dX7_group11_171 (by decide) ?_
              refine lv_iand hx hb dX7_group11_173 ?_
              refine lv_iload hx hb dX7_group11_174 (lv_at hl 0 rfl) ?_
              obtain ⟨S10, h12, hs⟩ := bv_e hs
              refine kX7_operand C tM_X7_192 ⟨Nat.le_of_ble_eq_true rfl, Nat.le_of_ble_eq_true rfl⟩ ⟨Nat.le_of_ble_eq_true rfl, Nat.le_of_ble_eq_true rfl⟩ hK hP hS hl.1 (rest := []) (Nat.le_of_ble_eq_true rfl) dX7_group11_176 h12 (fun H locs hP hS => ?_)
              refine lv_aload_n hx hb dX7_group11_179 rfl (lv_at hl 4 rfl) ?_
              refine lv_iload hx hb dX7_group11_180 (lv_at hl 0 rfl) ?_
              obtain ⟨r4, S11, h13, hs⟩ := bd_e hs
              refine kX7_take C tM_X7_195 ⟨Nat.le_of_ble_eq_true rfl, Nat.le_of_ble_eq_true rfl⟩ ⟨Nat.le_of_ble_eq_true rfl, Nat.le_of_ble_eq_true rfl⟩ hK hP hS hl.1 (rest := []) (Nat.le_of_ble_eq_true rfl) dX7_group11_182 h13 (fun H locs hP hS => ?_)
              refine lv_istore (lv' := [(5, .int r4), (4, .int v3), (3, .int v2), (2, .int (zI b1)), (1, .int v1), (0, .ref (ad 0))]) hx hb dX7_group11_185 hl (by decide) rfl (fun ls hl => ?_)
              refine lv_iload_n hx hb dX7_group11_187 rfl (lv_at hl 4 rfl) ?_
              refine lv_iconst (v := 3) hx hb dX7_group11_188 (by decide) ?_
              refine lv_icmp_ne (tgt := 212) hx hb dX7_group11_189 (by decide) (fun c7 => ?_) (fun c7 => ?_)
              · have hs := if_f c7 hs
                refine lv_aload_n hx hb dX7_group11_212 rfl (lv_at hl 5 rfl) ?_
                refine lv_aload_n hx hb dX7_group11_213 rfl (lv_at hl 5 rfl) ?_
                refine gM_X7_d hx hb hT hown hK hP (hT _ tF_X7_13) dX7_group11_214 ?_
                refine lv_iload_n hx hb dX7_group11_217 rfl (lv_at hl 2 rfl) ?_
                obtain ⟨h14, hs⟩ := gd_e hs
                refine lM_d hx hb hK hP (ixo_in h14) dX7_group11_218 ?_
                refine lv_iload hx hb dX7_group11_219 (lv_at hl 0 rfl) ?_
                refine lv_iload hx hb dX7_group11_221 (lv_at hl 1 rfl) ?_
                obtain ⟨S12, h15, hs⟩ := bv_e hs
                refine kX7_compare C tM_X7_217 ⟨Nat.le_of_ble_eq_true rfl, Nat.le_of_ble_eq_true rfl⟩ ⟨Nat.le_of_ble_eq_true rfl, Nat.le_of_ble_eq_true rfl⟩ hK hP hS hl.1 (rest := []) (Nat.le_of_ble_eq_true rfl) dX7_group11_223 h15 (fun H locs hP hS => ?_)
                refine lv_iconst (v := 1) hx hb dX7_group11_226 (by decide) ?_
                exact u_zret (v := true) hx hb hr hlocks hP hS hs dX7_group11_227
              · have hs := if_t c7 hs
                refine lv_aload_n hx hb dX7_group11_192 rfl (lv_at hl 5 rfl) ?_
                refine lv_aload_n hx hb dX7_group11_193 rfl (lv_at hl 5 rfl) ?_
                refine lv_iload_n hx hb dX7_group11_194 rfl (lv_at hl 2 rfl) ?_
                obtain ⟨r5, S13, h16, hs⟩ := bd_e hs
                refine kX7_getA C tM_X7_70 ⟨Nat.le_of_ble_eq_true rfl, Nat.le_of_ble_eq_true rfl⟩ ⟨Nat.le_of_ble_eq_true rfl, Nat.le_of_ble_eq_true rfl⟩ hK hP hS hl.1 (rest := [.ref (ad 0)]) (Nat.le_of_ble_eq_true rfl) dX7_group11_195 h16 (fun H locs hP hS => ?_)
                refine lv_iload hx hb dX7_group11_198 (lv_at hl 0 rfl) ?_
                refine lv_iload hx hb dX7_group11_200 (lv_at hl 1 rfl) ?_
                obtain ⟨r6, S14, h17, hs⟩ := bd_e hs
                refine kX7_extended C tM_X7_157 ⟨Nat.le_of_ble_eq_true rfl, Nat.le_of_ble_eq_true rfl⟩ ⟨Nat.le_of_ble_eq_true rfl, Nat.le_of_ble_eq_true rfl⟩ hK hP hS hl.1 (rest := [.int r5, .ref (ad 0)]) (Nat.le_of_ble_eq_true rfl) dX7_group11_202 h17 (fun H locs hP hS => ?_)
                refine lv_iconst (v := 4) hx hb dX7_group11_205 (by decide) ?_
                obtain ⟨S15, h18, hs⟩ := bv_e hs
                refine kX7_compare C tM_X7_217 ⟨Nat.le_of_ble_eq_true rfl, Nat.le_of_ble_eq_true rfl⟩ ⟨Nat.le_of_ble_eq_true rfl, Nat.le_of_ble_eq_true rfl⟩ hK hP hS hl.1 (rest := []) (Nat.le_of_ble_eq_true rfl) dX7_group11_206 h18 (fun H locs hP hS => ?_)
                refine lv_goto (tgt := 226) hx hb dX7_group11_209 (by decide) ?_
                refine lv_iconst (v := 1) hx hb dX7_group11_226 (by decide) ?_
                exact u_zret (v := true) hx hb hr hlocks hP hS hs dX7_group11_227
            · have hs := if_t c6 hs
              refine lv_iconst (v := 0) hx hb dX7_group11_164 (by decide) ?_
              exact u_zret (v := false) hx hb hr hlocks hP hS hs dX7_group11_165
          · have hs := if_f c5 hs
            refine lv_aload_n hx hb dX7_group11_98 rfl (lv_at hl 4 rfl) ?_
            refine lv_bipush (v := 24) hx hb dX7_group11_99 (by decide) ?_
            refine lv_aload_n hx hb dX7_group11_101 rfl (lv_at hl 4 rfl) ?_
            refine gM_X7_op hx hb hT hown hK hP (hT _ tF_X7_174) dX7_group11_102 ?_
            refine lv_bipush (v := 7) hx hb dX7_group11_105 (by decide) ?_
            refine lv_iand hx hb dX7_group11_107 ?_
            refine lv_ior hx hb dX7_group11_108 ?_
            refine lv_iload hx hb dX7_group11_109 (lv_at hl 0 rfl) ?_
            obtain ⟨S16, h19, hs⟩ := bv_e hs
            refine kX7_operand C tM_X7_192 ⟨Nat.le_of_ble_eq_true rfl, Nat.le_of_ble_eq_true rfl⟩ ⟨Nat.le_of_ble_eq_true rfl, Nat.le_of_ble_eq_true rfl⟩ hK hP hS hl.1 (rest := []) (Nat.le_of_ble_eq_true rfl) dX7_group11_111 h19 (fun H locs hP hS => ?_)
            refine lv_aload_n hx hb dX7_group11_114 rfl (lv_at hl 4 rfl) ?_
            refine lv_iload hx hb dX7_group11_115 (lv_at hl 0 rfl) ?_
            obtain ⟨r7, S17, h20, hs⟩ := bd_e hs
            refine kX7_take C tM_X7_195 ⟨Nat.le_of_ble_eq_true rfl, Nat.le_of_ble_eq_true rfl⟩ ⟨Nat.le_of_ble_eq_true rfl, Nat.le_of_ble_eq_true rfl⟩ hK hP hS hl.1 (rest := []) (Nat.le_of_ble_eq_true rfl) dX7_group11_117 h20 (fun H locs hP hS => ?_)
            refine lv_istore (lv' := [(5, .int r7), (4, .int v3), (3, .int v2), (2, .int (zI b1)), (1, .int v1), (0, .ref (ad 0))]) hx hb dX7_group11_120 hl (by decide) rfl (fun ls hl => ?_)
            refine lv_aload_n hx hb dX7_group11_122 rfl (lv_at hl 5 rfl) ?_
            refine lv_bipush (v := 24) hx hb dX7_group11_123 (by decide) ?_
            refine lv_iload_n hx hb dX7_group11_125 rfl (lv_at hl 2 rfl) ?_
            refine lv_ior hx hb dX7_group11_126 ?_
            refine lv_iload hx hb dX7_group11_127 (lv_at hl 1 rfl) ?_
            obtain ⟨S18, h21, hs⟩ := bv_e hs
            refine kX7_operand C tM_X7_192 ⟨Nat.le_of_ble_eq_true rfl, Nat.le_of_ble_eq_true rfl⟩ ⟨Nat.le_of_ble_eq_true rfl, Nat.le_of_ble_eq_true rfl⟩ hK hP hS hl.1 (rest := []) (Nat.le_of_ble_eq_true rfl) dX7_group11_129 h21 (fun H locs hP hS => ?_)
            refine lv_aload_n hx hb dX7_group11_132 rfl (lv_at hl 5 rfl) ?_
            refine lv_aload_n hx hb dX7_group11_133 rfl (lv_at hl 5 rfl) ?_
            refine lv_iload hx hb dX7_group11_134 (lv_at hl 1 rfl) ?_
            obtain ⟨r8, S19, h22, hs⟩ := bd_e hs
            refine kX7_take C tM_X7_195 ⟨Nat.le_of_ble_eq_true rfl, Nat.le_of_ble_eq_true rfl⟩ ⟨Nat.le_of_ble_eq_true rfl, Nat.le_of_ble_eq_true rfl⟩ hK hP hS hl.1 (rest := [.ref (ad 0)]) (Nat.le_of_ble_eq_true rfl) dX7_group11_136 h22 (fun H locs hP hS => ?_)
            refine lv_iload hx hb dX7_group11_139 (lv_at hl 0 rfl) ?_
            refine lv_iload hx hb dX7_group11_141 (lv_at hl 1 rfl) ?_
            obtain ⟨S20, h23, hs⟩ := bv_e hs
            refine kX7_compare C tM_X7_217 ⟨Nat.le_of_ble_eq_true rfl, Nat.le_of_ble_eq_true rfl⟩ ⟨Nat.le_of_ble_eq_true rfl, Nat.le_of_ble_eq_true rfl⟩ hK hP hS hl.1 (rest := []) (Nat.le_of_ble_eq_true rfl) dX7_group11_143 h23 (fun H locs hP hS => ?_)
            refine lv_iconst (v := 1) hx hb dX7_group11_146 (by decide) ?_
            exact u_zret (v := true) hx hb hr hlocks hP hS hs dX7_group11_147
      ·
        refine lv_icmp_ne (tgt := 83) hx hb dX7_group11_68 (by decide) (fun c8 => ?_) (fun c8 => ?_)
        · have hs := if_f c8 hs
          refine lv_iload_n hx hb dX7_group11_83 rfl (lv_at hl 2 rfl) ?_
          obtain ⟨r9, S21, h24, hs⟩ := bd_e hs
          refine kX7_sizeOf C tM_X7_211 ⟨Nat.le_of_ble_eq_true rfl, Nat.le_of_ble_eq_true rfl⟩ ⟨Nat.le_of_ble_eq_true rfl, Nat.le_of_ble_eq_true rfl⟩ hK hP hS hl.1 (rest := []) (Nat.le_of_ble_eq_true rfl) dX7_group11_84 h24 (fun H locs hP hS => ?_)
          exact J2 r9 S21 _ _ _ (lv_sub hl [0, 1, 2, 3] rfl) hP hS hs
        · have hs := if_t c8 hs
          refine lv_iload_n hx hb dX7_group11_71 rfl (lv_at hl 1 rfl) ?_
          refine lv_if_eq (tgt := 79) hx hb dX7_group11_72 (by decide) (fun c9 => ?_) (fun c9 => ?_)
          · have hs := if_t c9 hs
            refine lv_iconst (v := 2) hx hb dX7_group11_79 (by decide) ?_
            refine lv_goto (tgt := 87) hx hb dX7_group11_80 (by decide) ?_
            exact J2 2 S _ _ _ (lv_sub hl [0, 1, 2, 3] rfl) hP hS hs
          · have hs := if_f c9 hs
            refine lv_iconst (v := 4) hx hb dX7_group11_75 (by decide) ?_
            refine lv_goto (tgt := 87) hx hb dX7_group11_76 (by decide) ?_
            exact J2 4 S _ _ _ (lv_sub hl [0, 1, 2, 3] rfl) hP hS hs
    · have hs := if_f c1 hs
      refine lv_iload_n hx hb dX7_group11_43 rfl (lv_at hl 1 rfl) ?_
      refine lv_if_eq (tgt := 66) hx hb dX7_group11_44 (by decide) (fun c10 => ?_) (fun c10 => ?_)
      · have hs := if_t c10 hs
        refine lv_iload_n hx hb dX7_group11_66 rfl (lv_at hl 2 rfl) ?_
        refine lv_iconst (v := 3) hx hb dX7_group11_67 (by decide) ?_
        refine jn_e hs (fun K3 => ∀ (v4 : Int32) (S22 : St) (H : Heap) (locs : List Loc) (ls : Array Slot), lv_has ls 6 [(3, .int v2), (2, .int (zI b1)), (1, .int v1), (0, .ref (ad 0))] → va_P D vwCl (wM ad cI cB S22) H → va_S (AX 11 ad s.heap.size) s.heap H locs → K3 v4 S22 = some (ro, So) → W p l e rmX7_group11 s m ([.ref (ad 0)] : List Value).toArray below meth c H locs 0 0 (MQ below (uQ D (wM ad cI cB) (some (.int (zI ro)), So) (AX 11 ad s.heap.size)) ([.ref (ad 0)] : List Value).toArray s 0 0 (AX 11 ad s.heap.size)) (F0 m 87 ls [.int v4])) ?_ (fun K3 J3 hs => ?_)
        · intro v4 S22 H locs ls hl hP hS hs
          refine lv_istore (lv' := [(4, .int v4), (3, .int v2), (2, .int (zI b1)), (1, .int v1), (0, .ref (ad 0))]) hx hb dX7_group11_87 hl (by decide) rfl (fun ls hl => ?_)
          refine lv_iload_n hx hb dX7_group11_89 rfl (lv_at hl 3 rfl) ?_
          refine lv_iconst (v := 3) hx hb dX7_group11_90 (by decide) ?_
          refine lv_icmp_ge (tgt := 148) hx hb dX7_group11_91 (by decide) (fun c11 => ?_) (fun c11 => ?_)
          · have hs := if_t c11 hs
            refine lv_aload_n hx hb dX7_group11_148 rfl (lv_at hl 4 rfl) ?_
            refine gM_X7_op hx hb hT hown hK hP (hT _ tF_X7_174) dX7_group11_149 ?_
            refine lv_bipush (v := 63) hx hb dX7_group11_152 (by decide) ?_
            refine lv_iand hx hb dX7_group11_154 ?_
            refine lv_iconst (v := 0) hx hb dX7_group11_155 (by decide) ?_
            refine lv_iload hx hb dX7_group11_156 (lv_at hl 0 rfl) ?_
            obtain ⟨b4, S23, h25, hs⟩ := bd_e hs
            refine kX7_fits C tM_X7_188 ⟨Nat.le_of_ble_eq_true rfl, Nat.le_of_ble_eq_true rfl⟩ ⟨Nat.le_of_ble_eq_true rfl, Nat.le_of_ble_eq_true rfl⟩ hK hP hS hl.1 (rest := []) (Nat.le_of_ble_eq_true rfl) dX7_group11_158 h25 (fun H locs hP hS => ?_)
            refine lv_if_ne (tgt := 166) hx hb dX7_group11_161 (by decide) (fun c12 => ?_) (fun c12 => ?_)
            · have hs := if_f c12 hs
              refine lv_aload_n hx hb dX7_group11_166 rfl (lv_at hl 4 rfl) ?_
              refine lv_aload_n hx hb dX7_group11_167 rfl (lv_at hl 4 rfl) ?_
              refine gM_X7_op hx hb hT hown hK hP (hT _ tF_X7_174) dX7_group11_168 ?_
              refine lv_bipush (v := 63) hx hb dX7_group11_171 (by decide) ?_
              refine lv_iand hx hb dX7_group11_173 ?_
              refine lv_iload hx hb dX7_group11_174 (lv_at hl 0 rfl) ?_
              obtain ⟨S24, h26, hs⟩ := bv_e hs
              refine kX7_operand C tM_X7_192 ⟨Nat.le_of_ble_eq_true rfl, Nat.le_of_ble_eq_true rfl⟩ ⟨Nat.le_of_ble_eq_true rfl, Nat.le_of_ble_eq_true rfl⟩ hK hP hS hl.1 (rest := []) (Nat.le_of_ble_eq_true rfl) dX7_group11_176 h26 (fun H locs hP hS => ?_)
              refine lv_aload_n hx hb dX7_group11_179 rfl (lv_at hl 4 rfl) ?_
              refine lv_iload hx hb dX7_group11_180 (lv_at hl 0 rfl) ?_
              obtain ⟨r10, S25, h27, hs⟩ := bd_e hs
              refine kX7_take C tM_X7_195 ⟨Nat.le_of_ble_eq_true rfl, Nat.le_of_ble_eq_true rfl⟩ ⟨Nat.le_of_ble_eq_true rfl, Nat.le_of_ble_eq_true rfl⟩ hK hP hS hl.1 (rest := []) (Nat.le_of_ble_eq_true rfl) dX7_group11_182 h27 (fun H locs hP hS => ?_)
              refine lv_istore (lv' := [(5, .int r10), (4, .int v4), (3, .int v2), (2, .int (zI b1)), (1, .int v1), (0, .ref (ad 0))]) hx hb dX7_group11_185 hl (by decide) rfl (fun ls hl => ?_)
              refine lv_iload_n hx hb dX7_group11_187 rfl (lv_at hl 4 rfl) ?_
              refine lv_iconst (v := 3) hx hb dX7_group11_188 (by decide) ?_
              refine lv_icmp_ne (tgt := 212) hx hb dX7_group11_189 (by decide) (fun c13 => ?_) (fun c13 => ?_)
              · have hs := if_f c13 hs
                refine lv_aload_n hx hb dX7_group11_212 rfl (lv_at hl 5 rfl) ?_
                refine lv_aload_n hx hb dX7_group11_213 rfl (lv_at hl 5 rfl) ?_
                refine gM_X7_d hx hb hT hown hK hP (hT _ tF_X7_13) dX7_group11_214 ?_
                refine lv_iload_n hx hb dX7_group11_217 rfl (lv_at hl 2 rfl) ?_
                obtain ⟨h28, hs⟩ := gd_e hs
                refine lM_d hx hb hK hP (ixo_in h28) dX7_group11_218 ?_
                refine lv_iload hx hb dX7_group11_219 (lv_at hl 0 rfl) ?_
                refine lv_iload hx hb dX7_group11_221 (lv_at hl 1 rfl) ?_
                obtain ⟨S26, h29, hs⟩ := bv_e hs
                refine kX7_compare C tM_X7_217 ⟨Nat.le_of_ble_eq_true rfl, Nat.le_of_ble_eq_true rfl⟩ ⟨Nat.le_of_ble_eq_true rfl, Nat.le_of_ble_eq_true rfl⟩ hK hP hS hl.1 (rest := []) (Nat.le_of_ble_eq_true rfl) dX7_group11_223 h29 (fun H locs hP hS => ?_)
                refine lv_iconst (v := 1) hx hb dX7_group11_226 (by decide) ?_
                exact u_zret (v := true) hx hb hr hlocks hP hS hs dX7_group11_227
              · have hs := if_t c13 hs
                refine lv_aload_n hx hb dX7_group11_192 rfl (lv_at hl 5 rfl) ?_
                refine lv_aload_n hx hb dX7_group11_193 rfl (lv_at hl 5 rfl) ?_
                refine lv_iload_n hx hb dX7_group11_194 rfl (lv_at hl 2 rfl) ?_
                obtain ⟨r11, S27, h30, hs⟩ := bd_e hs
                refine kX7_getA C tM_X7_70 ⟨Nat.le_of_ble_eq_true rfl, Nat.le_of_ble_eq_true rfl⟩ ⟨Nat.le_of_ble_eq_true rfl, Nat.le_of_ble_eq_true rfl⟩ hK hP hS hl.1 (rest := [.ref (ad 0)]) (Nat.le_of_ble_eq_true rfl) dX7_group11_195 h30 (fun H locs hP hS => ?_)
                refine lv_iload hx hb dX7_group11_198 (lv_at hl 0 rfl) ?_
                refine lv_iload hx hb dX7_group11_200 (lv_at hl 1 rfl) ?_
                obtain ⟨r12, S28, h31, hs⟩ := bd_e hs
                refine kX7_extended C tM_X7_157 ⟨Nat.le_of_ble_eq_true rfl, Nat.le_of_ble_eq_true rfl⟩ ⟨Nat.le_of_ble_eq_true rfl, Nat.le_of_ble_eq_true rfl⟩ hK hP hS hl.1 (rest := [.int r11, .ref (ad 0)]) (Nat.le_of_ble_eq_true rfl) dX7_group11_202 h31 (fun H locs hP hS => ?_)
                refine lv_iconst (v := 4) hx hb dX7_group11_205 (by decide) ?_
                obtain ⟨S29, h32, hs⟩ := bv_e hs
                refine kX7_compare C tM_X7_217 ⟨Nat.le_of_ble_eq_true rfl, Nat.le_of_ble_eq_true rfl⟩ ⟨Nat.le_of_ble_eq_true rfl, Nat.le_of_ble_eq_true rfl⟩ hK hP hS hl.1 (rest := []) (Nat.le_of_ble_eq_true rfl) dX7_group11_206 h32 (fun H locs hP hS => ?_)
                refine lv_goto (tgt := 226) hx hb dX7_group11_209 (by decide) ?_
                refine lv_iconst (v := 1) hx hb dX7_group11_226 (by decide) ?_
                exact u_zret (v := true) hx hb hr hlocks hP hS hs dX7_group11_227
            · have hs := if_t c12 hs
              refine lv_iconst (v := 0) hx hb dX7_group11_164 (by decide) ?_
              exact u_zret (v := false) hx hb hr hlocks hP hS hs dX7_group11_165
          · have hs := if_f c11 hs
            refine lv_iload_n hx hb dX7_group11_94 rfl (lv_at hl 2 rfl) ?_
            refine lv_if_eq (tgt := 148) hx hb dX7_group11_95 (by decide) (fun c14 => ?_) (fun c14 => ?_)
            · have hs := if_t c14 hs
              refine lv_aload_n hx hb dX7_group11_148 rfl (lv_at hl 4 rfl) ?_
              refine gM_X7_op hx hb hT hown hK hP (hT _ tF_X7_174) dX7_group11_149 ?_
              refine lv_bipush (v := 63) hx hb dX7_group11_152 (by decide) ?_
              refine lv_iand hx hb dX7_group11_154 ?_
              refine lv_iconst (v := 0) hx hb dX7_group11_155 (by decide) ?_
              refine lv_iload hx hb dX7_group11_156 (lv_at hl 0 rfl) ?_
              obtain ⟨b5, S30, h33, hs⟩ := bd_e hs
              refine kX7_fits C tM_X7_188 ⟨Nat.le_of_ble_eq_true rfl, Nat.le_of_ble_eq_true rfl⟩ ⟨Nat.le_of_ble_eq_true rfl, Nat.le_of_ble_eq_true rfl⟩ hK hP hS hl.1 (rest := []) (Nat.le_of_ble_eq_true rfl) dX7_group11_158 h33 (fun H locs hP hS => ?_)
              refine lv_if_ne (tgt := 166) hx hb dX7_group11_161 (by decide) (fun c15 => ?_) (fun c15 => ?_)
              · have hs := if_f c15 hs
                refine lv_aload_n hx hb dX7_group11_166 rfl (lv_at hl 4 rfl) ?_
                refine lv_aload_n hx hb dX7_group11_167 rfl (lv_at hl 4 rfl) ?_
                refine gM_X7_op hx hb hT hown hK hP (hT _ tF_X7_174) dX7_group11_168 ?_
                refine lv_bipush (v := 63) hx hb dX7_group11_171 (by decide) ?_
                refine lv_iand hx hb dX7_group11_173 ?_
                refine lv_iload hx hb dX7_group11_174 (lv_at hl 0 rfl) ?_
                obtain ⟨S31, h34, hs⟩ := bv_e hs
                refine kX7_operand C tM_X7_192 ⟨Nat.le_of_ble_eq_true rfl, Nat.le_of_ble_eq_true rfl⟩ ⟨Nat.le_of_ble_eq_true rfl, Nat.le_of_ble_eq_true rfl⟩ hK hP hS hl.1 (rest := []) (Nat.le_of_ble_eq_true rfl) dX7_group11_176 h34 (fun H locs hP hS => ?_)
                refine lv_aload_n hx hb dX7_group11_179 rfl (lv_at hl 4 rfl) ?_
                refine lv_iload hx hb dX7_group11_180 (lv_at hl 0 rfl) ?_
                obtain ⟨r13, S32, h35, hs⟩ := bd_e hs
                refine kX7_take C tM_X7_195 ⟨Nat.le_of_ble_eq_true rfl, Nat.le_of_ble_eq_true rfl⟩ ⟨Nat.le_of_ble_eq_true rfl, Nat.le_of_ble_eq_true rfl⟩ hK hP hS hl.1 (rest := []) (Nat.le_of_ble_eq_true rfl) dX7_group11_182 h35 (fun H locs hP hS => ?_)
                refine lv_istore (lv' := [(5, .int r13), (4, .int v4), (3, .int v2), (2, .int (zI b1)), (1, .int v1), (0, .ref (ad 0))]) hx hb dX7_group11_185 hl (by decide) rfl (fun ls hl => ?_)
                refine lv_iload_n hx hb dX7_group11_187 rfl (lv_at hl 4 rfl) ?_
                refine lv_iconst (v := 3) hx hb dX7_group11_188 (by decide) ?_
                refine lv_icmp_ne (tgt := 212) hx hb dX7_group11_189 (by decide) (fun c16 => ?_) (fun c16 => ?_)
                · have hs := if_f c16 hs
                  refine lv_aload_n hx hb dX7_group11_212 rfl (lv_at hl 5 rfl) ?_
                  refine lv_aload_n hx hb dX7_group11_213 rfl (lv_at hl 5 rfl) ?_
                  refine gM_X7_d hx hb hT hown hK hP (hT _ tF_X7_13) dX7_group11_214 ?_
                  refine lv_iload_n hx hb dX7_group11_217 rfl (lv_at hl 2 rfl) ?_
                  obtain ⟨h36, hs⟩ := gd_e hs
                  refine lM_d hx hb hK hP (ixo_in h36) dX7_group11_218 ?_
                  refine lv_iload hx hb dX7_group11_219 (lv_at hl 0 rfl) ?_
                  refine lv_iload hx hb dX7_group11_221 (lv_at hl 1 rfl) ?_
                  obtain ⟨S33, h37, hs⟩ := bv_e hs
                  refine kX7_compare C tM_X7_217 ⟨Nat.le_of_ble_eq_true rfl, Nat.le_of_ble_eq_true rfl⟩ ⟨Nat.le_of_ble_eq_true rfl, Nat.le_of_ble_eq_true rfl⟩ hK hP hS hl.1 (rest := []) (Nat.le_of_ble_eq_true rfl) dX7_group11_223 h37 (fun H locs hP hS => ?_)
                  refine lv_iconst (v := 1) hx hb dX7_group11_226 (by decide) ?_
                  exact u_zret (v := true) hx hb hr hlocks hP hS hs dX7_group11_227
                · have hs := if_t c16 hs
                  refine lv_aload_n hx hb dX7_group11_192 rfl (lv_at hl 5 rfl) ?_
                  refine lv_aload_n hx hb dX7_group11_193 rfl (lv_at hl 5 rfl) ?_
                  refine lv_iload_n hx hb dX7_group11_194 rfl (lv_at hl 2 rfl) ?_
                  obtain ⟨r14, S34, h38, hs⟩ := bd_e hs
                  refine kX7_getA C tM_X7_70 ⟨Nat.le_of_ble_eq_true rfl, Nat.le_of_ble_eq_true rfl⟩ ⟨Nat.le_of_ble_eq_true rfl, Nat.le_of_ble_eq_true rfl⟩ hK hP hS hl.1 (rest := [.ref (ad 0)]) (Nat.le_of_ble_eq_true rfl) dX7_group11_195 h38 (fun H locs hP hS => ?_)
                  refine lv_iload hx hb dX7_group11_198 (lv_at hl 0 rfl) ?_
                  refine lv_iload hx hb dX7_group11_200 (lv_at hl 1 rfl) ?_
                  obtain ⟨r15, S35, h39, hs⟩ := bd_e hs
                  refine kX7_extended C tM_X7_157 ⟨Nat.le_of_ble_eq_true rfl, Nat.le_of_ble_eq_true rfl⟩ ⟨Nat.le_of_ble_eq_true rfl, Nat.le_of_ble_eq_true rfl⟩ hK hP hS hl.1 (rest := [.int r14, .ref (ad 0)]) (Nat.le_of_ble_eq_true rfl) dX7_group11_202 h39 (fun H locs hP hS => ?_)
                  refine lv_iconst (v := 4) hx hb dX7_group11_205 (by decide) ?_
                  obtain ⟨S36, h40, hs⟩ := bv_e hs
                  refine kX7_compare C tM_X7_217 ⟨Nat.le_of_ble_eq_true rfl, Nat.le_of_ble_eq_true rfl⟩ ⟨Nat.le_of_ble_eq_true rfl, Nat.le_of_ble_eq_true rfl⟩ hK hP hS hl.1 (rest := []) (Nat.le_of_ble_eq_true rfl) dX7_group11_206 h40 (fun H locs hP hS => ?_)
                  refine lv_goto (tgt := 226) hx hb dX7_group11_209 (by decide) ?_
                  refine lv_iconst (v := 1) hx hb dX7_group11_226 (by decide) ?_
                  exact u_zret (v := true) hx hb hr hlocks hP hS hs dX7_group11_227
              · have hs := if_t c15 hs
                refine lv_iconst (v := 0) hx hb dX7_group11_164 (by decide) ?_
                exact u_zret (v := false) hx hb hr hlocks hP hS hs dX7_group11_165
            · have hs := if_f c14 hs
              refine lv_aload_n hx hb dX7_group11_98 rfl (lv_at hl 4 rfl) ?_
              refine lv_bipush (v := 24) hx hb dX7_group11_99 (by decide) ?_
              refine lv_aload_n hx hb dX7_group11_101 rfl (lv_at hl 4 rfl) ?_
              refine gM_X7_op hx hb hT hown hK hP (hT _ tF_X7_174) dX7_group11_102 ?_
              refine lv_bipush (v := 7) hx hb dX7_group11_105 (by decide) ?_
              refine lv_iand hx hb dX7_group11_107 ?_
              refine lv_ior hx hb dX7_group11_108 ?_
              refine lv_iload hx hb dX7_group11_109 (lv_at hl 0 rfl) ?_
              obtain ⟨S37, h41, hs⟩ := bv_e hs
              refine kX7_operand C tM_X7_192 ⟨Nat.le_of_ble_eq_true rfl, Nat.le_of_ble_eq_true rfl⟩ ⟨Nat.le_of_ble_eq_true rfl, Nat.le_of_ble_eq_true rfl⟩ hK hP hS hl.1 (rest := []) (Nat.le_of_ble_eq_true rfl) dX7_group11_111 h41 (fun H locs hP hS => ?_)
              refine lv_aload_n hx hb dX7_group11_114 rfl (lv_at hl 4 rfl) ?_
              refine lv_iload hx hb dX7_group11_115 (lv_at hl 0 rfl) ?_
              obtain ⟨r16, S38, h42, hs⟩ := bd_e hs
              refine kX7_take C tM_X7_195 ⟨Nat.le_of_ble_eq_true rfl, Nat.le_of_ble_eq_true rfl⟩ ⟨Nat.le_of_ble_eq_true rfl, Nat.le_of_ble_eq_true rfl⟩ hK hP hS hl.1 (rest := []) (Nat.le_of_ble_eq_true rfl) dX7_group11_117 h42 (fun H locs hP hS => ?_)
              refine lv_istore (lv' := [(5, .int r16), (4, .int v4), (3, .int v2), (2, .int (zI b1)), (1, .int v1), (0, .ref (ad 0))]) hx hb dX7_group11_120 hl (by decide) rfl (fun ls hl => ?_)
              refine lv_aload_n hx hb dX7_group11_122 rfl (lv_at hl 5 rfl) ?_
              refine lv_bipush (v := 24) hx hb dX7_group11_123 (by decide) ?_
              refine lv_iload_n hx hb dX7_group11_125 rfl (lv_at hl 2 rfl) ?_
              refine lv_ior hx hb dX7_group11_126 ?_
              refine lv_iload hx hb dX7_group11_127 (lv_at hl 1 rfl) ?_
              obtain ⟨S39, h43, hs⟩ := bv_e hs
              refine kX7_operand C tM_X7_192 ⟨Nat.le_of_ble_eq_true rfl, Nat.le_of_ble_eq_true rfl⟩ ⟨Nat.le_of_ble_eq_true rfl, Nat.le_of_ble_eq_true rfl⟩ hK hP hS hl.1 (rest := []) (Nat.le_of_ble_eq_true rfl) dX7_group11_129 h43 (fun H locs hP hS => ?_)
              refine lv_aload_n hx hb dX7_group11_132 rfl (lv_at hl 5 rfl) ?_
              refine lv_aload_n hx hb dX7_group11_133 rfl (lv_at hl 5 rfl) ?_
              refine lv_iload hx hb dX7_group11_134 (lv_at hl 1 rfl) ?_
              obtain ⟨r17, S40, h44, hs⟩ := bd_e hs
              refine kX7_take C tM_X7_195 ⟨Nat.le_of_ble_eq_true rfl, Nat.le_of_ble_eq_true rfl⟩ ⟨Nat.le_of_ble_eq_true rfl, Nat.le_of_ble_eq_true rfl⟩ hK hP hS hl.1 (rest := [.ref (ad 0)]) (Nat.le_of_ble_eq_true rfl) dX7_group11_136 h44 (fun H locs hP hS => ?_)
              refine lv_iload hx hb dX7_group11_139 (lv_at hl 0 rfl) ?_
              refine lv_iload hx hb dX7_group11_141 (lv_at hl 1 rfl) ?_
              obtain ⟨S41, h45, hs⟩ := bv_e hs
              refine kX7_compare C tM_X7_217 ⟨Nat.le_of_ble_eq_true rfl, Nat.le_of_ble_eq_true rfl⟩ ⟨Nat.le_of_ble_eq_true rfl, Nat.le_of_ble_eq_true rfl⟩ hK hP hS hl.1 (rest := []) (Nat.le_of_ble_eq_true rfl) dX7_group11_143 h45 (fun H locs hP hS => ?_)
              refine lv_iconst (v := 1) hx hb dX7_group11_146 (by decide) ?_
              exact u_zret (v := true) hx hb hr hlocks hP hS hs dX7_group11_147
        ·
          refine lv_icmp_ne (tgt := 83) hx hb dX7_group11_68 (by decide) (fun c17 => ?_) (fun c17 => ?_)
          · have hs := if_f c17 hs
            refine lv_iload_n hx hb dX7_group11_83 rfl (lv_at hl 2 rfl) ?_
            obtain ⟨r18, S42, h46, hs⟩ := bd_e hs
            refine kX7_sizeOf C tM_X7_211 ⟨Nat.le_of_ble_eq_true rfl, Nat.le_of_ble_eq_true rfl⟩ ⟨Nat.le_of_ble_eq_true rfl, Nat.le_of_ble_eq_true rfl⟩ hK hP hS hl.1 (rest := []) (Nat.le_of_ble_eq_true rfl) dX7_group11_84 h46 (fun H locs hP hS => ?_)
            exact J3 r18 S42 _ _ _ (lv_sub hl [0, 1, 2, 3] rfl) hP hS hs
          · have hs := if_t c17 hs
            refine lv_iload_n hx hb dX7_group11_71 rfl (lv_at hl 1 rfl) ?_
            refine lv_if_eq (tgt := 79) hx hb dX7_group11_72 (by decide) (fun c18 => ?_) (fun c18 => ?_)
            · have hs := if_t c18 hs
              refine lv_iconst (v := 2) hx hb dX7_group11_79 (by decide) ?_
              refine lv_goto (tgt := 87) hx hb dX7_group11_80 (by decide) ?_
              exact J3 2 S _ _ _ (lv_sub hl [0, 1, 2, 3] rfl) hP hS hs
            · have hs := if_f c18 hs
              refine lv_iconst (v := 4) hx hb dX7_group11_75 (by decide) ?_
              refine lv_goto (tgt := 87) hx hb dX7_group11_76 (by decide) ?_
              exact J3 4 S _ _ _ (lv_sub hl [0, 1, 2, 3] rfl) hP hS hs
      · have hs := if_f c10 hs
        refine lv_aload_n hx hb dX7_group11_47 rfl (lv_at hl 3 rfl) ?_
        refine gM_X7_op hx hb hT hown hK hP (hT _ tF_X7_174) dX7_group11_48 ?_
        refine lv_iconst (v := 3) hx hb dX7_group11_51 (by decide) ?_
        refine lv_ishr hx hb dX7_group11_52 ?_
        refine lv_bipush (v := 7) hx hb dX7_group11_53 (by decide) ?_
        refine lv_iand hx hb dX7_group11_55 ?_
        refine lv_iconst (v := 1) hx hb dX7_group11_56 (by decide) ?_
        refine lv_icmp_eq (tgt := 66) hx hb dX7_group11_57 (by decide) (fun c19 => ?_) (fun c19 => ?_)
        · have hs := if_t c19 hs
          refine lv_iload_n hx hb dX7_group11_66 rfl (lv_at hl 2 rfl) ?_
          refine lv_iconst (v := 3) hx hb dX7_group11_67 (by decide) ?_
          refine jn_e hs (fun K4 => ∀ (v5 : Int32) (S43 : St) (H : Heap) (locs : List Loc) (ls : Array Slot), lv_has ls 6 [(3, .int v2), (2, .int (zI b1)), (1, .int v1), (0, .ref (ad 0))] → va_P D vwCl (wM ad cI cB S43) H → va_S (AX 11 ad s.heap.size) s.heap H locs → K4 v5 S43 = some (ro, So) → W p l e rmX7_group11 s m ([.ref (ad 0)] : List Value).toArray below meth c H locs 0 0 (MQ below (uQ D (wM ad cI cB) (some (.int (zI ro)), So) (AX 11 ad s.heap.size)) ([.ref (ad 0)] : List Value).toArray s 0 0 (AX 11 ad s.heap.size)) (F0 m 87 ls [.int v5])) ?_ (fun K4 J4 hs => ?_)
          · intro v5 S43 H locs ls hl hP hS hs
            refine lv_istore (lv' := [(4, .int v5), (3, .int v2), (2, .int (zI b1)), (1, .int v1), (0, .ref (ad 0))]) hx hb dX7_group11_87 hl (by decide) rfl (fun ls hl => ?_)
            refine lv_iload_n hx hb dX7_group11_89 rfl (lv_at hl 3 rfl) ?_
            refine lv_iconst (v := 3) hx hb dX7_group11_90 (by decide) ?_
            refine lv_icmp_ge (tgt := 148) hx hb dX7_group11_91 (by decide) (fun c20 => ?_) (fun c20 => ?_)
            · have hs := if_t c20 hs
              refine lv_aload_n hx hb dX7_group11_148 rfl (lv_at hl 4 rfl) ?_
              refine gM_X7_op hx hb hT hown hK hP (hT _ tF_X7_174) dX7_group11_149 ?_
              refine lv_bipush (v := 63) hx hb dX7_group11_152 (by decide) ?_
              refine lv_iand hx hb dX7_group11_154 ?_
              refine lv_iconst (v := 0) hx hb dX7_group11_155 (by decide) ?_
              refine lv_iload hx hb dX7_group11_156 (lv_at hl 0 rfl) ?_
              obtain ⟨b6, S44, h47, hs⟩ := bd_e hs
              refine kX7_fits C tM_X7_188 ⟨Nat.le_of_ble_eq_true rfl, Nat.le_of_ble_eq_true rfl⟩ ⟨Nat.le_of_ble_eq_true rfl, Nat.le_of_ble_eq_true rfl⟩ hK hP hS hl.1 (rest := []) (Nat.le_of_ble_eq_true rfl) dX7_group11_158 h47 (fun H locs hP hS => ?_)
              refine lv_if_ne (tgt := 166) hx hb dX7_group11_161 (by decide) (fun c21 => ?_) (fun c21 => ?_)
              · have hs := if_f c21 hs
                refine lv_aload_n hx hb dX7_group11_166 rfl (lv_at hl 4 rfl) ?_
                refine lv_aload_n hx hb dX7_group11_167 rfl (lv_at hl 4 rfl) ?_
                refine gM_X7_op hx hb hT hown hK hP (hT _ tF_X7_174) dX7_group11_168 ?_
                refine lv_bipush (v := 63) hx hb dX7_group11_171 (by decide) ?_
                refine lv_iand hx hb dX7_group11_173 ?_
                refine lv_iload hx hb dX7_group11_174 (lv_at hl 0 rfl) ?_
                obtain ⟨S45, h48, hs⟩ := bv_e hs
                refine kX7_operand C tM_X7_192 ⟨Nat.le_of_ble_eq_true rfl, Nat.le_of_ble_eq_true rfl⟩ ⟨Nat.le_of_ble_eq_true rfl, Nat.le_of_ble_eq_true rfl⟩ hK hP hS hl.1 (rest := []) (Nat.le_of_ble_eq_true rfl) dX7_group11_176 h48 (fun H locs hP hS => ?_)
                refine lv_aload_n hx hb dX7_group11_179 rfl (lv_at hl 4 rfl) ?_
                refine lv_iload hx hb dX7_group11_180 (lv_at hl 0 rfl) ?_
                obtain ⟨r19, S46, h49, hs⟩ := bd_e hs
                refine kX7_take C tM_X7_195 ⟨Nat.le_of_ble_eq_true rfl, Nat.le_of_ble_eq_true rfl⟩ ⟨Nat.le_of_ble_eq_true rfl, Nat.le_of_ble_eq_true rfl⟩ hK hP hS hl.1 (rest := []) (Nat.le_of_ble_eq_true rfl) dX7_group11_182 h49 (fun H locs hP hS => ?_)
                refine lv_istore (lv' := [(5, .int r19), (4, .int v5), (3, .int v2), (2, .int (zI b1)), (1, .int v1), (0, .ref (ad 0))]) hx hb dX7_group11_185 hl (by decide) rfl (fun ls hl => ?_)
                refine lv_iload_n hx hb dX7_group11_187 rfl (lv_at hl 4 rfl) ?_
                refine lv_iconst (v := 3) hx hb dX7_group11_188 (by decide) ?_
                refine lv_icmp_ne (tgt := 212) hx hb dX7_group11_189 (by decide) (fun c22 => ?_) (fun c22 => ?_)
                · have hs := if_f c22 hs
                  refine lv_aload_n hx hb dX7_group11_212 rfl (lv_at hl 5 rfl) ?_
                  refine lv_aload_n hx hb dX7_group11_213 rfl (lv_at hl 5 rfl) ?_
                  refine gM_X7_d hx hb hT hown hK hP (hT _ tF_X7_13) dX7_group11_214 ?_
                  refine lv_iload_n hx hb dX7_group11_217 rfl (lv_at hl 2 rfl) ?_
                  obtain ⟨h50, hs⟩ := gd_e hs
                  refine lM_d hx hb hK hP (ixo_in h50) dX7_group11_218 ?_
                  refine lv_iload hx hb dX7_group11_219 (lv_at hl 0 rfl) ?_
                  refine lv_iload hx hb dX7_group11_221 (lv_at hl 1 rfl) ?_
                  obtain ⟨S47, h51, hs⟩ := bv_e hs
                  refine kX7_compare C tM_X7_217 ⟨Nat.le_of_ble_eq_true rfl, Nat.le_of_ble_eq_true rfl⟩ ⟨Nat.le_of_ble_eq_true rfl, Nat.le_of_ble_eq_true rfl⟩ hK hP hS hl.1 (rest := []) (Nat.le_of_ble_eq_true rfl) dX7_group11_223 h51 (fun H locs hP hS => ?_)
                  refine lv_iconst (v := 1) hx hb dX7_group11_226 (by decide) ?_
                  exact u_zret (v := true) hx hb hr hlocks hP hS hs dX7_group11_227
                · have hs := if_t c22 hs
                  refine lv_aload_n hx hb dX7_group11_192 rfl (lv_at hl 5 rfl) ?_
                  refine lv_aload_n hx hb dX7_group11_193 rfl (lv_at hl 5 rfl) ?_
                  refine lv_iload_n hx hb dX7_group11_194 rfl (lv_at hl 2 rfl) ?_
                  obtain ⟨r20, S48, h52, hs⟩ := bd_e hs
                  refine kX7_getA C tM_X7_70 ⟨Nat.le_of_ble_eq_true rfl, Nat.le_of_ble_eq_true rfl⟩ ⟨Nat.le_of_ble_eq_true rfl, Nat.le_of_ble_eq_true rfl⟩ hK hP hS hl.1 (rest := [.ref (ad 0)]) (Nat.le_of_ble_eq_true rfl) dX7_group11_195 h52 (fun H locs hP hS => ?_)
                  refine lv_iload hx hb dX7_group11_198 (lv_at hl 0 rfl) ?_
                  refine lv_iload hx hb dX7_group11_200 (lv_at hl 1 rfl) ?_
                  obtain ⟨r21, S49, h53, hs⟩ := bd_e hs
                  refine kX7_extended C tM_X7_157 ⟨Nat.le_of_ble_eq_true rfl, Nat.le_of_ble_eq_true rfl⟩ ⟨Nat.le_of_ble_eq_true rfl, Nat.le_of_ble_eq_true rfl⟩ hK hP hS hl.1 (rest := [.int r20, .ref (ad 0)]) (Nat.le_of_ble_eq_true rfl) dX7_group11_202 h53 (fun H locs hP hS => ?_)
                  refine lv_iconst (v := 4) hx hb dX7_group11_205 (by decide) ?_
                  obtain ⟨S50, h54, hs⟩ := bv_e hs
                  refine kX7_compare C tM_X7_217 ⟨Nat.le_of_ble_eq_true rfl, Nat.le_of_ble_eq_true rfl⟩ ⟨Nat.le_of_ble_eq_true rfl, Nat.le_of_ble_eq_true rfl⟩ hK hP hS hl.1 (rest := []) (Nat.le_of_ble_eq_true rfl) dX7_group11_206 h54 (fun H locs hP hS => ?_)
                  refine lv_goto (tgt := 226) hx hb dX7_group11_209 (by decide) ?_
                  refine lv_iconst (v := 1) hx hb dX7_group11_226 (by decide) ?_
                  exact u_zret (v := true) hx hb hr hlocks hP hS hs dX7_group11_227
              · have hs := if_t c21 hs
                refine lv_iconst (v := 0) hx hb dX7_group11_164 (by decide) ?_
                exact u_zret (v := false) hx hb hr hlocks hP hS hs dX7_group11_165
            · have hs := if_f c20 hs
              refine lv_iload_n hx hb dX7_group11_94 rfl (lv_at hl 2 rfl) ?_
              refine lv_if_eq (tgt := 148) hx hb dX7_group11_95 (by decide) (fun c23 => ?_) (fun c23 => ?_)
              · have hs := if_t c23 hs
                refine lv_aload_n hx hb dX7_group11_148 rfl (lv_at hl 4 rfl) ?_
                refine gM_X7_op hx hb hT hown hK hP (hT _ tF_X7_174) dX7_group11_149 ?_
                refine lv_bipush (v := 63) hx hb dX7_group11_152 (by decide) ?_
                refine lv_iand hx hb dX7_group11_154 ?_
                refine lv_iconst (v := 0) hx hb dX7_group11_155 (by decide) ?_
                refine lv_iload hx hb dX7_group11_156 (lv_at hl 0 rfl) ?_
                obtain ⟨b7, S51, h55, hs⟩ := bd_e hs
                refine kX7_fits C tM_X7_188 ⟨Nat.le_of_ble_eq_true rfl, Nat.le_of_ble_eq_true rfl⟩ ⟨Nat.le_of_ble_eq_true rfl, Nat.le_of_ble_eq_true rfl⟩ hK hP hS hl.1 (rest := []) (Nat.le_of_ble_eq_true rfl) dX7_group11_158 h55 (fun H locs hP hS => ?_)
                refine lv_if_ne (tgt := 166) hx hb dX7_group11_161 (by decide) (fun c24 => ?_) (fun c24 => ?_)
                · have hs := if_f c24 hs
                  refine lv_aload_n hx hb dX7_group11_166 rfl (lv_at hl 4 rfl) ?_
                  refine lv_aload_n hx hb dX7_group11_167 rfl (lv_at hl 4 rfl) ?_
                  refine gM_X7_op hx hb hT hown hK hP (hT _ tF_X7_174) dX7_group11_168 ?_
                  refine lv_bipush (v := 63) hx hb dX7_group11_171 (by decide) ?_
                  refine lv_iand hx hb dX7_group11_173 ?_
                  refine lv_iload hx hb dX7_group11_174 (lv_at hl 0 rfl) ?_
                  obtain ⟨S52, h56, hs⟩ := bv_e hs
                  refine kX7_operand C tM_X7_192 ⟨Nat.le_of_ble_eq_true rfl, Nat.le_of_ble_eq_true rfl⟩ ⟨Nat.le_of_ble_eq_true rfl, Nat.le_of_ble_eq_true rfl⟩ hK hP hS hl.1 (rest := []) (Nat.le_of_ble_eq_true rfl) dX7_group11_176 h56 (fun H locs hP hS => ?_)
                  refine lv_aload_n hx hb dX7_group11_179 rfl (lv_at hl 4 rfl) ?_
                  refine lv_iload hx hb dX7_group11_180 (lv_at hl 0 rfl) ?_
                  obtain ⟨r22, S53, h57, hs⟩ := bd_e hs
                  refine kX7_take C tM_X7_195 ⟨Nat.le_of_ble_eq_true rfl, Nat.le_of_ble_eq_true rfl⟩ ⟨Nat.le_of_ble_eq_true rfl, Nat.le_of_ble_eq_true rfl⟩ hK hP hS hl.1 (rest := []) (Nat.le_of_ble_eq_true rfl) dX7_group11_182 h57 (fun H locs hP hS => ?_)
                  refine lv_istore (lv' := [(5, .int r22), (4, .int v5), (3, .int v2), (2, .int (zI b1)), (1, .int v1), (0, .ref (ad 0))]) hx hb dX7_group11_185 hl (by decide) rfl (fun ls hl => ?_)
                  refine lv_iload_n hx hb dX7_group11_187 rfl (lv_at hl 4 rfl) ?_
                  refine lv_iconst (v := 3) hx hb dX7_group11_188 (by decide) ?_
                  refine lv_icmp_ne (tgt := 212) hx hb dX7_group11_189 (by decide) (fun c25 => ?_) (fun c25 => ?_)
                  · have hs := if_f c25 hs
                    refine lv_aload_n hx hb dX7_group11_212 rfl (lv_at hl 5 rfl) ?_
                    refine lv_aload_n hx hb dX7_group11_213 rfl (lv_at hl 5 rfl) ?_
                    refine gM_X7_d hx hb hT hown hK hP (hT _ tF_X7_13) dX7_group11_214 ?_
                    refine lv_iload_n hx hb dX7_group11_217 rfl (lv_at hl 2 rfl) ?_
                    obtain ⟨h58, hs⟩ := gd_e hs
                    refine lM_d hx hb hK hP (ixo_in h58) dX7_group11_218 ?_
                    refine lv_iload hx hb dX7_group11_219 (lv_at hl 0 rfl) ?_
                    refine lv_iload hx hb dX7_group11_221 (lv_at hl 1 rfl) ?_
                    obtain ⟨S54, h59, hs⟩ := bv_e hs
                    refine kX7_compare C tM_X7_217 ⟨Nat.le_of_ble_eq_true rfl, Nat.le_of_ble_eq_true rfl⟩ ⟨Nat.le_of_ble_eq_true rfl, Nat.le_of_ble_eq_true rfl⟩ hK hP hS hl.1 (rest := []) (Nat.le_of_ble_eq_true rfl) dX7_group11_223 h59 (fun H locs hP hS => ?_)
                    refine lv_iconst (v := 1) hx hb dX7_group11_226 (by decide) ?_
                    exact u_zret (v := true) hx hb hr hlocks hP hS hs dX7_group11_227
                  · have hs := if_t c25 hs
                    refine lv_aload_n hx hb dX7_group11_192 rfl (lv_at hl 5 rfl) ?_
                    refine lv_aload_n hx hb dX7_group11_193 rfl (lv_at hl 5 rfl) ?_
                    refine lv_iload_n hx hb dX7_group11_194 rfl (lv_at hl 2 rfl) ?_
                    obtain ⟨r23, S55, h60, hs⟩ := bd_e hs
                    refine kX7_getA C tM_X7_70 ⟨Nat.le_of_ble_eq_true rfl, Nat.le_of_ble_eq_true rfl⟩ ⟨Nat.le_of_ble_eq_true rfl, Nat.le_of_ble_eq_true rfl⟩ hK hP hS hl.1 (rest := [.ref (ad 0)]) (Nat.le_of_ble_eq_true rfl) dX7_group11_195 h60 (fun H locs hP hS => ?_)
                    refine lv_iload hx hb dX7_group11_198 (lv_at hl 0 rfl) ?_
                    refine lv_iload hx hb dX7_group11_200 (lv_at hl 1 rfl) ?_
                    obtain ⟨r24, S56, h61, hs⟩ := bd_e hs
                    refine kX7_extended C tM_X7_157 ⟨Nat.le_of_ble_eq_true rfl, Nat.le_of_ble_eq_true rfl⟩ ⟨Nat.le_of_ble_eq_true rfl, Nat.le_of_ble_eq_true rfl⟩ hK hP hS hl.1 (rest := [.int r23, .ref (ad 0)]) (Nat.le_of_ble_eq_true rfl) dX7_group11_202 h61 (fun H locs hP hS => ?_)
                    refine lv_iconst (v := 4) hx hb dX7_group11_205 (by decide) ?_
                    obtain ⟨S57, h62, hs⟩ := bv_e hs
                    refine kX7_compare C tM_X7_217 ⟨Nat.le_of_ble_eq_true rfl, Nat.le_of_ble_eq_true rfl⟩ ⟨Nat.le_of_ble_eq_true rfl, Nat.le_of_ble_eq_true rfl⟩ hK hP hS hl.1 (rest := []) (Nat.le_of_ble_eq_true rfl) dX7_group11_206 h62 (fun H locs hP hS => ?_)
                    refine lv_goto (tgt := 226) hx hb dX7_group11_209 (by decide) ?_
                    refine lv_iconst (v := 1) hx hb dX7_group11_226 (by decide) ?_
                    exact u_zret (v := true) hx hb hr hlocks hP hS hs dX7_group11_227
                · have hs := if_t c24 hs
                  refine lv_iconst (v := 0) hx hb dX7_group11_164 (by decide) ?_
                  exact u_zret (v := false) hx hb hr hlocks hP hS hs dX7_group11_165
              · have hs := if_f c23 hs
                refine lv_aload_n hx hb dX7_group11_98 rfl (lv_at hl 4 rfl) ?_
                refine lv_bipush (v := 24) hx hb dX7_group11_99 (by decide) ?_
                refine lv_aload_n hx hb dX7_group11_101 rfl (lv_at hl 4 rfl) ?_
                refine gM_X7_op hx hb hT hown hK hP (hT _ tF_X7_174) dX7_group11_102 ?_
                refine lv_bipush (v := 7) hx hb dX7_group11_105 (by decide) ?_
                refine lv_iand hx hb dX7_group11_107 ?_
                refine lv_ior hx hb dX7_group11_108 ?_
                refine lv_iload hx hb dX7_group11_109 (lv_at hl 0 rfl) ?_
                obtain ⟨S58, h63, hs⟩ := bv_e hs
                refine kX7_operand C tM_X7_192 ⟨Nat.le_of_ble_eq_true rfl, Nat.le_of_ble_eq_true rfl⟩ ⟨Nat.le_of_ble_eq_true rfl, Nat.le_of_ble_eq_true rfl⟩ hK hP hS hl.1 (rest := []) (Nat.le_of_ble_eq_true rfl) dX7_group11_111 h63 (fun H locs hP hS => ?_)
                refine lv_aload_n hx hb dX7_group11_114 rfl (lv_at hl 4 rfl) ?_
                refine lv_iload hx hb dX7_group11_115 (lv_at hl 0 rfl) ?_
                obtain ⟨r25, S59, h64, hs⟩ := bd_e hs
                refine kX7_take C tM_X7_195 ⟨Nat.le_of_ble_eq_true rfl, Nat.le_of_ble_eq_true rfl⟩ ⟨Nat.le_of_ble_eq_true rfl, Nat.le_of_ble_eq_true rfl⟩ hK hP hS hl.1 (rest := []) (Nat.le_of_ble_eq_true rfl) dX7_group11_117 h64 (fun H locs hP hS => ?_)
                refine lv_istore (lv' := [(5, .int r25), (4, .int v5), (3, .int v2), (2, .int (zI b1)), (1, .int v1), (0, .ref (ad 0))]) hx hb dX7_group11_120 hl (by decide) rfl (fun ls hl => ?_)
                refine lv_aload_n hx hb dX7_group11_122 rfl (lv_at hl 5 rfl) ?_
                refine lv_bipush (v := 24) hx hb dX7_group11_123 (by decide) ?_
                refine lv_iload_n hx hb dX7_group11_125 rfl (lv_at hl 2 rfl) ?_
                refine lv_ior hx hb dX7_group11_126 ?_
                refine lv_iload hx hb dX7_group11_127 (lv_at hl 1 rfl) ?_
                obtain ⟨S60, h65, hs⟩ := bv_e hs
                refine kX7_operand C tM_X7_192 ⟨Nat.le_of_ble_eq_true rfl, Nat.le_of_ble_eq_true rfl⟩ ⟨Nat.le_of_ble_eq_true rfl, Nat.le_of_ble_eq_true rfl⟩ hK hP hS hl.1 (rest := []) (Nat.le_of_ble_eq_true rfl) dX7_group11_129 h65 (fun H locs hP hS => ?_)
                refine lv_aload_n hx hb dX7_group11_132 rfl (lv_at hl 5 rfl) ?_
                refine lv_aload_n hx hb dX7_group11_133 rfl (lv_at hl 5 rfl) ?_
                refine lv_iload hx hb dX7_group11_134 (lv_at hl 1 rfl) ?_
                obtain ⟨r26, S61, h66, hs⟩ := bd_e hs
                refine kX7_take C tM_X7_195 ⟨Nat.le_of_ble_eq_true rfl, Nat.le_of_ble_eq_true rfl⟩ ⟨Nat.le_of_ble_eq_true rfl, Nat.le_of_ble_eq_true rfl⟩ hK hP hS hl.1 (rest := [.ref (ad 0)]) (Nat.le_of_ble_eq_true rfl) dX7_group11_136 h66 (fun H locs hP hS => ?_)
                refine lv_iload hx hb dX7_group11_139 (lv_at hl 0 rfl) ?_
                refine lv_iload hx hb dX7_group11_141 (lv_at hl 1 rfl) ?_
                obtain ⟨S62, h67, hs⟩ := bv_e hs
                refine kX7_compare C tM_X7_217 ⟨Nat.le_of_ble_eq_true rfl, Nat.le_of_ble_eq_true rfl⟩ ⟨Nat.le_of_ble_eq_true rfl, Nat.le_of_ble_eq_true rfl⟩ hK hP hS hl.1 (rest := []) (Nat.le_of_ble_eq_true rfl) dX7_group11_143 h67 (fun H locs hP hS => ?_)
                refine lv_iconst (v := 1) hx hb dX7_group11_146 (by decide) ?_
                exact u_zret (v := true) hx hb hr hlocks hP hS hs dX7_group11_147
          ·
            refine lv_icmp_ne (tgt := 83) hx hb dX7_group11_68 (by decide) (fun c26 => ?_) (fun c26 => ?_)
            · have hs := if_f c26 hs
              refine lv_iload_n hx hb dX7_group11_83 rfl (lv_at hl 2 rfl) ?_
              obtain ⟨r27, S63, h68, hs⟩ := bd_e hs
              refine kX7_sizeOf C tM_X7_211 ⟨Nat.le_of_ble_eq_true rfl, Nat.le_of_ble_eq_true rfl⟩ ⟨Nat.le_of_ble_eq_true rfl, Nat.le_of_ble_eq_true rfl⟩ hK hP hS hl.1 (rest := []) (Nat.le_of_ble_eq_true rfl) dX7_group11_84 h68 (fun H locs hP hS => ?_)
              exact J4 r27 S63 _ _ _ (lv_sub hl [0, 1, 2, 3] rfl) hP hS hs
            · have hs := if_t c26 hs
              refine lv_iload_n hx hb dX7_group11_71 rfl (lv_at hl 1 rfl) ?_
              refine lv_if_eq (tgt := 79) hx hb dX7_group11_72 (by decide) (fun c27 => ?_) (fun c27 => ?_)
              · have hs := if_t c27 hs
                refine lv_iconst (v := 2) hx hb dX7_group11_79 (by decide) ?_
                refine lv_goto (tgt := 87) hx hb dX7_group11_80 (by decide) ?_
                exact J4 2 S _ _ _ (lv_sub hl [0, 1, 2, 3] rfl) hP hS hs
              · have hs := if_f c27 hs
                refine lv_iconst (v := 4) hx hb dX7_group11_75 (by decide) ?_
                refine lv_goto (tgt := 87) hx hb dX7_group11_76 (by decide) ?_
                exact J4 4 S _ _ _ (lv_sub hl [0, 1, 2, 3] rfl) hP hS hs
        · have hs := if_f c19 hs
          refine lv_aload_n hx hb dX7_group11_60 rfl (lv_at hl 3 rfl) ?_
          refine lv_iconst (v := 2) hx hb dX7_group11_61 (by decide) ?_
          obtain ⟨b8, S64, h69, hs⟩ := bd_e hs
          refine kX7_logicPair C tM_X7_291 ⟨Nat.le_of_ble_eq_true rfl, Nat.le_of_ble_eq_true rfl⟩ ⟨Nat.le_of_ble_eq_true rfl, Nat.le_of_ble_eq_true rfl⟩ hK hP hS hl.1 (rest := []) (Nat.le_of_ble_eq_true rfl) dX7_group11_62 h69 (fun H locs hP hS => ?_)
          exact u_zret (v := b8) hx hb hr hlocks hP hS hs dX7_group11_65
  ·
    refine lv_if_eq (tgt := 25) hx hb dX7_group11_18 (by decide) (fun c28 => ?_) (fun c28 => ?_)
    · have hs := if_t c28 hs
      refine lv_iconst (v := 0) hx hb dX7_group11_25 (by decide) ?_
      exact J1 false _ _ _ (lv_sub hl [0, 1] rfl) hP hS hs
    · have hs := if_f c28 hs
      refine lv_iconst (v := 1) hx hb dX7_group11_21 (by decide) ?_
      refine lv_goto (tgt := 26) hx hb dX7_group11_22 (by decide) ?_
      exact J1 true _ _ _ (lv_sub hl [0, 1] rfl) hP hS hs
theorem kX7_group11 {p : Program} {l : Launch} {e : Env} {R : Room} {s : State} {m : MethodId} {args : Array Value} {below : List Frame} {meth : Method} {c : Code} {H : Heap} {locs : List Loc} {cells slots : Nat} {Q : State → Prop} {cc : ByteArray} {pc nL : Nat} {ls : Array Slot} {rest : List Value} {D : va_G} {ad : Nat → Nat} {cI cB : ClassId} {en : Nat → Nat} {S : St} {own : String} {index : Nat}  {ro : Bool} {So : St} (C : CallFix p m c cc nL s args wG own) (hlk : Cond.methodLink own index yX7_group11 ∈ wG) (hR : rmX7_group11.frames + 1 ≤ R.frames ∧ 8 + (6 + 11) + rmX7_group11.locals ≤ R.locals) (hc : cells ≤ R.cells ∧ slots ≤ R.slots) (hK : KM D ad cI cB en s) (hP : va_P D vwCl (wM ad cI cB S) H) (hS : va_S (AX 11 ad s.heap.size) s.heap H locs) (hls : ls.size = nL) (hrest : (rest.map fun v => v.category).sum ≤ 8) (hd : decode cc pc = .ok (.invokevirtual index, 3)) (hs : fX7_group11  S = some (ro, So)) (k : ∀ (H : Heap) (locs : List Loc), va_P D vwCl (wM ad cI cB So) H → va_S (AX 11 ad s.heap.size) s.heap H locs → W p l e R s m args below meth c H locs cells slots Q (F0 m (pc + 3) ls (.int (zI ro) :: rest))) : W p l e R s m args below meth c H locs cells slots Q (F0 m pc ls (.ref (ad 0) :: rest)) :=
  u_callV (n := 0) (mX7_group11 l D ad cI cB en S  ro So hs) C uK_M (wg_V hlk tI_X7_group11 tS_X7_group11 tN_X7 tK_X7_group11) rfl rfl rfl (by decide +kernel) hR rfl (va_recv hK.1 hP (ci := 6) (q0 := 0) rfl rfl) hK hP hS hls hrest hd hc rfl k
def fX7_shifted_b1 (w2 : Int64) (x2 : Int32) (x3 : Int32) (z4 : Bool) (x5 : Int32) (k1 : Int32 → Bool → Bool → Int64 → St → Option (Int32 × St)) (v2 : Int32) (b2 : Bool) (b3 : Bool) (w3 : Int64) (S3 : St) : Option (Int32 × St) :=
    (if x5 ≤ v2 then (bv (fX7_signs (w3.toInt32) x2 S3) fun S4 => (jn (fun (b4 : Bool) => (bv (fX7_flag 2 b4 S4) fun S5 => (bv (fX7_flag 1 b3 S5) fun S6 => (some ((w3.toInt32), S6))))) fun K2 =>
    (if x3 = 0 then (if (zI z4) = 0 then (K2 false)
    else (if (zI b2) = 0 then (K2 false)
    else (K2 true)))
    else (K2 false))))
    else (jn (fun (b5 : Bool) => (jn (fun (b6 : Bool) => (jn (fun (b7 : Bool) (S7 : St) => (jn (fun (w4 : Int64) => (jn (fun (w5 : Int64) => (jn (fun (b8 : Bool) => (jn (fun (S8 : St) => (lt (v2 + 1) fun v3 => (k1 v3 b8 b6 w5 S8))) fun K9 =>
    (if 3 ≤ x3 then (K9 S7)
    else (bv (fX7_flag 16 b6 S7) fun S9 => (K9 S9))))) fun K8 =>
    (if (zI b2) = 0 then (jn (fun (b9 : Bool) => (if (zI b5) = (zI b9) then (K8 false)
    else (K8 true))) fun K10 =>
    (if (lg_cmp (w5 &&& w2) 0) = 0 then (K10 false)
    else (K10 true)))
    else (K8 true)))) fun K7 =>
    (if (zI b7) = 0 then (K7 w4)
    else (jn (fun (w6 : Int64) => (K7 (w4 ||| w6))) fun K11 =>
    (if (zI z4) = 0 then (K11 w2)
    else (K11 1)))))) fun K6 =>
    (if (zI z4) = 0 then (K6 (w3 >>> ((1 : Int32).toInt64 &&& 63)))
    else (K6 ((w3 <<< ((1 : Int32).toInt64 &&& 63)) &&& ((w2 <<< ((1 : Int32).toInt64 &&& 63)) - 1)))))) fun K5 =>
    (if x3 = 0 then (if (zI z4) = 0 then (if (zI b5) = 0 then (K5 false S3)
    else (K5 true S3))
    else (K5 false S3))
    else (if x3 = 2 then (bd (fX7_has 16 S3) fun b10 S10 => (K5 b10 S10))
    else (if x3 = 3 then (if (zI b6) = 0 then (K5 false S3)
    else (K5 true S3))
    else (K5 false S3)))))) fun K4 =>
    (if (zI z4) = 0 then (if (lg_cmp (w3 &&& 1) 0) = 0 then (K4 false)
    else (K4 true))
    else (K4 b5)))) fun K3 =>
    (if (lg_cmp (w3 &&& w2) 0) = 0 then (K3 false)
    else (K3 true))))
def fX7_shifted_l1 (w2 : Int64) (x2 : Int32) (x3 : Int32) (z4 : Bool) (x5 : Int32) : Nat → Int32 → Bool → Bool → Int64 → St → Option (Int32 × St)
  | 0 => fun _ _ _ _ _ => none
  | n + 1 => fX7_shifted_b1 w2 x2 x3 z4 x5 (fX7_shifted_l1 w2 x2 x3 z4 x5 n)
def fX7_shifted (x1 : Int32) (x2 : Int32) (x3 : Int32) (z4 : Bool) (x5 : Int32) (S : St) : Option (Int32 × St) :=
    (lt ((8 * x2) : Int32) fun v1 => (bd (fX7_plain x1 x2 S) fun w1 S1 => (lt ((1 <<< ((v1 - 1).toInt64 &&& 63)) : Int64) fun w2 => (jn (fun (b1 : Bool) (S2 : St) => (fX7_shifted_l1 w2 x2 x3 z4 x5 64 0 false b1 w1 S2)) fun K1 =>
    (if x3 = 2 then (bd (fX7_has 16 S1) fun b11 S11 => (if (zI b11) = 0 then (K1 false S11)
    else (K1 true S11)))
    else (K1 false S1))))))
abbrev rmX7_shifted : Room := { frames := 2, cells := 0, slots := 0, locals := 44 }
set_option maxRecDepth 100000 in
set_option maxHeartbeats 4000000 in
theorem mX7_shifted (l : Launch) (D : va_G) (ad : Nat → Nat) (cI cB : ClassId) (en : Nat → Nat) (S : St) (x1 : Int32) (x2 : Int32) (x3 : Int32) (z4 : Bool) (x5 : Int32) (ro : Int32) (So : St) (hs : fX7_shifted x1 x2 x3 z4 x5 S = some (ro, So)) : uM l yX7_shifted (wg yX7_shifted cX7_shifted 16 (some .int)) rmX7_shifted (KM D ad cI cB en) D (wM ad cI cB) (AX 11 ad) [.ref (ad 0), .int x1, .int x2, .int x3, .int (zI z4), .int x5] S (some (.int ro), So) := by
  refine uM_start (by decide) rfl ?_
  intro p e s m below meth c hx hb hr hlocks hml hown hts hK hP
  have hT : ∀ w ∈ wG, w.before _ s = true := fun w h => hts w (List.mem_cons_of_mem _ h)
  have hS : va_S (AX 11 ad s.heap.size) s.heap s.heap [] := va_S.rf
  have hown : s.vm.findClass RX7 = some m.cls := hown
  have C : CallFix p m c cX7_shifted 16 s _ wG RX7 := ⟨hx, hb, hml, hown, hT⟩
  have hl := lv_entry ([.ref (ad 0), .int x1, .int x2, .int x3, .int (zI z4), .int x5]) (n := 16) (Nat.le_of_ble_eq_true rfl)
  rw [lg_entry_eq]
  generalize (lg_sl ([.ref (ad 0), .int x1, .int x2, .int x3, .int (zI z4), .int x5]) ++ List.replicate (16 - (lg_sl ([.ref (ad 0), .int x1, .int x2, .int x3, .int (zI z4), .int x5])).length) Slot.unset).toArray = ls at hl ⊢
  have hl : lv_has ls 16 [(0, .ref (ad 0)), (1, .int x1), (2, .int x2), (3, .int x3), (4, .int (zI z4)), (5, .int x5)] := hl
  unfold fX7_shifted at hs
  refine lv_bipush (v := 8) hx hb dX7_shifted_0 (by decide) ?_
  refine lv_iload_n hx hb dX7_shifted_2 rfl (lv_at hl 2 rfl) ?_
  refine lv_imul hx hb dX7_shifted_3 ?_
  obtain ⟨v1, h1, hs⟩ := lt_e hs
  refine u_top h1 ?_
  refine lv_istore (lv' := [(6, .int v1), (0, .ref (ad 0)), (1, .int x1), (2, .int x2), (3, .int x3), (4, .int (zI z4)), (5, .int x5)]) hx hb dX7_shifted_4 hl (by decide) rfl (fun ls hl => ?_)
  refine lv_iload_n hx hb dX7_shifted_6 rfl (lv_at hl 2 rfl) ?_
  refine lv_iload_n hx hb dX7_shifted_7 rfl (lv_at hl 3 rfl) ?_
  obtain ⟨w1, S1, h2, hs⟩ := bd_e hs
  refine kX7_plain C tM_X7_144 ⟨Nat.le_of_ble_eq_true rfl, Nat.le_of_ble_eq_true rfl⟩ ⟨Nat.le_of_ble_eq_true rfl, Nat.le_of_ble_eq_true rfl⟩ hK hP hS hl.1 (rest := []) (Nat.le_of_ble_eq_true rfl) dX7_shifted_8 h2 (fun H locs hP hS => ?_)
  refine lv_lstore (lv' := [(7, .long w1), (6, .int v1), (0, .ref (ad 0)), (1, .int x1), (2, .int x2), (3, .int x3), (4, .int (zI z4)), (5, .int x5)]) hx hb dX7_shifted_11 hl (by decide) rfl (fun ls hl => ?_)
  refine lv_lconst (v := 1) hx hb dX7_shifted_13 (by decide) ?_
  refine lv_iload hx hb dX7_shifted_14 (lv_at hl 1 rfl) ?_
  refine lv_iconst (v := 1) hx hb dX7_shifted_16 (by decide) ?_
  refine lv_isub hx hb dX7_shifted_17 ?_
  refine lv_lshl (v := (1 <<< ((v1 - 1).toInt64 &&& 63))) hx hb dX7_shifted_18 rfl ?_
  obtain ⟨w2, h3, hs⟩ := lt_e hs
  refine u_topl h3 ?_
  refine lv_lstore (lv' := [(9, .long w2), (7, .long w1), (6, .int v1), (0, .ref (ad 0)), (1, .int x1), (2, .int x2), (3, .int x3), (4, .int (zI z4)), (5, .int x5)]) hx hb dX7_shifted_19 hl (by decide) rfl (fun ls hl => ?_)
  refine lv_iload_n hx hb dX7_shifted_21 rfl (lv_at hl 6 rfl) ?_
  refine lv_iconst (v := 2) hx hb dX7_shifted_22 (by decide) ?_
  refine jn_e hs (fun K1 => ∀ (b1 : Bool) (S2 : St) (H : Heap) (locs : List Loc) (ls : Array Slot), lv_has ls 16 [(9, .long w2), (7, .long w1), (0, .ref (ad 0)), (2, .int x2), (3, .int x3), (4, .int (zI z4)), (5, .int x5)] → va_P D vwCl (wM ad cI cB S2) H → va_S (AX 11 ad s.heap.size) s.heap H locs → K1 b1 S2 = some (ro, So) → W p l e rmX7_shifted s m ([.ref (ad 0), .int x1, .int x2, .int x3, .int (zI z4), .int x5] : List Value).toArray below meth c H locs 0 0 (MQ below (uQ D (wM ad cI cB) (some (.int ro), So) (AX 11 ad s.heap.size)) ([.ref (ad 0), .int x1, .int x2, .int x3, .int (zI z4), .int x5] : List Value).toArray s 0 0 (AX 11 ad s.heap.size)) (F0 m 40 ls [.int (zI b1)])) ?_ (fun K1 J1 hs => ?_)
  · intro b1 S2 H locs ls hl hP hS hs
    refine lv_istore (lv' := [(11, .int (zI b1)), (9, .long w2), (7, .long w1), (0, .ref (ad 0)), (2, .int x2), (3, .int x3), (4, .int (zI z4)), (5, .int x5)]) hx hb dX7_shifted_40 hl (by decide) rfl (fun ls hl => ?_)
    refine lv_iconst (v := 0) hx hb dX7_shifted_42 (by decide) ?_
    refine lv_istore (lv' := [(12, .int 0), (11, .int (zI b1)), (9, .long w2), (7, .long w1), (0, .ref (ad 0)), (2, .int x2), (3, .int x3), (4, .int (zI z4)), (5, .int x5)]) hx hb dX7_shifted_43 hl (by decide) rfl (fun ls hl => ?_)
    refine lv_iconst (v := 0) hx hb dX7_shifted_45 (by decide) ?_
    refine lv_istore (lv' := [(13, .int 0), (12, .int 0), (11, .int (zI b1)), (9, .long w2), (7, .long w1), (0, .ref (ad 0)), (2, .int x2), (3, .int x3), (4, .int (zI z4)), (5, .int x5)]) hx hb dX7_shifted_46 hl (by decide) rfl (fun ls hl => ?_)
    have L1 : ∀ (n : Nat) (v2 : Int32) (b2 : Bool) (b3 : Bool) (w3 : Int64) (S3 : St) (H : Heap) (locs : List Loc) (ls : Array Slot), lv_has ls 16 [(13, .int v2), (12, .int (zI b2)), (11, .int (zI b3)), (9, .long w2), (7, .long w3), (0, .ref (ad 0)), (2, .int x2), (3, .int x3), (4, .int (zI z4)), (5, .int x5)] → va_P D vwCl (wM ad cI cB S3) H → va_S (AX 11 ad s.heap.size) s.heap H locs → fX7_shifted_l1 w2 x2 x3 z4 x5 n v2 b2 b3 w3 S3 = some (ro, So) → W p l e rmX7_shifted s m ([.ref (ad 0), .int x1, .int x2, .int x3, .int (zI z4), .int x5] : List Value).toArray below meth c H locs 0 0 (MQ below (uQ D (wM ad cI cB) (some (.int ro), So) (AX 11 ad s.heap.size)) ([.ref (ad 0), .int x1, .int x2, .int x3, .int (zI z4), .int x5] : List Value).toArray s 0 0 (AX 11 ad s.heap.size)) (F0 m 48 ls []) := by
      intro n
      induction n with
      | zero => intro v2 b2 b3 w3 S3 H locs ls hl hP hS hs; cases hs
      | succ n ih =>
        intro v2 b2 b3 w3 S3 H locs ls hl hP hS hs
        have hs : fX7_shifted_b1 w2 x2 x3 z4 x5 (fX7_shifted_l1 w2 x2 x3 z4 x5 n) v2 b2 b3 w3 S3 = some (ro, So) := hs
        unfold fX7_shifted_b1 at hs
        refine lv_iload hx hb dX7_shifted_48 (lv_at hl 0 rfl) ?_
        refine lv_iload hx hb dX7_shifted_50 (lv_at hl 9 rfl) ?_
        refine lv_icmp_ge (tgt := 256) hx hb dX7_shifted_52 (by decide) (fun c1 => ?_) (fun c1 => ?_)
        · have hs := if_t c1 hs
          refine lv_aload_n hx hb dX7_shifted_256 rfl (lv_at hl 5 rfl) ?_
          refine lv_lload hx hb dX7_shifted_257 (lv_at hl 4 rfl) ?_
          refine lv_l2i (v := (w3.toInt32)) hx hb dX7_shifted_259 rfl ?_
          refine lv_iload_n hx hb dX7_shifted_260 rfl (lv_at hl 6 rfl) ?_
          obtain ⟨S4, h4, hs⟩ := bv_e hs
          refine kX7_signs C tM_X7_164 ⟨Nat.le_of_ble_eq_true rfl, Nat.le_of_ble_eq_true rfl⟩ ⟨Nat.le_of_ble_eq_true rfl, Nat.le_of_ble_eq_true rfl⟩ hK hP hS hl.1 (rest := []) (Nat.le_of_ble_eq_true rfl) dX7_shifted_261 h4 (fun H locs hP hS => ?_)
          refine lv_aload_n hx hb dX7_shifted_264 rfl (lv_at hl 5 rfl) ?_
          refine lv_iconst (v := 2) hx hb dX7_shifted_265 (by decide) ?_
          refine lv_iload_n hx hb dX7_shifted_266 rfl (lv_at hl 7 rfl) ?_
          refine jn_e hs (fun K2 => ∀ (b4 : Bool) (H : Heap) (locs : List Loc) (ls : Array Slot), lv_has ls 16 [(11, .int (zI b3)), (7, .long w3), (0, .ref (ad 0))] → va_P D vwCl (wM ad cI cB S4) H → va_S (AX 11 ad s.heap.size) s.heap H locs → K2 b4 = some (ro, So) → W p l e rmX7_shifted s m ([.ref (ad 0), .int x1, .int x2, .int x3, .int (zI z4), .int x5] : List Value).toArray below meth c H locs 0 0 (MQ below (uQ D (wM ad cI cB) (some (.int ro), So) (AX 11 ad s.heap.size)) ([.ref (ad 0), .int x1, .int x2, .int x3, .int (zI z4), .int x5] : List Value).toArray s 0 0 (AX 11 ad s.heap.size)) (F0 m 285 ls [.int (zI b4), .int 2, .ref (ad 0)])) ?_ (fun K2 J2 hs => ?_)
          · intro b4 H locs ls hl hP hS hs
            obtain ⟨S5, h5, hs⟩ := bv_e hs
            refine kX7_flag C tM_X7_160 ⟨Nat.le_of_ble_eq_true rfl, Nat.le_of_ble_eq_true rfl⟩ ⟨Nat.le_of_ble_eq_true rfl, Nat.le_of_ble_eq_true rfl⟩ hK hP hS hl.1 (rest := []) (Nat.le_of_ble_eq_true rfl) dX7_shifted_285 h5 (fun H locs hP hS => ?_)
            refine lv_aload_n hx hb dX7_shifted_288 rfl (lv_at hl 2 rfl) ?_
            refine lv_iconst (v := 1) hx hb dX7_shifted_289 (by decide) ?_
            refine lv_iload hx hb dX7_shifted_290 (lv_at hl 0 rfl) ?_
            obtain ⟨S6, h6, hs⟩ := bv_e hs
            refine kX7_flag C tM_X7_160 ⟨Nat.le_of_ble_eq_true rfl, Nat.le_of_ble_eq_true rfl⟩ ⟨Nat.le_of_ble_eq_true rfl, Nat.le_of_ble_eq_true rfl⟩ hK hP hS hl.1 (rest := []) (Nat.le_of_ble_eq_true rfl) dX7_shifted_292 h6 (fun H locs hP hS => ?_)
            refine lv_lload hx hb dX7_shifted_295 (lv_at hl 1 rfl) ?_
            refine lv_l2i (v := (w3.toInt32)) hx hb dX7_shifted_297 rfl ?_
            exact u_iret hx hb hr hlocks hP hS hs dX7_shifted_298
          ·
            refine lv_if_ne (tgt := 284) hx hb dX7_shifted_267 (by decide) (fun c2 => ?_) (fun c2 => ?_)
            · have hs := if_f c2 hs
              refine lv_iconst (v := 0) hx hb dX7_shifted_284 (by decide) ?_
              exact J2 false _ _ _ (lv_sub hl [2, 4, 5] rfl) hP hS hs
            · have hs := if_t c2 hs
              refine lv_iload hx hb dX7_shifted_270 (lv_at hl 8 rfl) ?_
              refine lv_if_eq (tgt := 284) hx hb dX7_shifted_272 (by decide) (fun c3 => ?_) (fun c3 => ?_)
              · have hs := if_t c3 hs
                refine lv_iconst (v := 0) hx hb dX7_shifted_284 (by decide) ?_
                exact J2 false _ _ _ (lv_sub hl [2, 4, 5] rfl) hP hS hs
              · have hs := if_f c3 hs
                refine lv_iload hx hb dX7_shifted_275 (lv_at hl 1 rfl) ?_
                refine lv_if_eq (tgt := 284) hx hb dX7_shifted_277 (by decide) (fun c4 => ?_) (fun c4 => ?_)
                · have hs := if_t c4 hs
                  refine lv_iconst (v := 0) hx hb dX7_shifted_284 (by decide) ?_
                  exact J2 false _ _ _ (lv_sub hl [2, 4, 5] rfl) hP hS hs
                · have hs := if_f c4 hs
                  refine lv_iconst (v := 1) hx hb dX7_shifted_280 (by decide) ?_
                  refine lv_goto (tgt := 285) hx hb dX7_shifted_281 (by decide) ?_
                  exact J2 true _ _ _ (lv_sub hl [2, 4, 5] rfl) hP hS hs
        · have hs := if_f c1 hs
          refine lv_iconst (v := 0) hx hb dX7_shifted_55 (by decide) ?_
          refine lv_istore (lv' := [(14, .int 0), (13, .int v2), (12, .int (zI b2)), (11, .int (zI b3)), (9, .long w2), (7, .long w3), (0, .ref (ad 0)), (2, .int x2), (3, .int x3), (4, .int (zI z4)), (5, .int x5)]) hx hb dX7_shifted_56 hl (by decide) rfl (fun ls hl => ?_)
          refine lv_lload hx hb dX7_shifted_58 (lv_at hl 5 rfl) ?_
          refine lv_lload hx hb dX7_shifted_60 (lv_at hl 4 rfl) ?_
          refine lv_land hx hb dX7_shifted_62 ?_
          refine lv_lconst (v := 0) hx hb dX7_shifted_63 (by decide) ?_
          refine W.lcmp hx hb dX7_shifted_64 ?_
          refine jn_e hs (fun K3 => ∀ (b5 : Bool) (H : Heap) (locs : List Loc) (ls : Array Slot), lv_has ls 16 [(13, .int v2), (12, .int (zI b2)), (9, .long w2), (7, .long w3), (0, .ref (ad 0)), (2, .int x2), (3, .int x3), (4, .int (zI z4)), (5, .int x5)] → va_P D vwCl (wM ad cI cB S3) H → va_S (AX 11 ad s.heap.size) s.heap H locs → K3 b5 = some (ro, So) → W p l e rmX7_shifted s m ([.ref (ad 0), .int x1, .int x2, .int x3, .int (zI z4), .int x5] : List Value).toArray below meth c H locs 0 0 (MQ below (uQ D (wM ad cI cB) (some (.int ro), So) (AX 11 ad s.heap.size)) ([.ref (ad 0), .int x1, .int x2, .int x3, .int (zI z4), .int x5] : List Value).toArray s 0 0 (AX 11 ad s.heap.size)) (F0 m 73 ls [.int (zI b5)])) ?_ (fun K3 J3 hs => ?_)
          · intro b5 H locs ls hl hP hS hs
            refine lv_istore (lv' := [(15, .int (zI b5)), (13, .int v2), (12, .int (zI b2)), (9, .long w2), (7, .long w3), (0, .ref (ad 0)), (2, .int x2), (3, .int x3), (4, .int (zI z4)), (5, .int x5)]) hx hb dX7_shifted_73 hl (by decide) rfl (fun ls hl => ?_)
            refine lv_iload hx hb dX7_shifted_75 (lv_at hl 8 rfl) ?_
            refine jn_e hs (fun K4 => ∀ (b6 : Bool) (H : Heap) (locs : List Loc) (ls : Array Slot), lv_has ls 16 [(15, .int (zI b5)), (13, .int v2), (12, .int (zI b2)), (9, .long w2), (7, .long w3), (0, .ref (ad 0)), (2, .int x2), (3, .int x3), (4, .int (zI z4)), (5, .int x5)] → va_P D vwCl (wM ad cI cB S3) H → va_S (AX 11 ad s.heap.size) s.heap H locs → K4 b6 = some (ro, So) → W p l e rmX7_shifted s m ([.ref (ad 0), .int x1, .int x2, .int x3, .int (zI z4), .int x5] : List Value).toArray below meth c H locs 0 0 (MQ below (uQ D (wM ad cI cB) (some (.int ro), So) (AX 11 ad s.heap.size)) ([.ref (ad 0), .int x1, .int x2, .int x3, .int (zI z4), .int x5] : List Value).toArray s 0 0 (AX 11 ad s.heap.size)) (F0 m 99 ls [.int (zI b6)])) ?_ (fun K4 J4 hs => ?_)
            · intro b6 H locs ls hl hP hS hs
              refine lv_istore (lv' := [(11, .int (zI b6)), (15, .int (zI b5)), (13, .int v2), (12, .int (zI b2)), (9, .long w2), (7, .long w3), (0, .ref (ad 0)), (2, .int x2), (3, .int x3), (4, .int (zI z4)), (5, .int x5)]) hx hb dX7_shifted_99 hl (by decide) rfl (fun ls hl => ?_)
              refine lv_iload_n hx hb dX7_shifted_101 rfl (lv_at hl 8 rfl) ?_
              refine jn_e hs (fun K5 => ∀ (b7 : Bool) (S7 : St) (H : Heap) (locs : List Loc) (ls : Array Slot), lv_has ls 16 [(11, .int (zI b6)), (15, .int (zI b5)), (13, .int v2), (12, .int (zI b2)), (9, .long w2), (7, .long w3), (0, .ref (ad 0)), (2, .int x2), (3, .int x3), (4, .int (zI z4)), (5, .int x5)] → va_P D vwCl (wM ad cI cB S7) H → va_S (AX 11 ad s.heap.size) s.heap H locs → K5 b7 S7 = some (ro, So) → W p l e rmX7_shifted s m ([.ref (ad 0), .int x1, .int x2, .int x3, .int (zI z4), .int x5] : List Value).toArray below meth c H locs 0 0 (MQ below (uQ D (wM ad cI cB) (some (.int ro), So) (AX 11 ad s.heap.size)) ([.ref (ad 0), .int x1, .int x2, .int x3, .int (zI z4), .int x5] : List Value).toArray s 0 0 (AX 11 ad s.heap.size)) (F0 m 152 ls [.int (zI b7)])) ?_ (fun K5 J5 hs => ?_)
              · intro b7 S7 H locs ls hl hP hS hs
                refine lv_istore (lv' := [(14, .int (zI b7)), (11, .int (zI b6)), (15, .int (zI b5)), (13, .int v2), (12, .int (zI b2)), (9, .long w2), (7, .long w3), (0, .ref (ad 0)), (2, .int x2), (3, .int x3), (4, .int (zI z4)), (5, .int x5)]) hx hb dX7_shifted_152 hl (by decide) rfl (fun ls hl => ?_)
                refine lv_iload hx hb dX7_shifted_154 (lv_at hl 10 rfl) ?_
                refine jn_e hs (fun K6 => ∀ (w4 : Int64) (H : Heap) (locs : List Loc) (ls : Array Slot), lv_has ls 16 [(14, .int (zI b7)), (11, .int (zI b6)), (15, .int (zI b5)), (13, .int v2), (12, .int (zI b2)), (9, .long w2), (0, .ref (ad 0)), (2, .int x2), (3, .int x3), (4, .int (zI z4)), (5, .int x5)] → va_P D vwCl (wM ad cI cB S7) H → va_S (AX 11 ad s.heap.size) s.heap H locs → K6 w4 = some (ro, So) → W p l e rmX7_shifted s m ([.ref (ad 0), .int x1, .int x2, .int x3, .int (zI z4), .int x5] : List Value).toArray below meth c H locs 0 0 (MQ below (uQ D (wM ad cI cB) (some (.int ro), So) (AX 11 ad s.heap.size)) ([.ref (ad 0), .int x1, .int x2, .int x3, .int (zI z4), .int x5] : List Value).toArray s 0 0 (AX 11 ad s.heap.size)) (F0 m 177 ls [.long w4])) ?_ (fun K6 J6 hs => ?_)
                · intro w4 H locs ls hl hP hS hs
                  refine lv_lstore (lv' := [(7, .long w4), (14, .int (zI b7)), (11, .int (zI b6)), (15, .int (zI b5)), (13, .int v2), (12, .int (zI b2)), (9, .long w2), (0, .ref (ad 0)), (2, .int x2), (3, .int x3), (4, .int (zI z4)), (5, .int x5)]) hx hb dX7_shifted_177 hl (by decide) rfl (fun ls hl => ?_)
                  refine lv_iload hx hb dX7_shifted_179 (lv_at hl 1 rfl) ?_
                  refine jn_e hs (fun K7 => ∀ (w5 : Int64) (H : Heap) (locs : List Loc) (ls : Array Slot), lv_has ls 16 [(11, .int (zI b6)), (15, .int (zI b5)), (13, .int v2), (12, .int (zI b2)), (9, .long w2), (0, .ref (ad 0)), (2, .int x2), (3, .int x3), (4, .int (zI z4)), (5, .int x5)] → va_P D vwCl (wM ad cI cB S7) H → va_S (AX 11 ad s.heap.size) s.heap H locs → K7 w5 = some (ro, So) → W p l e rmX7_shifted s m ([.ref (ad 0), .int x1, .int x2, .int x3, .int (zI z4), .int x5] : List Value).toArray below meth c H locs 0 0 (MQ below (uQ D (wM ad cI cB) (some (.int ro), So) (AX 11 ad s.heap.size)) ([.ref (ad 0), .int x1, .int x2, .int x3, .int (zI z4), .int x5] : List Value).toArray s 0 0 (AX 11 ad s.heap.size)) (F0 m 203 ls [.long w5])) ?_ (fun K7 J7 hs => ?_)
                  · intro w5 H locs ls hl hP hS hs
                    refine lv_lstore (lv' := [(7, .long w5), (11, .int (zI b6)), (15, .int (zI b5)), (13, .int v2), (12, .int (zI b2)), (9, .long w2), (0, .ref (ad 0)), (2, .int x2), (3, .int x3), (4, .int (zI z4)), (5, .int x5)]) hx hb dX7_shifted_203 hl (by decide) rfl (fun ls hl => ?_)
                    refine lv_iload hx hb dX7_shifted_205 (lv_at hl 4 rfl) ?_
                    refine jn_e hs (fun K8 => ∀ (b8 : Bool) (H : Heap) (locs : List Loc) (ls : Array Slot), lv_has ls 16 [(7, .long w5), (11, .int (zI b6)), (13, .int v2), (9, .long w2), (0, .ref (ad 0)), (2, .int x2), (3, .int x3), (4, .int (zI z4)), (5, .int x5)] → va_P D vwCl (wM ad cI cB S7) H → va_S (AX 11 ad s.heap.size) s.heap H locs → K8 b8 = some (ro, So) → W p l e rmX7_shifted s m ([.ref (ad 0), .int x1, .int x2, .int x3, .int (zI z4), .int x5] : List Value).toArray below meth c H locs 0 0 (MQ below (uQ D (wM ad cI cB) (some (.int ro), So) (AX 11 ad s.heap.size)) ([.ref (ad 0), .int x1, .int x2, .int x3, .int (zI z4), .int x5] : List Value).toArray s 0 0 (AX 11 ad s.heap.size)) (F0 m 235 ls [.int (zI b8)])) ?_ (fun K8 J8 hs => ?_)
                    · intro b8 H locs ls hl hP hS hs
                      refine lv_istore (lv' := [(12, .int (zI b8)), (7, .long w5), (11, .int (zI b6)), (13, .int v2), (9, .long w2), (0, .ref (ad 0)), (2, .int x2), (3, .int x3), (4, .int (zI z4)), (5, .int x5)]) hx hb dX7_shifted_235 hl (by decide) rfl (fun ls hl => ?_)
                      refine lv_iload_n hx hb dX7_shifted_237 rfl (lv_at hl 7 rfl) ?_
                      refine lv_iconst (v := 3) hx hb dX7_shifted_238 (by decide) ?_
                      refine jn_e hs (fun K9 => ∀ (S8 : St) (H : Heap) (locs : List Loc) (ls : Array Slot), lv_has ls 16 [(12, .int (zI b8)), (7, .long w5), (11, .int (zI b6)), (13, .int v2), (9, .long w2), (0, .ref (ad 0)), (2, .int x2), (3, .int x3), (4, .int (zI z4)), (5, .int x5)] → va_P D vwCl (wM ad cI cB S8) H → va_S (AX 11 ad s.heap.size) s.heap H locs → K9 S8 = some (ro, So) → W p l e rmX7_shifted s m ([.ref (ad 0), .int x1, .int x2, .int x3, .int (zI z4), .int x5] : List Value).toArray below meth c H locs 0 0 (MQ below (uQ D (wM ad cI cB) (some (.int ro), So) (AX 11 ad s.heap.size)) ([.ref (ad 0), .int x1, .int x2, .int x3, .int (zI z4), .int x5] : List Value).toArray s 0 0 (AX 11 ad s.heap.size)) (F0 m 250 ls [])) ?_ (fun K9 J9 hs => ?_)
                      · intro S8 H locs ls hl hP hS hs
                        obtain ⟨v3, h7, hs⟩ := lt_e hs
                        refine lv_iinc (v := v3) (lv' := [(13, .int v3), (12, .int (zI b8)), (7, .long w5), (11, .int (zI b6)), (9, .long w2), (0, .ref (ad 0)), (2, .int x2), (3, .int x3), (4, .int (zI z4)), (5, .int x5)]) hx hb dX7_shifted_250 hl (k := 3) rfl (by rw [h7]; rfl) (by decide) rfl (fun ls hl => ?_)
                        refine lv_goto (tgt := 48) hx hb dX7_shifted_253 (by decide) ?_
                        exact ih v3 b8 b6 w5 S8 _ _ _ (lv_sub hl [0, 1, 3, 4, 2, 5, 6, 7, 8, 9] rfl) hP hS hs
                      ·
                        refine lv_icmp_ge (tgt := 250) hx hb dX7_shifted_239 (by decide) (fun c5 => ?_) (fun c5 => ?_)
                        · have hs := if_t c5 hs
                          exact J9 S7 _ _ _ (lv_sub hl [0, 1, 2, 3, 4, 5, 6, 7, 8, 9] rfl) hP hS hs
                        · have hs := if_f c5 hs
                          refine lv_aload_n hx hb dX7_shifted_242 rfl (lv_at hl 5 rfl) ?_
                          refine lv_bipush (v := 16) hx hb dX7_shifted_243 (by decide) ?_
                          refine lv_iload hx hb dX7_shifted_245 (lv_at hl 2 rfl) ?_
                          obtain ⟨S9, h8, hs⟩ := bv_e hs
                          refine kX7_flag C tM_X7_160 ⟨Nat.le_of_ble_eq_true rfl, Nat.le_of_ble_eq_true rfl⟩ ⟨Nat.le_of_ble_eq_true rfl, Nat.le_of_ble_eq_true rfl⟩ hK hP hS hl.1 (rest := []) (Nat.le_of_ble_eq_true rfl) dX7_shifted_247 h8 (fun H locs hP hS => ?_)
                          exact J9 S9 _ _ _ (lv_sub hl [0, 1, 2, 3, 4, 5, 6, 7, 8, 9] rfl) hP hS hs
                    ·
                      refine lv_if_ne (tgt := 230) hx hb dX7_shifted_207 (by decide) (fun c6 => ?_) (fun c6 => ?_)
                      · have hs := if_f c6 hs
                        refine lv_iconst (v := 1) hx hb dX7_shifted_230 (by decide) ?_
                        refine lv_goto (tgt := 235) hx hb dX7_shifted_231 (by decide) ?_
                        exact J8 true _ _ _ (lv_sub hl [0, 1, 3, 5, 6, 7, 8, 9, 10] rfl) hP hS hs
                      · have hs := if_t c6 hs
                        refine lv_iload hx hb dX7_shifted_210 (lv_at hl 2 rfl) ?_
                        refine lv_lload hx hb dX7_shifted_212 (lv_at hl 0 rfl) ?_
                        refine lv_lload hx hb dX7_shifted_214 (lv_at hl 5 rfl) ?_
                        refine lv_land hx hb dX7_shifted_216 ?_
                        refine lv_lconst (v := 0) hx hb dX7_shifted_217 (by decide) ?_
                        refine W.lcmp hx hb dX7_shifted_218 ?_
                        refine jn_e hs (fun K10 => ∀ (b9 : Bool) (H : Heap) (locs : List Loc) (ls : Array Slot), lv_has ls 16 [(7, .long w5), (11, .int (zI b6)), (13, .int v2), (9, .long w2), (0, .ref (ad 0)), (2, .int x2), (3, .int x3), (4, .int (zI z4)), (5, .int x5)] → va_P D vwCl (wM ad cI cB S7) H → va_S (AX 11 ad s.heap.size) s.heap H locs → K10 b9 = some (ro, So) → W p l e rmX7_shifted s m ([.ref (ad 0), .int x1, .int x2, .int x3, .int (zI z4), .int x5] : List Value).toArray below meth c H locs 0 0 (MQ below (uQ D (wM ad cI cB) (some (.int ro), So) (AX 11 ad s.heap.size)) ([.ref (ad 0), .int x1, .int x2, .int x3, .int (zI z4), .int x5] : List Value).toArray s 0 0 (AX 11 ad s.heap.size)) (F0 m 227 ls [.int (zI b9), .int (zI b5)])) ?_ (fun K10 J10 hs => ?_)
                        · intro b9 H locs ls hl hP hS hs
                          refine lv_icmp_eq (tgt := 234) hx hb dX7_shifted_227 (by decide) (fun c7 => ?_) (fun c7 => ?_)
                          · have hs := if_t c7 hs
                            refine lv_iconst (v := 0) hx hb dX7_shifted_234 (by decide) ?_
                            exact J8 false _ _ _ (lv_sub hl [0, 1, 2, 3, 4, 5, 6, 7, 8] rfl) hP hS hs
                          · have hs := if_f c7 hs
                            refine lv_iconst (v := 1) hx hb dX7_shifted_230 (by decide) ?_
                            refine lv_goto (tgt := 235) hx hb dX7_shifted_231 (by decide) ?_
                            exact J8 true _ _ _ (lv_sub hl [0, 1, 2, 3, 4, 5, 6, 7, 8] rfl) hP hS hs
                        ·
                          refine lv_if_eq (tgt := 226) hx hb dX7_shifted_219 (by decide) (fun c8 => ?_) (fun c8 => ?_)
                          · have hs := if_t c8 hs
                            refine lv_iconst (v := 0) hx hb dX7_shifted_226 (by decide) ?_
                            exact J10 false _ _ _ (lv_sub hl [0, 1, 3, 5, 6, 7, 8, 9, 10] rfl) hP hS hs
                          · have hs := if_f c8 hs
                            refine lv_iconst (v := 1) hx hb dX7_shifted_222 (by decide) ?_
                            refine lv_goto (tgt := 227) hx hb dX7_shifted_223 (by decide) ?_
                            exact J10 true _ _ _ (lv_sub hl [0, 1, 3, 5, 6, 7, 8, 9, 10] rfl) hP hS hs
                  ·
                    refine lv_if_eq (tgt := 201) hx hb dX7_shifted_181 (by decide) (fun c9 => ?_) (fun c9 => ?_)
                    · have hs := if_t c9 hs
                      refine lv_lload hx hb dX7_shifted_201 (lv_at hl 0 rfl) ?_
                      exact J7 w4 _ _ _ (lv_sub hl [2, 3, 4, 5, 6, 7, 8, 9, 10, 11] rfl) hP hS hs
                    · have hs := if_f c9 hs
                      refine lv_lload hx hb dX7_shifted_184 (lv_at hl 0 rfl) ?_
                      refine lv_iload hx hb dX7_shifted_186 (lv_at hl 10 rfl) ?_
                      refine jn_e hs (fun K11 => ∀ (w6 : Int64) (H : Heap) (locs : List Loc) (ls : Array Slot), lv_has ls 16 [(11, .int (zI b6)), (15, .int (zI b5)), (13, .int v2), (12, .int (zI b2)), (9, .long w2), (0, .ref (ad 0)), (2, .int x2), (3, .int x3), (4, .int (zI z4)), (5, .int x5)] → va_P D vwCl (wM ad cI cB S7) H → va_S (AX 11 ad s.heap.size) s.heap H locs → K11 w6 = some (ro, So) → W p l e rmX7_shifted s m ([.ref (ad 0), .int x1, .int x2, .int x3, .int (zI z4), .int x5] : List Value).toArray below meth c H locs 0 0 (MQ below (uQ D (wM ad cI cB) (some (.int ro), So) (AX 11 ad s.heap.size)) ([.ref (ad 0), .int x1, .int x2, .int x3, .int (zI z4), .int x5] : List Value).toArray s 0 0 (AX 11 ad s.heap.size)) (F0 m 197 ls [.long w6, .long w4])) ?_ (fun K11 J11 hs => ?_)
                      · intro w6 H locs ls hl hP hS hs
                        refine lv_lor hx hb dX7_shifted_197 ?_
                        refine lv_goto (tgt := 203) hx hb dX7_shifted_198 (by decide) ?_
                        exact J7 (w4 ||| w6) _ _ _ (lv_sub hl [0, 1, 2, 3, 4, 5, 6, 7, 8, 9] rfl) hP hS hs
                      ·
                        refine lv_if_eq (tgt := 195) hx hb dX7_shifted_188 (by decide) (fun c10 => ?_) (fun c10 => ?_)
                        · have hs := if_t c10 hs
                          refine lv_lload hx hb dX7_shifted_195 (lv_at hl 6 rfl) ?_
                          exact J11 w2 _ _ _ (lv_sub hl [2, 3, 4, 5, 6, 7, 8, 9, 10, 11] rfl) hP hS hs
                        · have hs := if_f c10 hs
                          refine lv_lconst (v := 1) hx hb dX7_shifted_191 (by decide) ?_
                          refine lv_goto (tgt := 197) hx hb dX7_shifted_192 (by decide) ?_
                          exact J11 1 _ _ _ (lv_sub hl [2, 3, 4, 5, 6, 7, 8, 9, 10, 11] rfl) hP hS hs
                ·
                  refine lv_if_eq (tgt := 173) hx hb dX7_shifted_156 (by decide) (fun c11 => ?_) (fun c11 => ?_)
                  · have hs := if_t c11 hs
                    refine lv_lload hx hb dX7_shifted_173 (lv_at hl 6 rfl) ?_
                    refine lv_iconst (v := 1) hx hb dX7_shifted_175 (by decide) ?_
                    refine lv_lshr (v := (w3 >>> ((1 : Int32).toInt64 &&& 63))) hx hb dX7_shifted_176 rfl ?_
                    exact J6 (w3 >>> ((1 : Int32).toInt64 &&& 63)) _ _ _ (lv_sub hl [0, 1, 2, 3, 4, 5, 7, 8, 9, 10, 11] rfl) hP hS hs
                  · have hs := if_f c11 hs
                    refine lv_lload hx hb dX7_shifted_159 (lv_at hl 6 rfl) ?_
                    refine lv_iconst (v := 1) hx hb dX7_shifted_161 (by decide) ?_
                    refine lv_lshl (v := (w3 <<< ((1 : Int32).toInt64 &&& 63))) hx hb dX7_shifted_162 rfl ?_
                    refine lv_lload hx hb dX7_shifted_163 (lv_at hl 5 rfl) ?_
                    refine lv_iconst (v := 1) hx hb dX7_shifted_165 (by decide) ?_
                    refine lv_lshl (v := (w2 <<< ((1 : Int32).toInt64 &&& 63))) hx hb dX7_shifted_166 rfl ?_
                    refine lv_lconst (v := 1) hx hb dX7_shifted_167 (by decide) ?_
                    refine lv_lsub hx hb dX7_shifted_168 ?_
                    refine lv_land hx hb dX7_shifted_169 ?_
                    refine lv_goto (tgt := 177) hx hb dX7_shifted_170 (by decide) ?_
                    exact J6 ((w3 <<< ((1 : Int32).toInt64 &&& 63)) &&& ((w2 <<< ((1 : Int32).toInt64 &&& 63)) - 1)) _ _ _ (lv_sub hl [0, 1, 2, 3, 4, 5, 7, 8, 9, 10, 11] rfl) hP hS hs
              ·
                refine lv_if_ne (tgt := 123) hx hb dX7_shifted_102 (by decide) (fun c12 => ?_) (fun c12 => ?_)
                · have hs := if_f c12 hs
                  refine lv_iload_n hx hb dX7_shifted_123 rfl (lv_at hl 8 rfl) ?_
                  refine lv_iconst (v := 2) hx hb dX7_shifted_124 (by decide) ?_
                  refine lv_icmp_ne (tgt := 137) hx hb dX7_shifted_125 (by decide) (fun c13 => ?_) (fun c13 => ?_)
                  · have hs := if_f c13 hs
                    refine lv_iload_n hx hb dX7_shifted_137 rfl (lv_at hl 8 rfl) ?_
                    refine lv_iconst (v := 3) hx hb dX7_shifted_138 (by decide) ?_
                    refine lv_icmp_ne (tgt := 151) hx hb dX7_shifted_139 (by decide) (fun c14 => ?_) (fun c14 => ?_)
                    · have hs := if_f c14 hs
                      refine lv_iconst (v := 0) hx hb dX7_shifted_151 (by decide) ?_
                      exact J5 false S3 _ _ _ (lv_sub hl [0, 1, 2, 3, 4, 5, 6, 7, 8, 9, 10] rfl) hP hS hs
                    · have hs := if_t c14 hs
                      refine lv_iload hx hb dX7_shifted_142 (lv_at hl 0 rfl) ?_
                      refine lv_if_eq (tgt := 151) hx hb dX7_shifted_144 (by decide) (fun c15 => ?_) (fun c15 => ?_)
                      · have hs := if_t c15 hs
                        refine lv_iconst (v := 0) hx hb dX7_shifted_151 (by decide) ?_
                        exact J5 false S3 _ _ _ (lv_sub hl [0, 1, 2, 3, 4, 5, 6, 7, 8, 9, 10] rfl) hP hS hs
                      · have hs := if_f c15 hs
                        refine lv_iconst (v := 1) hx hb dX7_shifted_147 (by decide) ?_
                        refine lv_goto (tgt := 152) hx hb dX7_shifted_148 (by decide) ?_
                        exact J5 true S3 _ _ _ (lv_sub hl [0, 1, 2, 3, 4, 5, 6, 7, 8, 9, 10] rfl) hP hS hs
                  · have hs := if_t c13 hs
                    refine lv_aload_n hx hb dX7_shifted_128 rfl (lv_at hl 6 rfl) ?_
                    refine lv_bipush (v := 16) hx hb dX7_shifted_129 (by decide) ?_
                    obtain ⟨b10, S10, h9, hs⟩ := bd_e hs
                    refine kX7_has C tM_X7_154 ⟨Nat.le_of_ble_eq_true rfl, Nat.le_of_ble_eq_true rfl⟩ ⟨Nat.le_of_ble_eq_true rfl, Nat.le_of_ble_eq_true rfl⟩ hK hP hS hl.1 (rest := []) (Nat.le_of_ble_eq_true rfl) dX7_shifted_131 h9 (fun H locs hP hS => ?_)
                    refine lv_goto (tgt := 152) hx hb dX7_shifted_134 (by decide) ?_
                    exact J5 b10 S10 _ _ _ (lv_sub hl [0, 1, 2, 3, 4, 5, 6, 7, 8, 9, 10] rfl) hP hS hs
                · have hs := if_t c12 hs
                  refine lv_iload hx hb dX7_shifted_105 (lv_at hl 9 rfl) ?_
                  refine lv_if_ne (tgt := 119) hx hb dX7_shifted_107 (by decide) (fun c16 => ?_) (fun c16 => ?_)
                  · have hs := if_f c16 hs
                    refine lv_iconst (v := 0) hx hb dX7_shifted_119 (by decide) ?_
                    refine lv_goto (tgt := 152) hx hb dX7_shifted_120 (by decide) ?_
                    exact J5 false S3 _ _ _ (lv_sub hl [0, 1, 2, 3, 4, 5, 6, 7, 8, 9, 10] rfl) hP hS hs
                  · have hs := if_t c16 hs
                    refine lv_iload hx hb dX7_shifted_110 (lv_at hl 1 rfl) ?_
                    refine lv_if_eq (tgt := 119) hx hb dX7_shifted_112 (by decide) (fun c17 => ?_) (fun c17 => ?_)
                    · have hs := if_t c17 hs
                      refine lv_iconst (v := 0) hx hb dX7_shifted_119 (by decide) ?_
                      refine lv_goto (tgt := 152) hx hb dX7_shifted_120 (by decide) ?_
                      exact J5 false S3 _ _ _ (lv_sub hl [0, 1, 2, 3, 4, 5, 6, 7, 8, 9, 10] rfl) hP hS hs
                    · have hs := if_f c17 hs
                      refine lv_iconst (v := 1) hx hb dX7_shifted_115 (by decide) ?_
                      refine lv_goto (tgt := 152) hx hb dX7_shifted_116 (by decide) ?_
                      exact J5 true S3 _ _ _ (lv_sub hl [0, 1, 2, 3, 4, 5, 6, 7, 8, 9, 10] rfl) hP hS hs
            ·
              refine lv_if_eq (tgt := 85) hx hb dX7_shifted_77 (by decide) (fun c18 => ?_) (fun c18 => ?_)
              · have hs := if_t c18 hs
                refine lv_lload hx hb dX7_shifted_85 (lv_at hl 4 rfl) ?_
                refine lv_lconst (v := 1) hx hb dX7_shifted_87 (by decide) ?_
                refine lv_land hx hb dX7_shifted_88 ?_
                refine lv_lconst (v := 0) hx hb dX7_shifted_89 (by decide) ?_
                refine W.lcmp hx hb dX7_shifted_90 ?_
                refine lv_if_eq (tgt := 98) hx hb dX7_shifted_91 (by decide) (fun c19 => ?_) (fun c19 => ?_)
                · have hs := if_t c19 hs
                  refine lv_iconst (v := 0) hx hb dX7_shifted_98 (by decide) ?_
                  exact J4 false _ _ _ (lv_sub hl [0, 1, 2, 3, 4, 5, 6, 7, 8, 9] rfl) hP hS hs
                · have hs := if_f c19 hs
                  refine lv_iconst (v := 1) hx hb dX7_shifted_94 (by decide) ?_
                  refine lv_goto (tgt := 99) hx hb dX7_shifted_95 (by decide) ?_
                  exact J4 true _ _ _ (lv_sub hl [0, 1, 2, 3, 4, 5, 6, 7, 8, 9] rfl) hP hS hs
              · have hs := if_f c18 hs
                refine lv_iload hx hb dX7_shifted_80 (lv_at hl 0 rfl) ?_
                refine lv_goto (tgt := 99) hx hb dX7_shifted_82 (by decide) ?_
                exact J4 b5 _ _ _ (lv_sub hl [0, 1, 2, 3, 4, 5, 6, 7, 8, 9] rfl) hP hS hs
          ·
            refine lv_if_eq (tgt := 72) hx hb dX7_shifted_65 (by decide) (fun c20 => ?_) (fun c20 => ?_)
            · have hs := if_t c20 hs
              refine lv_iconst (v := 0) hx hb dX7_shifted_72 (by decide) ?_
              exact J3 false _ _ _ (lv_sub hl [1, 2, 4, 5, 6, 7, 8, 9, 10] rfl) hP hS hs
            · have hs := if_f c20 hs
              refine lv_iconst (v := 1) hx hb dX7_shifted_68 (by decide) ?_
              refine lv_goto (tgt := 73) hx hb dX7_shifted_69 (by decide) ?_
              exact J3 true _ _ _ (lv_sub hl [1, 2, 4, 5, 6, 7, 8, 9, 10] rfl) hP hS hs
    exact L1 64 0 false b1 w1 S2 _ _ _ (lv_sub hl [0, 1, 2, 3, 4, 5, 6, 7, 8, 9] rfl) hP hS hs
  ·
    refine lv_icmp_ne (tgt := 39) hx hb dX7_shifted_23 (by decide) (fun c21 => ?_) (fun c21 => ?_)
    · have hs := if_f c21 hs
      refine lv_iconst (v := 0) hx hb dX7_shifted_39 (by decide) ?_
      exact J1 false S1 _ _ _ (lv_sub hl [0, 1, 3, 5, 6, 7, 8] rfl) hP hS hs
    · have hs := if_t c21 hs
      refine lv_aload_n hx hb dX7_shifted_26 rfl (lv_at hl 3 rfl) ?_
      refine lv_bipush (v := 16) hx hb dX7_shifted_27 (by decide) ?_
      obtain ⟨b11, S11, h10, hs⟩ := bd_e hs
      refine kX7_has C tM_X7_154 ⟨Nat.le_of_ble_eq_true rfl, Nat.le_of_ble_eq_true rfl⟩ ⟨Nat.le_of_ble_eq_true rfl, Nat.le_of_ble_eq_true rfl⟩ hK hP hS hl.1 (rest := []) (Nat.le_of_ble_eq_true rfl) dX7_shifted_29 h10 (fun H locs hP hS => ?_)
      refine lv_if_eq (tgt := 39) hx hb dX7_shifted_32 (by decide) (fun c22 => ?_) (fun c22 => ?_)
      · have hs := if_t c22 hs
        refine lv_iconst (v := 0) hx hb dX7_shifted_39 (by decide) ?_
        exact J1 false S11 _ _ _ (lv_sub hl [0, 1, 3, 5, 6, 7, 8] rfl) hP hS hs
      · have hs := if_f c22 hs
        refine lv_iconst (v := 1) hx hb dX7_shifted_35 (by decide) ?_
        refine lv_goto (tgt := 40) hx hb dX7_shifted_36 (by decide) ?_
        exact J1 true S11 _ _ _ (lv_sub hl [0, 1, 3, 5, 6, 7, 8] rfl) hP hS hs
theorem kX7_shifted {p : Program} {l : Launch} {e : Env} {R : Room} {s : State} {m : MethodId} {args : Array Value} {below : List Frame} {meth : Method} {c : Code} {H : Heap} {locs : List Loc} {cells slots : Nat} {Q : State → Prop} {cc : ByteArray} {pc nL : Nat} {ls : Array Slot} {rest : List Value} {D : va_G} {ad : Nat → Nat} {cI cB : ClassId} {en : Nat → Nat} {S : St} {own : String} {index : Nat} {x1 : Int32} {x2 : Int32} {x3 : Int32} {z4 : Bool} {x5 : Int32} {ro : Int32} {So : St} (C : CallFix p m c cc nL s args wG own) (hlk : Cond.methodLink own index yX7_shifted ∈ wG) (hR : rmX7_shifted.frames + 1 ≤ R.frames ∧ 8 + (16 + 11) + rmX7_shifted.locals ≤ R.locals) (hc : cells ≤ R.cells ∧ slots ≤ R.slots) (hK : KM D ad cI cB en s) (hP : va_P D vwCl (wM ad cI cB S) H) (hS : va_S (AX 11 ad s.heap.size) s.heap H locs) (hls : ls.size = nL) (hrest : (rest.map fun v => v.category).sum ≤ 8) (hd : decode cc pc = .ok (.invokevirtual index, 3)) (hs : fX7_shifted x1 x2 x3 z4 x5 S = some (ro, So)) (k : ∀ (H : Heap) (locs : List Loc), va_P D vwCl (wM ad cI cB So) H → va_S (AX 11 ad s.heap.size) s.heap H locs → W p l e R s m args below meth c H locs cells slots Q (F0 m (pc + 3) ls (.int ro :: rest))) : W p l e R s m args below meth c H locs cells slots Q (F0 m pc ls (.int x5 :: .int (zI z4) :: .int x3 :: .int x2 :: .int x1 :: .ref (ad 0) :: rest)) :=
  u_callV (n := 5) (mX7_shifted l D ad cI cB en S x1 x2 x3 z4 x5 ro So hs) C uK_M (wg_V hlk tI_X7_shifted tS_X7_shifted tN_X7 tK_X7_shifted) rfl rfl rfl (by decide +kernel) hR rfl (va_recv hK.1 hP (ci := 6) (q0 := 0) rfl rfl) hK hP hS hls hrest hd hc rfl k
def fX7_group14  (S : St) : Option (Bool × St) :=
    (lt ((((S.1 5) >>> ((6 : Int32) &&& 31)) &&& 3) : Int32) fun v1 => (jn (fun (b1 : Bool) => (if v1 = 3 then (if ((S.1 5) &&& 2048) = 0 then (bd (fX7_fits ((S.1 5) &&& 63) 2 2 S) fun b2 S5 => (if (zI b2) = 0 then (some (false, S5))
    else (bv (fX7_operand ((S5.1 5) &&& 63) 2 S5) fun S6 => (bd (fX7_take 2 S6) fun r4 S7 => (bd (fX7_shifted r4 2 (((S7.1 5) >>> ((9 : Int32) &&& 31)) &&& 3) b1 1 S7) fun r5 S8 => (bv (fX7_give r5 2 S8) fun S9 => (some (true, S9))))))))
    else (some (false, S)))
    else (bd (fX7_sizeOf v1 S) fun r1 S1 => (lt ((((S1.1 5) >>> ((9 : Int32) &&& 31)) &&& 7) : Int32) fun v2 => (jn (fun (v3 : Int32) => (lt (((S1.1 5) &&& 7) : Int32) fun v4 => (gd (ixo v4 8 = true) (gd (ixo v4 8 = true) (bd (fX7_shifted (S1.2.2 1 v4.toNatClampNeg) r1 (((S1.1 5) >>> ((3 : Int32) &&& 31)) &&& 3) b1 v3 S1) fun r2 S2 => (bd (fX7_joined (S1.2.2 1 v4.toNatClampNeg) r2 r1 S2) fun r3 S3 => (gd (ixo v4 8 = true) (lt (sA S3 1 v4.toNatClampNeg r3) fun S4 => (some (true, S4)))))))))) fun K2 =>
    (if ((S1.1 5) &&& 32) = 0 then (if v2 = 0 then (K2 8)
    else (K2 v2))
    else (gd (ixo v2 8 = true) (K2 ((S1.2.2 1 v2.toNatClampNeg) &&& 63))))))))) fun K1 =>
    (if ((S.1 5) &&& 256) = 0 then (K1 false)
    else (K1 true))))
abbrev rmX7_group14 : Room := { frames := 6, cells := 0, slots := 0, locals := 138 }
set_option maxRecDepth 100000 in
set_option maxHeartbeats 4000000 in
theorem mX7_group14 (l : Launch) (D : va_G) (ad : Nat → Nat) (cI cB : ClassId) (en : Nat → Nat) (S : St)  (ro : Bool) (So : St) (hs : fX7_group14  S = some (ro, So)) : uM l yX7_group14 (wg yX7_group14 cX7_group14 7 (some .boolean)) rmX7_group14 (KM D ad cI cB en) D (wM ad cI cB) (AX 11 ad) [.ref (ad 0)] S (some (.int (zI ro)), So) := by
  refine uM_start (by decide) rfl ?_
  intro p e s m below meth c hx hb hr hlocks hml hown hts hK hP
  have hT : ∀ w ∈ wG, w.before _ s = true := fun w h => hts w (List.mem_cons_of_mem _ h)
  have hS : va_S (AX 11 ad s.heap.size) s.heap s.heap [] := va_S.rf
  have hown : s.vm.findClass RX7 = some m.cls := hown
  have C : CallFix p m c cX7_group14 7 s _ wG RX7 := ⟨hx, hb, hml, hown, hT⟩
  have hl := lv_entry ([.ref (ad 0)]) (n := 7) (Nat.le_of_ble_eq_true rfl)
  rw [lg_entry_eq]
  generalize (lg_sl ([.ref (ad 0)]) ++ List.replicate (7 - (lg_sl ([.ref (ad 0)])).length) Slot.unset).toArray = ls at hl ⊢
  have hl : lv_has ls 7 [(0, .ref (ad 0))] := hl
  unfold fX7_group14 at hs
  refine lv_aload_n hx hb dX7_group14_0 rfl (lv_at hl 0 rfl) ?_
  refine gM_X7_op hx hb hT hown hK hP (hT _ tF_X7_174) dX7_group14_1 ?_
  refine lv_bipush (v := 6) hx hb dX7_group14_4 (by decide) ?_
  refine lv_ishr hx hb dX7_group14_6 ?_
  refine lv_iconst (v := 3) hx hb dX7_group14_7 (by decide) ?_
  refine lv_iand hx hb dX7_group14_8 ?_
  obtain ⟨v1, h1, hs⟩ := lt_e hs
  refine u_top h1 ?_
  refine lv_istore_n (lv' := [(1, .int v1), (0, .ref (ad 0))]) hx hb dX7_group14_9 rfl hl (by decide) rfl (fun ls hl => ?_)
  refine lv_aload_n hx hb dX7_group14_10 rfl (lv_at hl 1 rfl) ?_
  refine gM_X7_op hx hb hT hown hK hP (hT _ tF_X7_174) dX7_group14_11 ?_
  refine lv_sipush (v := 256) hx hb dX7_group14_14 (by decide) ?_
  refine lv_iand hx hb dX7_group14_17 ?_
  refine jn_e hs (fun K1 => ∀ (b1 : Bool) (H : Heap) (locs : List Loc) (ls : Array Slot), lv_has ls 7 [(1, .int v1), (0, .ref (ad 0))] → va_P D vwCl (wM ad cI cB S) H → va_S (AX 11 ad s.heap.size) s.heap H locs → K1 b1 = some (ro, So) → W p l e rmX7_group14 s m ([.ref (ad 0)] : List Value).toArray below meth c H locs 0 0 (MQ below (uQ D (wM ad cI cB) (some (.int (zI ro)), So) (AX 11 ad s.heap.size)) ([.ref (ad 0)] : List Value).toArray s 0 0 (AX 11 ad s.heap.size)) (F0 m 26 ls [.int (zI b1)])) ?_ (fun K1 J1 hs => ?_)
  · intro b1 H locs ls hl hP hS hs
    refine lv_istore_n (lv' := [(2, .int (zI b1)), (1, .int v1), (0, .ref (ad 0))]) hx hb dX7_group14_26 rfl hl (by decide) rfl (fun ls hl => ?_)
    refine lv_iload_n hx hb dX7_group14_27 rfl (lv_at hl 1 rfl) ?_
    refine lv_iconst (v := 3) hx hb dX7_group14_28 (by decide) ?_
    refine lv_icmp_ne (tgt := 102) hx hb dX7_group14_29 (by decide) (fun c1 => ?_) (fun c1 => ?_)
    · have hs := if_f c1 hs
      refine lv_iload_n hx hb dX7_group14_102 rfl (lv_at hl 1 rfl) ?_
      obtain ⟨r1, S1, h2, hs⟩ := bd_e hs
      refine kX7_sizeOf C tM_X7_211 ⟨Nat.le_of_ble_eq_true rfl, Nat.le_of_ble_eq_true rfl⟩ ⟨Nat.le_of_ble_eq_true rfl, Nat.le_of_ble_eq_true rfl⟩ hK hP hS hl.1 (rest := []) (Nat.le_of_ble_eq_true rfl) dX7_group14_103 h2 (fun H locs hP hS => ?_)
      refine lv_istore_n (lv' := [(3, .int r1), (2, .int (zI b1)), (1, .int v1), (0, .ref (ad 0))]) hx hb dX7_group14_106 rfl hl (by decide) rfl (fun ls hl => ?_)
      refine lv_aload_n hx hb dX7_group14_107 rfl (lv_at hl 3 rfl) ?_
      refine gM_X7_op hx hb hT hown hK hP (hT _ tF_X7_174) dX7_group14_108 ?_
      refine lv_bipush (v := 9) hx hb dX7_group14_111 (by decide) ?_
      refine lv_ishr hx hb dX7_group14_113 ?_
      refine lv_bipush (v := 7) hx hb dX7_group14_114 (by decide) ?_
      refine lv_iand hx hb dX7_group14_116 ?_
      obtain ⟨v2, h3, hs⟩ := lt_e hs
      refine u_top h3 ?_
      refine lv_istore (lv' := [(4, .int v2), (3, .int r1), (2, .int (zI b1)), (1, .int v1), (0, .ref (ad 0))]) hx hb dX7_group14_117 hl (by decide) rfl (fun ls hl => ?_)
      refine lv_aload_n hx hb dX7_group14_119 rfl (lv_at hl 4 rfl) ?_
      refine gM_X7_op hx hb hT hown hK hP (hT _ tF_X7_174) dX7_group14_120 ?_
      refine lv_bipush (v := 32) hx hb dX7_group14_123 (by decide) ?_
      refine lv_iand hx hb dX7_group14_125 ?_
      refine jn_e hs (fun K2 => ∀ (v3 : Int32) (H : Heap) (locs : List Loc) (ls : Array Slot), lv_has ls 7 [(3, .int r1), (2, .int (zI b1)), (0, .ref (ad 0))] → va_P D vwCl (wM ad cI cB S1) H → va_S (AX 11 ad s.heap.size) s.heap H locs → K2 v3 = some (ro, So) → W p l e rmX7_group14 s m ([.ref (ad 0)] : List Value).toArray below meth c H locs 0 0 (MQ below (uQ D (wM ad cI cB) (some (.int (zI ro)), So) (AX 11 ad s.heap.size)) ([.ref (ad 0)] : List Value).toArray s 0 0 (AX 11 ad s.heap.size)) (F0 m 154 ls [.int v3])) ?_ (fun K2 J2 hs => ?_)
      · intro v3 H locs ls hl hP hS hs
        refine lv_istore (lv' := [(5, .int v3), (3, .int r1), (2, .int (zI b1)), (0, .ref (ad 0))]) hx hb dX7_group14_154 hl (by decide) rfl (fun ls hl => ?_)
        refine lv_aload_n hx hb dX7_group14_156 rfl (lv_at hl 3 rfl) ?_
        refine gM_X7_op hx hb hT hown hK hP (hT _ tF_X7_174) dX7_group14_157 ?_
        refine lv_bipush (v := 7) hx hb dX7_group14_160 (by decide) ?_
        refine lv_iand hx hb dX7_group14_162 ?_
        obtain ⟨v4, h4, hs⟩ := lt_e hs
        refine u_top h4 ?_
        refine lv_istore (lv' := [(6, .int v4), (5, .int v3), (3, .int r1), (2, .int (zI b1)), (0, .ref (ad 0))]) hx hb dX7_group14_163 hl (by decide) rfl (fun ls hl => ?_)
        refine lv_aload_n hx hb dX7_group14_165 rfl (lv_at hl 4 rfl) ?_
        refine gM_X7_d hx hb hT hown hK hP (hT _ tF_X7_13) dX7_group14_166 ?_
        refine lv_iload hx hb dX7_group14_169 (lv_at hl 0 rfl) ?_
        refine lv_aload_n hx hb dX7_group14_171 rfl (lv_at hl 4 rfl) ?_
        refine gM_X7_d hx hb hT hown hK hP (hT _ tF_X7_13) dX7_group14_172 ?_
        refine lv_iload hx hb dX7_group14_175 (lv_at hl 0 rfl) ?_
        obtain ⟨h5, hs⟩ := gd_e hs
        refine lM_d hx hb hK hP (ixo_in h5) dX7_group14_177 ?_
        refine lv_aload_n hx hb dX7_group14_178 rfl (lv_at hl 4 rfl) ?_
        refine lv_aload_n hx hb dX7_group14_179 rfl (lv_at hl 4 rfl) ?_
        refine gM_X7_d hx hb hT hown hK hP (hT _ tF_X7_13) dX7_group14_180 ?_
        refine lv_iload hx hb dX7_group14_183 (lv_at hl 0 rfl) ?_
        obtain ⟨h6, hs⟩ := gd_e hs
        refine lM_d hx hb hK hP (ixo_in h6) dX7_group14_185 ?_
        refine lv_iload_n hx hb dX7_group14_186 rfl (lv_at hl 2 rfl) ?_
        refine lv_aload_n hx hb dX7_group14_187 rfl (lv_at hl 4 rfl) ?_
        refine gM_X7_op hx hb hT hown hK hP (hT _ tF_X7_174) dX7_group14_188 ?_
        refine lv_iconst (v := 3) hx hb dX7_group14_191 (by decide) ?_
        refine lv_ishr hx hb dX7_group14_192 ?_
        refine lv_iconst (v := 3) hx hb dX7_group14_193 (by decide) ?_
        refine lv_iand hx hb dX7_group14_194 ?_
        refine lv_iload_n hx hb dX7_group14_195 rfl (lv_at hl 3 rfl) ?_
        refine lv_iload hx hb dX7_group14_196 (lv_at hl 1 rfl) ?_
        obtain ⟨r2, S2, h7, hs⟩ := bd_e hs
        refine kX7_shifted C tM_X7_294 ⟨Nat.le_of_ble_eq_true rfl, Nat.le_of_ble_eq_true rfl⟩ ⟨Nat.le_of_ble_eq_true rfl, Nat.le_of_ble_eq_true rfl⟩ hK hP hS hl.1 (rest := [.int (S1.2.2 1 v4.toNatClampNeg), .int v4, .ref (ad 2)]) (Nat.le_of_ble_eq_true rfl) dX7_group14_198 h7 (fun H locs hP hS => ?_)
        refine lv_iload_n hx hb dX7_group14_201 rfl (lv_at hl 2 rfl) ?_
        obtain ⟨r3, S3, h8, hs⟩ := bd_e hs
        refine kX7_joined C tM_X7_150 ⟨Nat.le_of_ble_eq_true rfl, Nat.le_of_ble_eq_true rfl⟩ ⟨Nat.le_of_ble_eq_true rfl, Nat.le_of_ble_eq_true rfl⟩ hK hP hS hl.1 (rest := [.int v4, .ref (ad 2)]) (Nat.le_of_ble_eq_true rfl) dX7_group14_202 h8 (fun H locs hP hS => ?_)
        obtain ⟨h9, hs⟩ := gd_e hs
        obtain ⟨S4, h10, hs⟩ := lt_e hs
        refine sM_d hx hb hK hP hS (v := r3) (ixo_in h9) dX7_group14_205 h10 (fun H locs hP hS => ?_)
        refine lv_iconst (v := 1) hx hb dX7_group14_206 (by decide) ?_
        exact u_zret (v := true) hx hb hr hlocks hP hS hs dX7_group14_207
      ·
        refine lv_if_eq (tgt := 142) hx hb dX7_group14_126 (by decide) (fun c2 => ?_) (fun c2 => ?_)
        · have hs := if_t c2 hs
          refine lv_iload hx hb dX7_group14_142 (lv_at hl 0 rfl) ?_
          refine lv_if_ne (tgt := 152) hx hb dX7_group14_144 (by decide) (fun c3 => ?_) (fun c3 => ?_)
          · have hs := if_f c3 hs
            refine lv_iload hx hb dX7_group14_152 (lv_at hl 0 rfl) ?_
            exact J2 v2 _ _ _ (lv_sub hl [1, 2, 4] rfl) hP hS hs
          · have hs := if_t c3 hs
            refine lv_bipush (v := 8) hx hb dX7_group14_147 (by decide) ?_
            refine lv_goto (tgt := 154) hx hb dX7_group14_149 (by decide) ?_
            exact J2 8 _ _ _ (lv_sub hl [1, 2, 4] rfl) hP hS hs
        · have hs := if_f c2 hs
          refine lv_aload_n hx hb dX7_group14_129 rfl (lv_at hl 4 rfl) ?_
          refine gM_X7_d hx hb hT hown hK hP (hT _ tF_X7_13) dX7_group14_130 ?_
          refine lv_iload hx hb dX7_group14_133 (lv_at hl 0 rfl) ?_
          obtain ⟨h11, hs⟩ := gd_e hs
          refine lM_d hx hb hK hP (ixo_in h11) dX7_group14_135 ?_
          refine lv_bipush (v := 63) hx hb dX7_group14_136 (by decide) ?_
          refine lv_iand hx hb dX7_group14_138 ?_
          refine lv_goto (tgt := 154) hx hb dX7_group14_139 (by decide) ?_
          exact J2 ((S1.2.2 1 v2.toNatClampNeg) &&& 63) _ _ _ (lv_sub hl [1, 2, 4] rfl) hP hS hs
    · have hs := if_t c1 hs
      refine lv_aload_n hx hb dX7_group14_32 rfl (lv_at hl 2 rfl) ?_
      refine gM_X7_op hx hb hT hown hK hP (hT _ tF_X7_174) dX7_group14_33 ?_
      refine lv_sipush (v := 2048) hx hb dX7_group14_36 (by decide) ?_
      refine lv_iand hx hb dX7_group14_39 ?_
      refine lv_if_ne (tgt := 58) hx hb dX7_group14_40 (by decide) (fun c4 => ?_) (fun c4 => ?_)
      · have hs := if_f c4 hs
        refine lv_iconst (v := 0) hx hb dX7_group14_58 (by decide) ?_
        exact u_zret (v := false) hx hb hr hlocks hP hS hs dX7_group14_59
      · have hs := if_t c4 hs
        refine lv_aload_n hx hb dX7_group14_43 rfl (lv_at hl 2 rfl) ?_
        refine gM_X7_op hx hb hT hown hK hP (hT _ tF_X7_174) dX7_group14_44 ?_
        refine lv_bipush (v := 63) hx hb dX7_group14_47 (by decide) ?_
        refine lv_iand hx hb dX7_group14_49 ?_
        refine lv_iconst (v := 2) hx hb dX7_group14_50 (by decide) ?_
        refine lv_iconst (v := 2) hx hb dX7_group14_51 (by decide) ?_
        obtain ⟨b2, S5, h12, hs⟩ := bd_e hs
        refine kX7_fits C tM_X7_188 ⟨Nat.le_of_ble_eq_true rfl, Nat.le_of_ble_eq_true rfl⟩ ⟨Nat.le_of_ble_eq_true rfl, Nat.le_of_ble_eq_true rfl⟩ hK hP hS hl.1 (rest := []) (Nat.le_of_ble_eq_true rfl) dX7_group14_52 h12 (fun H locs hP hS => ?_)
        refine lv_if_ne (tgt := 60) hx hb dX7_group14_55 (by decide) (fun c5 => ?_) (fun c5 => ?_)
        · have hs := if_f c5 hs
          refine lv_aload_n hx hb dX7_group14_60 rfl (lv_at hl 2 rfl) ?_
          refine lv_aload_n hx hb dX7_group14_61 rfl (lv_at hl 2 rfl) ?_
          refine gM_X7_op hx hb hT hown hK hP (hT _ tF_X7_174) dX7_group14_62 ?_
          refine lv_bipush (v := 63) hx hb dX7_group14_65 (by decide) ?_
          refine lv_iand hx hb dX7_group14_67 ?_
          refine lv_iconst (v := 2) hx hb dX7_group14_68 (by decide) ?_
          obtain ⟨S6, h13, hs⟩ := bv_e hs
          refine kX7_operand C tM_X7_192 ⟨Nat.le_of_ble_eq_true rfl, Nat.le_of_ble_eq_true rfl⟩ ⟨Nat.le_of_ble_eq_true rfl, Nat.le_of_ble_eq_true rfl⟩ hK hP hS hl.1 (rest := []) (Nat.le_of_ble_eq_true rfl) dX7_group14_69 h13 (fun H locs hP hS => ?_)
          refine lv_aload_n hx hb dX7_group14_72 rfl (lv_at hl 2 rfl) ?_
          refine lv_iconst (v := 2) hx hb dX7_group14_73 (by decide) ?_
          obtain ⟨r4, S7, h14, hs⟩ := bd_e hs
          refine kX7_take C tM_X7_195 ⟨Nat.le_of_ble_eq_true rfl, Nat.le_of_ble_eq_true rfl⟩ ⟨Nat.le_of_ble_eq_true rfl, Nat.le_of_ble_eq_true rfl⟩ hK hP hS hl.1 (rest := []) (Nat.le_of_ble_eq_true rfl) dX7_group14_74 h14 (fun H locs hP hS => ?_)
          refine lv_istore_n (lv' := [(3, .int r4), (2, .int (zI b1)), (1, .int v1), (0, .ref (ad 0))]) hx hb dX7_group14_77 rfl hl (by decide) rfl (fun ls hl => ?_)
          refine lv_aload_n hx hb dX7_group14_78 rfl (lv_at hl 3 rfl) ?_
          refine lv_aload_n hx hb dX7_group14_79 rfl (lv_at hl 3 rfl) ?_
          refine lv_iload_n hx hb dX7_group14_80 rfl (lv_at hl 0 rfl) ?_
          refine lv_iconst (v := 2) hx hb dX7_group14_81 (by decide) ?_
          refine lv_aload_n hx hb dX7_group14_82 rfl (lv_at hl 3 rfl) ?_
          refine gM_X7_op hx hb hT hown hK hP (hT _ tF_X7_174) dX7_group14_83 ?_
          refine lv_bipush (v := 9) hx hb dX7_group14_86 (by decide) ?_
          refine lv_ishr hx hb dX7_group14_88 ?_
          refine lv_iconst (v := 3) hx hb dX7_group14_89 (by decide) ?_
          refine lv_iand hx hb dX7_group14_90 ?_
          refine lv_iload_n hx hb dX7_group14_91 rfl (lv_at hl 1 rfl) ?_
          refine lv_iconst (v := 1) hx hb dX7_group14_92 (by decide) ?_
          obtain ⟨r5, S8, h15, hs⟩ := bd_e hs
          refine kX7_shifted C tM_X7_294 ⟨Nat.le_of_ble_eq_true rfl, Nat.le_of_ble_eq_true rfl⟩ ⟨Nat.le_of_ble_eq_true rfl, Nat.le_of_ble_eq_true rfl⟩ hK hP hS hl.1 (rest := [.ref (ad 0)]) (Nat.le_of_ble_eq_true rfl) dX7_group14_93 h15 (fun H locs hP hS => ?_)
          refine lv_iconst (v := 2) hx hb dX7_group14_96 (by decide) ?_
          obtain ⟨S9, h16, hs⟩ := bv_e hs
          refine kX7_give C tM_X7_198 ⟨Nat.le_of_ble_eq_true rfl, Nat.le_of_ble_eq_true rfl⟩ ⟨Nat.le_of_ble_eq_true rfl, Nat.le_of_ble_eq_true rfl⟩ hK hP hS hl.1 (rest := []) (Nat.le_of_ble_eq_true rfl) dX7_group14_97 h16 (fun H locs hP hS => ?_)
          refine lv_iconst (v := 1) hx hb dX7_group14_100 (by decide) ?_
          exact u_zret (v := true) hx hb hr hlocks hP hS hs dX7_group14_101
        · have hs := if_t c5 hs
          refine lv_iconst (v := 0) hx hb dX7_group14_58 (by decide) ?_
          exact u_zret (v := false) hx hb hr hlocks hP hS hs dX7_group14_59
  ·
    refine lv_if_eq (tgt := 25) hx hb dX7_group14_18 (by decide) (fun c6 => ?_) (fun c6 => ?_)
    · have hs := if_t c6 hs
      refine lv_iconst (v := 0) hx hb dX7_group14_25 (by decide) ?_
      exact J1 false _ _ _ (lv_sub hl [0, 1] rfl) hP hS hs
    · have hs := if_f c6 hs
      refine lv_iconst (v := 1) hx hb dX7_group14_21 (by decide) ?_
      refine lv_goto (tgt := 26) hx hb dX7_group14_22 (by decide) ?_
      exact J1 true _ _ _ (lv_sub hl [0, 1] rfl) hP hS hs
theorem kX7_group14 {p : Program} {l : Launch} {e : Env} {R : Room} {s : State} {m : MethodId} {args : Array Value} {below : List Frame} {meth : Method} {c : Code} {H : Heap} {locs : List Loc} {cells slots : Nat} {Q : State → Prop} {cc : ByteArray} {pc nL : Nat} {ls : Array Slot} {rest : List Value} {D : va_G} {ad : Nat → Nat} {cI cB : ClassId} {en : Nat → Nat} {S : St} {own : String} {index : Nat}  {ro : Bool} {So : St} (C : CallFix p m c cc nL s args wG own) (hlk : Cond.methodLink own index yX7_group14 ∈ wG) (hR : rmX7_group14.frames + 1 ≤ R.frames ∧ 8 + (7 + 11) + rmX7_group14.locals ≤ R.locals) (hc : cells ≤ R.cells ∧ slots ≤ R.slots) (hK : KM D ad cI cB en s) (hP : va_P D vwCl (wM ad cI cB S) H) (hS : va_S (AX 11 ad s.heap.size) s.heap H locs) (hls : ls.size = nL) (hrest : (rest.map fun v => v.category).sum ≤ 8) (hd : decode cc pc = .ok (.invokevirtual index, 3)) (hs : fX7_group14  S = some (ro, So)) (k : ∀ (H : Heap) (locs : List Loc), va_P D vwCl (wM ad cI cB So) H → va_S (AX 11 ad s.heap.size) s.heap H locs → W p l e R s m args below meth c H locs cells slots Q (F0 m (pc + 3) ls (.int (zI ro) :: rest))) : W p l e R s m args below meth c H locs cells slots Q (F0 m pc ls (.ref (ad 0) :: rest)) :=
  u_callV (n := 0) (mX7_group14 l D ad cI cB en S  ro So hs) C uK_M (wg_V hlk tI_X7_group14 tS_X7_group14 tN_X7 tK_X7_group14) rfl rfl rfl (by decide +kernel) hR rfl (va_recv hK.1 hP (ci := 6) (q0 := 0) rfl rfl) hK hP hS hls hrest hd hc rfl k
def fX7_act  (S : St) : Option (Bool × St) :=
    (if ((S.1 5) >>> ((12 : Int32) &&& 31)) = 0 then (bd (fX7_group0 S) fun b1 S1 => (some (b1, S1)))
    else (if ((S.1 5) >>> ((12 : Int32) &&& 31)) = 1 then (bd (fX7_move S) fun b2 S2 => (some (b2, S2)))
    else (if ((S.1 5) >>> ((12 : Int32) &&& 31)) = 2 then (bd (fX7_move S) fun b3 S3 => (some (b3, S3)))
    else (if ((S.1 5) >>> ((12 : Int32) &&& 31)) = 3 then (bd (fX7_move S) fun b4 S4 => (some (b4, S4)))
    else (if ((S.1 5) >>> ((12 : Int32) &&& 31)) = 4 then (bd (fX7_group4 S) fun b5 S5 => (some (b5, S5)))
    else (if ((S.1 5) >>> ((12 : Int32) &&& 31)) = 5 then (bd (fX7_group5 S) fun b6 S6 => (some (b6, S6)))
    else (if ((S.1 5) >>> ((12 : Int32) &&& 31)) = 6 then (bd (fX7_group6 S) fun b7 S7 => (some (b7, S7)))
    else (if ((S.1 5) >>> ((12 : Int32) &&& 31)) = 7 then (bd (fX7_group7 S) fun b8 S8 => (some (b8, S8)))
    else (if ((S.1 5) >>> ((12 : Int32) &&& 31)) = 8 then (bd (fX7_group8or12 false S) fun b9 S9 => (some (b9, S9)))
    else (if ((S.1 5) >>> ((12 : Int32) &&& 31)) = 9 then (bd (fX7_sumPair true S) fun b10 S10 => (some (b10, S10)))
    else (if ((S.1 5) >>> ((12 : Int32) &&& 31)) = 11 then (bd (fX7_group11 S) fun b11 S11 => (some (b11, S11)))
    else (if ((S.1 5) >>> ((12 : Int32) &&& 31)) = 12 then (bd (fX7_group8or12 true S) fun b12 S12 => (some (b12, S12)))
    else (if ((S.1 5) >>> ((12 : Int32) &&& 31)) = 13 then (bd (fX7_sumPair false S) fun b13 S13 => (some (b13, S13)))
    else (if ((S.1 5) >>> ((12 : Int32) &&& 31)) = 14 then (bd (fX7_group14 S) fun b14 S14 => (some (b14, S14)))
    else (jn (fun (v1 : Int32) => (bv (fX7_fault v1 0 S) fun S15 => (some (true, S15)))) fun K1 =>
    (if ((S.1 5) >>> ((12 : Int32) &&& 31)) = 10 then (K1 10)
    else (K1 11)))))))))))))))))
abbrev rmX7_act : Room := { frames := 9, cells := 0, slots := 0, locals := 212 }
set_option maxRecDepth 100000 in
set_option maxHeartbeats 4000000 in
theorem mX7_act (l : Launch) (D : va_G) (ad : Nat → Nat) (cI cB : ClassId) (en : Nat → Nat) (S : St)  (ro : Bool) (So : St) (hs : fX7_act  S = some (ro, So)) : uM l yX7_act (wg yX7_act cX7_act 1 (some .boolean)) rmX7_act (KM D ad cI cB en) D (wM ad cI cB) (AX 11 ad) [.ref (ad 0)] S (some (.int (zI ro)), So) := by
  refine uM_start (by decide) rfl ?_
  intro p e s m below meth c hx hb hr hlocks hml hown hts hK hP
  have hT : ∀ w ∈ wG, w.before _ s = true := fun w h => hts w (List.mem_cons_of_mem _ h)
  have hS : va_S (AX 11 ad s.heap.size) s.heap s.heap [] := va_S.rf
  have hown : s.vm.findClass RX7 = some m.cls := hown
  have C : CallFix p m c cX7_act 1 s _ wG RX7 := ⟨hx, hb, hml, hown, hT⟩
  have hl := lv_entry ([.ref (ad 0)]) (n := 1) (Nat.le_of_ble_eq_true rfl)
  rw [lg_entry_eq]
  generalize (lg_sl ([.ref (ad 0)]) ++ List.replicate (1 - (lg_sl ([.ref (ad 0)])).length) Slot.unset).toArray = ls at hl ⊢
  have hl : lv_has ls 1 [(0, .ref (ad 0))] := hl
  unfold fX7_act at hs
  refine lv_aload_n hx hb dX7_act_0 rfl (lv_at hl 0 rfl) ?_
  refine gM_X7_op hx hb hT hown hK hP (hT _ tF_X7_174) dX7_act_1 ?_
  refine lv_bipush (v := 12) hx hb dX7_act_4 (by decide) ?_
  refine lv_ishr hx hb dX7_act_6 ?_
  by_cases c1 : ((S.1 5) >>> ((12 : Int32) &&& 31)) = 0
  · have hs := if_t c1 hs
    refine u_table (k := 0) (a := 0) (off := 73) (tgt := 80) hx hb dX7_act_7 c1 (by decide) (by decide) (by decide) (by decide) (by decide) ?_
    refine lv_aload_n hx hb dX7_act_80 rfl (lv_at hl 0 rfl) ?_
    obtain ⟨b1, S1, h1, hs⟩ := bd_e hs
    refine kX7_group0 C tM_X7_298 ⟨Nat.le_of_ble_eq_true rfl, Nat.le_of_ble_eq_true rfl⟩ ⟨Nat.le_of_ble_eq_true rfl, Nat.le_of_ble_eq_true rfl⟩ hK hP hS hl.1 (rest := []) (Nat.le_of_ble_eq_true rfl) dX7_act_81 h1 (fun H locs hP hS => ?_)
    exact u_zret (v := b1) hx hb hr hlocks hP hS hs dX7_act_84
  have hs := if_f c1 hs
  by_cases c2 : ((S.1 5) >>> ((12 : Int32) &&& 31)) = 1
  · have hs := if_t c2 hs
    refine u_table (k := 1) (a := 1) (off := 78) (tgt := 85) hx hb dX7_act_7 c2 (by decide) (by decide) (by decide) (by decide) (by decide) ?_
    refine lv_aload_n hx hb dX7_act_85 rfl (lv_at hl 0 rfl) ?_
    obtain ⟨b2, S2, h2, hs⟩ := bd_e hs
    refine kX7_move C tM_X7_301 ⟨Nat.le_of_ble_eq_true rfl, Nat.le_of_ble_eq_true rfl⟩ ⟨Nat.le_of_ble_eq_true rfl, Nat.le_of_ble_eq_true rfl⟩ hK hP hS hl.1 (rest := []) (Nat.le_of_ble_eq_true rfl) dX7_act_86 h2 (fun H locs hP hS => ?_)
    exact u_zret (v := b2) hx hb hr hlocks hP hS hs dX7_act_89
  have hs := if_f c2 hs
  by_cases c3 : ((S.1 5) >>> ((12 : Int32) &&& 31)) = 2
  · have hs := if_t c3 hs
    refine u_table (k := 2) (a := 2) (off := 78) (tgt := 85) hx hb dX7_act_7 c3 (by decide) (by decide) (by decide) (by decide) (by decide) ?_
    refine lv_aload_n hx hb dX7_act_85 rfl (lv_at hl 0 rfl) ?_
    obtain ⟨b3, S3, h3, hs⟩ := bd_e hs
    refine kX7_move C tM_X7_301 ⟨Nat.le_of_ble_eq_true rfl, Nat.le_of_ble_eq_true rfl⟩ ⟨Nat.le_of_ble_eq_true rfl, Nat.le_of_ble_eq_true rfl⟩ hK hP hS hl.1 (rest := []) (Nat.le_of_ble_eq_true rfl) dX7_act_86 h3 (fun H locs hP hS => ?_)
    exact u_zret (v := b3) hx hb hr hlocks hP hS hs dX7_act_89
  have hs := if_f c3 hs
  by_cases c4 : ((S.1 5) >>> ((12 : Int32) &&& 31)) = 3
  · have hs := if_t c4 hs
    refine u_table (k := 3) (a := 3) (off := 78) (tgt := 85) hx hb dX7_act_7 c4 (by decide) (by decide) (by decide) (by decide) (by decide) ?_
    refine lv_aload_n hx hb dX7_act_85 rfl (lv_at hl 0 rfl) ?_
    obtain ⟨b4, S4, h4, hs⟩ := bd_e hs
    refine kX7_move C tM_X7_301 ⟨Nat.le_of_ble_eq_true rfl, Nat.le_of_ble_eq_true rfl⟩ ⟨Nat.le_of_ble_eq_true rfl, Nat.le_of_ble_eq_true rfl⟩ hK hP hS hl.1 (rest := []) (Nat.le_of_ble_eq_true rfl) dX7_act_86 h4 (fun H locs hP hS => ?_)
    exact u_zret (v := b4) hx hb hr hlocks hP hS hs dX7_act_89
  have hs := if_f c4 hs
  by_cases c5 : ((S.1 5) >>> ((12 : Int32) &&& 31)) = 4
  · have hs := if_t c5 hs
    refine u_table (k := 4) (a := 4) (off := 83) (tgt := 90) hx hb dX7_act_7 c5 (by decide) (by decide) (by decide) (by decide) (by decide) ?_
    refine lv_aload_n hx hb dX7_act_90 rfl (lv_at hl 0 rfl) ?_
    obtain ⟨b5, S5, h5, hs⟩ := bd_e hs
    refine kX7_group4 C tM_X7_304 ⟨Nat.le_of_ble_eq_true rfl, Nat.le_of_ble_eq_true rfl⟩ ⟨Nat.le_of_ble_eq_true rfl, Nat.le_of_ble_eq_true rfl⟩ hK hP hS hl.1 (rest := []) (Nat.le_of_ble_eq_true rfl) dX7_act_91 h5 (fun H locs hP hS => ?_)
    exact u_zret (v := b5) hx hb hr hlocks hP hS hs dX7_act_94
  have hs := if_f c5 hs
  by_cases c6 : ((S.1 5) >>> ((12 : Int32) &&& 31)) = 5
  · have hs := if_t c6 hs
    refine u_table (k := 5) (a := 5) (off := 88) (tgt := 95) hx hb dX7_act_7 c6 (by decide) (by decide) (by decide) (by decide) (by decide) ?_
    refine lv_aload_n hx hb dX7_act_95 rfl (lv_at hl 0 rfl) ?_
    obtain ⟨b6, S6, h6, hs⟩ := bd_e hs
    refine kX7_group5 C tM_X7_307 ⟨Nat.le_of_ble_eq_true rfl, Nat.le_of_ble_eq_true rfl⟩ ⟨Nat.le_of_ble_eq_true rfl, Nat.le_of_ble_eq_true rfl⟩ hK hP hS hl.1 (rest := []) (Nat.le_of_ble_eq_true rfl) dX7_act_96 h6 (fun H locs hP hS => ?_)
    exact u_zret (v := b6) hx hb hr hlocks hP hS hs dX7_act_99
  have hs := if_f c6 hs
  by_cases c7 : ((S.1 5) >>> ((12 : Int32) &&& 31)) = 6
  · have hs := if_t c7 hs
    refine u_table (k := 6) (a := 6) (off := 93) (tgt := 100) hx hb dX7_act_7 c7 (by decide) (by decide) (by decide) (by decide) (by decide) ?_
    refine lv_aload_n hx hb dX7_act_100 rfl (lv_at hl 0 rfl) ?_
    obtain ⟨b7, S7, h7, hs⟩ := bd_e hs
    refine kX7_group6 C tM_X7_310 ⟨Nat.le_of_ble_eq_true rfl, Nat.le_of_ble_eq_true rfl⟩ ⟨Nat.le_of_ble_eq_true rfl, Nat.le_of_ble_eq_true rfl⟩ hK hP hS hl.1 (rest := []) (Nat.le_of_ble_eq_true rfl) dX7_act_101 h7 (fun H locs hP hS => ?_)
    exact u_zret (v := b7) hx hb hr hlocks hP hS hs dX7_act_104
  have hs := if_f c7 hs
  by_cases c8 : ((S.1 5) >>> ((12 : Int32) &&& 31)) = 7
  · have hs := if_t c8 hs
    refine u_table (k := 7) (a := 7) (off := 98) (tgt := 105) hx hb dX7_act_7 c8 (by decide) (by decide) (by decide) (by decide) (by decide) ?_
    refine lv_aload_n hx hb dX7_act_105 rfl (lv_at hl 0 rfl) ?_
    obtain ⟨b8, S8, h8, hs⟩ := bd_e hs
    refine kX7_group7 C tM_X7_313 ⟨Nat.le_of_ble_eq_true rfl, Nat.le_of_ble_eq_true rfl⟩ ⟨Nat.le_of_ble_eq_true rfl, Nat.le_of_ble_eq_true rfl⟩ hK hP hS hl.1 (rest := []) (Nat.le_of_ble_eq_true rfl) dX7_act_106 h8 (fun H locs hP hS => ?_)
    exact u_zret (v := b8) hx hb hr hlocks hP hS hs dX7_act_109
  have hs := if_f c8 hs
  by_cases c9 : ((S.1 5) >>> ((12 : Int32) &&& 31)) = 8
  · have hs := if_t c9 hs
    refine u_table (k := 8) (a := 8) (off := 103) (tgt := 110) hx hb dX7_act_7 c9 (by decide) (by decide) (by decide) (by decide) (by decide) ?_
    refine lv_aload_n hx hb dX7_act_110 rfl (lv_at hl 0 rfl) ?_
    refine lv_iconst (v := 0) hx hb dX7_act_111 (by decide) ?_
    obtain ⟨b9, S9, h9, hs⟩ := bd_e hs
    refine kX7_group8or12 C tM_X7_316 ⟨Nat.le_of_ble_eq_true rfl, Nat.le_of_ble_eq_true rfl⟩ ⟨Nat.le_of_ble_eq_true rfl, Nat.le_of_ble_eq_true rfl⟩ hK hP hS hl.1 (rest := []) (Nat.le_of_ble_eq_true rfl) dX7_act_112 h9 (fun H locs hP hS => ?_)
    exact u_zret (v := b9) hx hb hr hlocks hP hS hs dX7_act_115
  have hs := if_f c9 hs
  by_cases c10 : ((S.1 5) >>> ((12 : Int32) &&& 31)) = 9
  · have hs := if_t c10 hs
    refine u_table (k := 9) (a := 9) (off := 109) (tgt := 116) hx hb dX7_act_7 c10 (by decide) (by decide) (by decide) (by decide) (by decide) ?_
    refine lv_aload_n hx hb dX7_act_116 rfl (lv_at hl 0 rfl) ?_
    refine lv_iconst (v := 1) hx hb dX7_act_117 (by decide) ?_
    obtain ⟨b10, S10, h10, hs⟩ := bd_e hs
    refine kX7_sumPair C tM_X7_319 ⟨Nat.le_of_ble_eq_true rfl, Nat.le_of_ble_eq_true rfl⟩ ⟨Nat.le_of_ble_eq_true rfl, Nat.le_of_ble_eq_true rfl⟩ hK hP hS hl.1 (rest := []) (Nat.le_of_ble_eq_true rfl) dX7_act_118 h10 (fun H locs hP hS => ?_)
    exact u_zret (v := b10) hx hb hr hlocks hP hS hs dX7_act_121
  have hs := if_f c10 hs
  by_cases c11 : ((S.1 5) >>> ((12 : Int32) &&& 31)) = 11
  · have hs := if_t c11 hs
    refine u_table (k := 11) (a := 11) (off := 115) (tgt := 122) hx hb dX7_act_7 c11 (by decide) (by decide) (by decide) (by decide) (by decide) ?_
    refine lv_aload_n hx hb dX7_act_122 rfl (lv_at hl 0 rfl) ?_
    obtain ⟨b11, S11, h11, hs⟩ := bd_e hs
    refine kX7_group11 C tM_X7_322 ⟨Nat.le_of_ble_eq_true rfl, Nat.le_of_ble_eq_true rfl⟩ ⟨Nat.le_of_ble_eq_true rfl, Nat.le_of_ble_eq_true rfl⟩ hK hP hS hl.1 (rest := []) (Nat.le_of_ble_eq_true rfl) dX7_act_123 h11 (fun H locs hP hS => ?_)
    exact u_zret (v := b11) hx hb hr hlocks hP hS hs dX7_act_126
  have hs := if_f c11 hs
  by_cases c12 : ((S.1 5) >>> ((12 : Int32) &&& 31)) = 12
  · have hs := if_t c12 hs
    refine u_table (k := 12) (a := 12) (off := 120) (tgt := 127) hx hb dX7_act_7 c12 (by decide) (by decide) (by decide) (by decide) (by decide) ?_
    refine lv_aload_n hx hb dX7_act_127 rfl (lv_at hl 0 rfl) ?_
    refine lv_iconst (v := 1) hx hb dX7_act_128 (by decide) ?_
    obtain ⟨b12, S12, h12, hs⟩ := bd_e hs
    refine kX7_group8or12 C tM_X7_316 ⟨Nat.le_of_ble_eq_true rfl, Nat.le_of_ble_eq_true rfl⟩ ⟨Nat.le_of_ble_eq_true rfl, Nat.le_of_ble_eq_true rfl⟩ hK hP hS hl.1 (rest := []) (Nat.le_of_ble_eq_true rfl) dX7_act_129 h12 (fun H locs hP hS => ?_)
    exact u_zret (v := b12) hx hb hr hlocks hP hS hs dX7_act_132
  have hs := if_f c12 hs
  by_cases c13 : ((S.1 5) >>> ((12 : Int32) &&& 31)) = 13
  · have hs := if_t c13 hs
    refine u_table (k := 13) (a := 13) (off := 126) (tgt := 133) hx hb dX7_act_7 c13 (by decide) (by decide) (by decide) (by decide) (by decide) ?_
    refine lv_aload_n hx hb dX7_act_133 rfl (lv_at hl 0 rfl) ?_
    refine lv_iconst (v := 0) hx hb dX7_act_134 (by decide) ?_
    obtain ⟨b13, S13, h13, hs⟩ := bd_e hs
    refine kX7_sumPair C tM_X7_319 ⟨Nat.le_of_ble_eq_true rfl, Nat.le_of_ble_eq_true rfl⟩ ⟨Nat.le_of_ble_eq_true rfl, Nat.le_of_ble_eq_true rfl⟩ hK hP hS hl.1 (rest := []) (Nat.le_of_ble_eq_true rfl) dX7_act_135 h13 (fun H locs hP hS => ?_)
    exact u_zret (v := b13) hx hb hr hlocks hP hS hs dX7_act_138
  have hs := if_f c13 hs
  by_cases c14 : ((S.1 5) >>> ((12 : Int32) &&& 31)) = 14
  · have hs := if_t c14 hs
    refine u_table (k := 14) (a := 14) (off := 132) (tgt := 139) hx hb dX7_act_7 c14 (by decide) (by decide) (by decide) (by decide) (by decide) ?_
    refine lv_aload_n hx hb dX7_act_139 rfl (lv_at hl 0 rfl) ?_
    obtain ⟨b14, S14, h14, hs⟩ := bd_e hs
    refine kX7_group14 C tM_X7_325 ⟨Nat.le_of_ble_eq_true rfl, Nat.le_of_ble_eq_true rfl⟩ ⟨Nat.le_of_ble_eq_true rfl, Nat.le_of_ble_eq_true rfl⟩ hK hP hS hl.1 (rest := []) (Nat.le_of_ble_eq_true rfl) dX7_act_140 h14 (fun H locs hP hS => ?_)
    exact u_zret (v := b14) hx hb hr hlocks hP hS hs dX7_act_143
  have hs := if_f c14 hs
  refine u_tableD (tgt := 144) hx hb dX7_act_7 (fun hlo hhi => ?_) (by decide) ?_
  · have hz : (((S.1 5) >>> ((12 : Int32) &&& 31))).toInt = 0 ∨ (((S.1 5) >>> ((12 : Int32) &&& 31))).toInt = 1 ∨ (((S.1 5) >>> ((12 : Int32) &&& 31))).toInt = 2 ∨ (((S.1 5) >>> ((12 : Int32) &&& 31))).toInt = 3 ∨ (((S.1 5) >>> ((12 : Int32) &&& 31))).toInt = 4 ∨ (((S.1 5) >>> ((12 : Int32) &&& 31))).toInt = 5 ∨ (((S.1 5) >>> ((12 : Int32) &&& 31))).toInt = 6 ∨ (((S.1 5) >>> ((12 : Int32) &&& 31))).toInt = 7 ∨ (((S.1 5) >>> ((12 : Int32) &&& 31))).toInt = 8 ∨ (((S.1 5) >>> ((12 : Int32) &&& 31))).toInt = 9 ∨ (((S.1 5) >>> ((12 : Int32) &&& 31))).toInt = 10 ∨ (((S.1 5) >>> ((12 : Int32) &&& 31))).toInt = 11 ∨ (((S.1 5) >>> ((12 : Int32) &&& 31))).toInt = 12 ∨ (((S.1 5) >>> ((12 : Int32) &&& 31))).toInt = 13 ∨ (((S.1 5) >>> ((12 : Int32) &&& 31))).toInt = 14 := by omega
    rcases hz with hz | hz | hz | hz | hz | hz | hz | hz | hz | hz | hz | hz | hz | hz | hz
    · exact absurd hz (lv_neT c1 (by decide))
    · exact absurd hz (lv_neT c2 (by decide))
    · exact absurd hz (lv_neT c3 (by decide))
    · exact absurd hz (lv_neT c4 (by decide))
    · exact absurd hz (lv_neT c5 (by decide))
    · exact absurd hz (lv_neT c6 (by decide))
    · exact absurd hz (lv_neT c7 (by decide))
    · exact absurd hz (lv_neT c8 (by decide))
    · exact absurd hz (lv_neT c9 (by decide))
    · exact absurd hz (lv_neT c10 (by decide))
    · rw [hz]; decide
    · exact absurd hz (lv_neT c11 (by decide))
    · exact absurd hz (lv_neT c12 (by decide))
    · exact absurd hz (lv_neT c13 (by decide))
    · exact absurd hz (lv_neT c14 (by decide))
  refine lv_aload_n hx hb dX7_act_144 rfl (lv_at hl 0 rfl) ?_
  refine lv_aload_n hx hb dX7_act_145 rfl (lv_at hl 0 rfl) ?_
  refine gM_X7_op hx hb hT hown hK hP (hT _ tF_X7_174) dX7_act_146 ?_
  refine lv_bipush (v := 12) hx hb dX7_act_149 (by decide) ?_
  refine lv_ishr hx hb dX7_act_151 ?_
  refine lv_bipush (v := 10) hx hb dX7_act_152 (by decide) ?_
  refine jn_e hs (fun K1 => ∀ (v1 : Int32) (H : Heap) (locs : List Loc) (ls : Array Slot), lv_has ls 1 [] → va_P D vwCl (wM ad cI cB S) H → va_S (AX 11 ad s.heap.size) s.heap H locs → K1 v1 = some (ro, So) → W p l e rmX7_act s m ([.ref (ad 0)] : List Value).toArray below meth c H locs 0 0 (MQ below (uQ D (wM ad cI cB) (some (.int (zI ro)), So) (AX 11 ad s.heap.size)) ([.ref (ad 0)] : List Value).toArray s 0 0 (AX 11 ad s.heap.size)) (F0 m 164 ls [.int v1, .ref (ad 0)])) ?_ (fun K1 J1 hs => ?_)
  · intro v1 H locs ls hl hP hS hs
    refine lv_iconst (v := 0) hx hb dX7_act_164 (by decide) ?_
    obtain ⟨S15, h15, hs⟩ := bv_e hs
    refine kX7_fault C tM_X7_106 ⟨Nat.le_of_ble_eq_true rfl, Nat.le_of_ble_eq_true rfl⟩ ⟨Nat.le_of_ble_eq_true rfl, Nat.le_of_ble_eq_true rfl⟩ hK hP hS hl.1 (rest := []) (Nat.le_of_ble_eq_true rfl) dX7_act_165 h15 (fun H locs hP hS => ?_)
    refine lv_iconst (v := 1) hx hb dX7_act_168 (by decide) ?_
    exact u_zret (v := true) hx hb hr hlocks hP hS hs dX7_act_169
  ·
    refine lv_icmp_ne (tgt := 162) hx hb dX7_act_154 (by decide) (fun c15 => ?_) (fun c15 => ?_)
    · have hs := if_f c15 hs
      refine lv_bipush (v := 11) hx hb dX7_act_162 (by decide) ?_
      exact J1 11 _ _ _ (lv_sub hl [] rfl) hP hS hs
    · have hs := if_t c15 hs
      refine lv_bipush (v := 10) hx hb dX7_act_157 (by decide) ?_
      refine lv_goto (tgt := 164) hx hb dX7_act_159 (by decide) ?_
      exact J1 10 _ _ _ (lv_sub hl [] rfl) hP hS hs
theorem kX7_act {p : Program} {l : Launch} {e : Env} {R : Room} {s : State} {m : MethodId} {args : Array Value} {below : List Frame} {meth : Method} {c : Code} {H : Heap} {locs : List Loc} {cells slots : Nat} {Q : State → Prop} {cc : ByteArray} {pc nL : Nat} {ls : Array Slot} {rest : List Value} {D : va_G} {ad : Nat → Nat} {cI cB : ClassId} {en : Nat → Nat} {S : St} {own : String} {index : Nat}  {ro : Bool} {So : St} (C : CallFix p m c cc nL s args wG own) (hlk : Cond.methodLink own index yX7_act ∈ wG) (hR : rmX7_act.frames + 1 ≤ R.frames ∧ 8 + (1 + 11) + rmX7_act.locals ≤ R.locals) (hc : cells ≤ R.cells ∧ slots ≤ R.slots) (hK : KM D ad cI cB en s) (hP : va_P D vwCl (wM ad cI cB S) H) (hS : va_S (AX 11 ad s.heap.size) s.heap H locs) (hls : ls.size = nL) (hrest : (rest.map fun v => v.category).sum ≤ 8) (hd : decode cc pc = .ok (.invokevirtual index, 3)) (hs : fX7_act  S = some (ro, So)) (k : ∀ (H : Heap) (locs : List Loc), va_P D vwCl (wM ad cI cB So) H → va_S (AX 11 ad s.heap.size) s.heap H locs → W p l e R s m args below meth c H locs cells slots Q (F0 m (pc + 3) ls (.int (zI ro) :: rest))) : W p l e R s m args below meth c H locs cells slots Q (F0 m pc ls (.ref (ad 0) :: rest)) :=
  u_callV (n := 0) (mX7_act l D ad cI cB en S  ro So hs) C uK_M (wg_V hlk tI_X7_act tS_X7_act tN_X7 tK_X7_act) rfl rfl rfl (by decide +kernel) hR rfl (va_recv hK.1 hP (ci := 6) (q0 := 0) rfl rfl) hK hP hS hls hrest hd hc rfl k
def fX7_exception (x1 : Int32) (z2 : Bool) (x3 : Int32) (S : St) : Option (Bool × St) :=
    (lt ((S.1 2) : Int32) fun v1 => (bv (fX7_flag 8192 true S) fun S1 => (bv (fX7_flag 32768 false S1) fun S2 => (gd (ixo 1 2 = true) (if ((S2.2.2 3 (1 : Int32).toNatClampNeg) &&& 1) = 1 then (lt (sZ S2 1 true) fun S14 => (some (false, S14)))
    else (gd (ixo 1 2 = true) (lt ((S2.2.2 3 (1 : Int32).toNatClampNeg) : Int32) fun v2 => (bv (fX7_store (v2 - 4) (S2.1 1) 4 S2) fun S3 => (bv (fX7_store (v2 - 6) v1 2 S3) fun S4 => (lt ((v2 - 6) : Int32) fun v3 => (jn (fun (v4 : Int32) (S5 : St) => (gd (ixo 1 2 = true) (lt (sA S5 3 (1 : Int32).toNatClampNeg v4) fun S6 => (bd (fX7_fetch (4 * x1) 4 S6) fun r1 S7 => (lt (sI S7 1 r1) fun S8 => (gd (ixo x1 64 = true) (gd (ixo x1 64 = true) (lt (sA S8 4 x1.toNatClampNeg ((S8.2.2 4 x1.toNatClampNeg) + 1)) fun S9 => (lt (sI S9 4 ((S9.1 4) + 1)) fun S10 => (some (true, S10))))))))))) fun K1 =>
    (if (zI z2) = 0 then (K1 v3 S4)
    else (bv (fX7_store (v3 - 2) (S4.1 5) 2 S4) fun S11 => (bv (fX7_store (v3 - 6) x3 4 S11) fun S12 => (bv (fX7_store (v3 - 8) 0 2 S12) fun S13 => (lt ((v3 - 8) : Int32) fun v5 => (K1 v5 S13)))))))))))))))))
abbrev rmX7_exception : Room := { frames := 2, cells := 0, slots := 0, locals := 46 }
set_option maxRecDepth 100000 in
set_option maxHeartbeats 4000000 in
theorem mX7_exception (l : Launch) (D : va_G) (ad : Nat → Nat) (cI cB : ClassId) (en : Nat → Nat) (S : St) (x1 : Int32) (z2 : Bool) (x3 : Int32) (ro : Bool) (So : St) (hs : fX7_exception x1 z2 x3 S = some (ro, So)) : uM l yX7_exception (wg yX7_exception cX7_exception 6 (some .boolean)) rmX7_exception (KM D ad cI cB en) D (wM ad cI cB) (AX 11 ad) [.ref (ad 0), .int x1, .int (zI z2), .int x3] S (some (.int (zI ro)), So) := by
  refine uM_start (by decide) rfl ?_
  intro p e s m below meth c hx hb hr hlocks hml hown hts hK hP
  have hT : ∀ w ∈ wG, w.before _ s = true := fun w h => hts w (List.mem_cons_of_mem _ h)
  have hS : va_S (AX 11 ad s.heap.size) s.heap s.heap [] := va_S.rf
  have hown : s.vm.findClass RX7 = some m.cls := hown
  have C : CallFix p m c cX7_exception 6 s _ wG RX7 := ⟨hx, hb, hml, hown, hT⟩
  have hl := lv_entry ([.ref (ad 0), .int x1, .int (zI z2), .int x3]) (n := 6) (Nat.le_of_ble_eq_true rfl)
  rw [lg_entry_eq]
  generalize (lg_sl ([.ref (ad 0), .int x1, .int (zI z2), .int x3]) ++ List.replicate (6 - (lg_sl ([.ref (ad 0), .int x1, .int (zI z2), .int x3])).length) Slot.unset).toArray = ls at hl ⊢
  have hl : lv_has ls 6 [(0, .ref (ad 0)), (1, .int x1), (2, .int (zI z2)), (3, .int x3)] := hl
  unfold fX7_exception at hs
  refine lv_aload_n hx hb dX7_exception_0 rfl (lv_at hl 0 rfl) ?_
  refine gM_X7_sr hx hb hT hown hK hP (hT _ tF_X7_50) dX7_exception_1 ?_
  obtain ⟨v1, h1, hs⟩ := lt_e hs
  refine u_top h1 ?_
  refine lv_istore (lv' := [(4, .int v1), (0, .ref (ad 0)), (1, .int x1), (2, .int (zI z2)), (3, .int x3)]) hx hb dX7_exception_4 hl (by decide) rfl (fun ls hl => ?_)
  refine lv_aload_n hx hb dX7_exception_6 rfl (lv_at hl 1 rfl) ?_
  refine lv_sipush (v := 8192) hx hb dX7_exception_7 (by decide) ?_
  refine lv_iconst (v := 1) hx hb dX7_exception_10 (by decide) ?_
  obtain ⟨S1, h2, hs⟩ := bv_e hs
  refine kX7_flag C tM_X7_160 ⟨Nat.le_of_ble_eq_true rfl, Nat.le_of_ble_eq_true rfl⟩ ⟨Nat.le_of_ble_eq_true rfl, Nat.le_of_ble_eq_true rfl⟩ hK hP hS hl.1 (rest := []) (Nat.le_of_ble_eq_true rfl) dX7_exception_11 h2 (fun H locs hP hS => ?_)
  refine lv_aload_n hx hb dX7_exception_14 rfl (lv_at hl 1 rfl) ?_
  refine lv_ldc (v := 32768) hx hb hown (hT _ tC_X7_128) dX7_exception_15 ?_
  refine lv_iconst (v := 0) hx hb dX7_exception_17 (by decide) ?_
  obtain ⟨S2, h3, hs⟩ := bv_e hs
  refine kX7_flag C tM_X7_160 ⟨Nat.le_of_ble_eq_true rfl, Nat.le_of_ble_eq_true rfl⟩ ⟨Nat.le_of_ble_eq_true rfl, Nat.le_of_ble_eq_true rfl⟩ hK hP hS hl.1 (rest := []) (Nat.le_of_ble_eq_true rfl) dX7_exception_18 h3 (fun H locs hP hS => ?_)
  refine lv_aload_n hx hb dX7_exception_21 rfl (lv_at hl 1 rfl) ?_
  refine gM_X7_stack hx hb hT hown hK hP (hT _ tF_X7_19) dX7_exception_22 ?_
  refine lv_iconst (v := 1) hx hb dX7_exception_25 (by decide) ?_
  obtain ⟨h4, hs⟩ := gd_e hs
  refine lM_stack hx hb hK hP (ixo_in h4) dX7_exception_26 ?_
  refine lv_iconst (v := 1) hx hb dX7_exception_27 (by decide) ?_
  refine lv_iand hx hb dX7_exception_28 ?_
  refine lv_iconst (v := 1) hx hb dX7_exception_29 (by decide) ?_
  refine lv_icmp_ne (tgt := 40) hx hb dX7_exception_30 (by decide) (fun c1 => ?_) (fun c1 => ?_)
  · have hs := if_f c1 hs
    refine lv_aload_n hx hb dX7_exception_40 rfl (lv_at hl 1 rfl) ?_
    refine gM_X7_stack hx hb hT hown hK hP (hT _ tF_X7_19) dX7_exception_41 ?_
    refine lv_iconst (v := 1) hx hb dX7_exception_44 (by decide) ?_
    obtain ⟨h5, hs⟩ := gd_e hs
    refine lM_stack hx hb hK hP (ixo_in h5) dX7_exception_45 ?_
    obtain ⟨v2, h6, hs⟩ := lt_e hs
    refine u_top h6 ?_
    refine lv_istore (lv' := [(5, .int v2), (4, .int v1), (0, .ref (ad 0)), (1, .int x1), (2, .int (zI z2)), (3, .int x3)]) hx hb dX7_exception_46 hl (by decide) rfl (fun ls hl => ?_)
    refine lv_aload_n hx hb dX7_exception_48 rfl (lv_at hl 2 rfl) ?_
    refine lv_iload hx hb dX7_exception_49 (lv_at hl 0 rfl) ?_
    refine lv_iconst (v := 4) hx hb dX7_exception_51 (by decide) ?_
    refine lv_isub hx hb dX7_exception_52 ?_
    refine lv_aload_n hx hb dX7_exception_53 rfl (lv_at hl 2 rfl) ?_
    refine gM_X7_pc hx hb hT hown hK hP (hT _ tF_X7_47) dX7_exception_54 ?_
    refine lv_iconst (v := 4) hx hb dX7_exception_57 (by decide) ?_
    obtain ⟨S3, h7, hs⟩ := bv_e hs
    refine kX7_store C tM_X7_92 ⟨Nat.le_of_ble_eq_true rfl, Nat.le_of_ble_eq_true rfl⟩ ⟨Nat.le_of_ble_eq_true rfl, Nat.le_of_ble_eq_true rfl⟩ hK hP hS hl.1 (rest := []) (Nat.le_of_ble_eq_true rfl) dX7_exception_58 h7 (fun H locs hP hS => ?_)
    refine lv_aload_n hx hb dX7_exception_61 rfl (lv_at hl 2 rfl) ?_
    refine lv_iload hx hb dX7_exception_62 (lv_at hl 0 rfl) ?_
    refine lv_bipush (v := 6) hx hb dX7_exception_64 (by decide) ?_
    refine lv_isub hx hb dX7_exception_66 ?_
    refine lv_iload hx hb dX7_exception_67 (lv_at hl 1 rfl) ?_
    refine lv_iconst (v := 2) hx hb dX7_exception_69 (by decide) ?_
    obtain ⟨S4, h8, hs⟩ := bv_e hs
    refine kX7_store C tM_X7_92 ⟨Nat.le_of_ble_eq_true rfl, Nat.le_of_ble_eq_true rfl⟩ ⟨Nat.le_of_ble_eq_true rfl, Nat.le_of_ble_eq_true rfl⟩ hK hP hS hl.1 (rest := []) (Nat.le_of_ble_eq_true rfl) dX7_exception_70 h8 (fun H locs hP hS => ?_)
    refine lv_iload hx hb dX7_exception_73 (lv_at hl 0 rfl) ?_
    refine lv_bipush (v := 6) hx hb dX7_exception_75 (by decide) ?_
    refine lv_isub hx hb dX7_exception_77 ?_
    obtain ⟨v3, h9, hs⟩ := lt_e hs
    refine u_top h9 ?_
    refine lv_istore (lv' := [(5, .int v3), (4, .int v1), (0, .ref (ad 0)), (1, .int x1), (2, .int (zI z2)), (3, .int x3)]) hx hb dX7_exception_78 hl (by decide) rfl (fun ls hl => ?_)
    refine lv_iload_n hx hb dX7_exception_80 rfl (lv_at hl 4 rfl) ?_
    refine jn_e hs (fun K1 => ∀ (v4 : Int32) (S5 : St) (H : Heap) (locs : List Loc) (ls : Array Slot), lv_has ls 6 [(5, .int v4), (0, .ref (ad 0)), (1, .int x1)] → va_P D vwCl (wM ad cI cB S5) H → va_S (AX 11 ad s.heap.size) s.heap H locs → K1 v4 S5 = some (ro, So) → W p l e rmX7_exception s m ([.ref (ad 0), .int x1, .int (zI z2), .int x3] : List Value).toArray below meth c H locs 0 0 (MQ below (uQ D (wM ad cI cB) (some (.int (zI ro)), So) (AX 11 ad s.heap.size)) ([.ref (ad 0), .int x1, .int (zI z2), .int x3] : List Value).toArray s 0 0 (AX 11 ad s.heap.size)) (F0 m 126 ls [])) ?_ (fun K1 J1 hs => ?_)
    · intro v4 S5 H locs ls hl hP hS hs
      refine lv_aload_n hx hb dX7_exception_126 rfl (lv_at hl 1 rfl) ?_
      refine gM_X7_stack hx hb hT hown hK hP (hT _ tF_X7_19) dX7_exception_127 ?_
      refine lv_iconst (v := 1) hx hb dX7_exception_130 (by decide) ?_
      refine lv_iload hx hb dX7_exception_131 (lv_at hl 0 rfl) ?_
      obtain ⟨h10, hs⟩ := gd_e hs
      obtain ⟨S6, h11, hs⟩ := lt_e hs
      refine sM_stack hx hb hK hP hS (v := v4) (ixo_in h10) dX7_exception_133 h11 (fun H locs hP hS => ?_)
      refine lv_aload_n hx hb dX7_exception_134 rfl (lv_at hl 1 rfl) ?_
      refine lv_aload_n hx hb dX7_exception_135 rfl (lv_at hl 1 rfl) ?_
      refine lv_iconst (v := 4) hx hb dX7_exception_136 (by decide) ?_
      refine lv_iload_n hx hb dX7_exception_137 rfl (lv_at hl 2 rfl) ?_
      refine lv_imul hx hb dX7_exception_138 ?_
      refine lv_iconst (v := 4) hx hb dX7_exception_139 (by decide) ?_
      obtain ⟨r1, S7, h12, hs⟩ := bd_e hs
      refine kX7_fetch C tM_X7_96 ⟨Nat.le_of_ble_eq_true rfl, Nat.le_of_ble_eq_true rfl⟩ ⟨Nat.le_of_ble_eq_true rfl, Nat.le_of_ble_eq_true rfl⟩ hK hP hS hl.1 (rest := [.ref (ad 0)]) (Nat.le_of_ble_eq_true rfl) dX7_exception_140 h12 (fun H locs hP hS => ?_)
      obtain ⟨S8, h13, hs⟩ := lt_e hs
      refine pM_X7_pc hx hb hT hown hK hP hS (hT _ tF_X7_47) dX7_exception_143 (v := r1) h13 (fun H locs hP hS => ?_)
      refine lv_aload_n hx hb dX7_exception_146 rfl (lv_at hl 1 rfl) ?_
      refine gM_X7_counts hx hb hT hown hK hP (hT _ tF_X7_22) dX7_exception_147 ?_
      refine lv_iload_n hx hb dX7_exception_150 rfl (lv_at hl 2 rfl) ?_
      refine lv_dup2_11 hx hb dX7_exception_151 rfl rfl ?_
      obtain ⟨h14, hs⟩ := gd_e hs
      refine lM_counts hx hb hK hP (ixo_in h14) dX7_exception_152 ?_
      refine lv_iconst (v := 1) hx hb dX7_exception_153 (by decide) ?_
      refine lv_iadd hx hb dX7_exception_154 ?_
      obtain ⟨h15, hs⟩ := gd_e hs
      obtain ⟨S9, h16, hs⟩ := lt_e hs
      refine sM_counts hx hb hK hP hS (v := ((S8.2.2 4 x1.toNatClampNeg) + 1)) (ixo_in h15) dX7_exception_155 h16 (fun H locs hP hS => ?_)
      refine lv_aload_n hx hb dX7_exception_156 rfl (lv_at hl 1 rfl) ?_
      refine lv_dup hx hb dX7_exception_157 rfl ?_
      refine gM_X7_all hx hb hT hown hK hP (hT _ tF_X7_63) dX7_exception_158 ?_
      refine lv_iconst (v := 1) hx hb dX7_exception_161 (by decide) ?_
      refine lv_iadd hx hb dX7_exception_162 ?_
      obtain ⟨S10, h17, hs⟩ := lt_e hs
      refine pM_X7_all hx hb hT hown hK hP hS (hT _ tF_X7_63) dX7_exception_163 (v := ((S9.1 4) + 1)) h17 (fun H locs hP hS => ?_)
      refine lv_iconst (v := 1) hx hb dX7_exception_166 (by decide) ?_
      exact u_zret (v := true) hx hb hr hlocks hP hS hs dX7_exception_167
    ·
      refine lv_if_eq (tgt := 126) hx hb dX7_exception_81 (by decide) (fun c2 => ?_) (fun c2 => ?_)
      · have hs := if_t c2 hs
        exact J1 v3 S4 _ _ _ (lv_sub hl [0, 2, 3] rfl) hP hS hs
      · have hs := if_f c2 hs
        refine lv_aload_n hx hb dX7_exception_84 rfl (lv_at hl 2 rfl) ?_
        refine lv_iload hx hb dX7_exception_85 (lv_at hl 0 rfl) ?_
        refine lv_iconst (v := 2) hx hb dX7_exception_87 (by decide) ?_
        refine lv_isub hx hb dX7_exception_88 ?_
        refine lv_aload_n hx hb dX7_exception_89 rfl (lv_at hl 2 rfl) ?_
        refine gM_X7_op hx hb hT hown hK hP (hT _ tF_X7_174) dX7_exception_90 ?_
        refine lv_iconst (v := 2) hx hb dX7_exception_93 (by decide) ?_
        obtain ⟨S11, h18, hs⟩ := bv_e hs
        refine kX7_store C tM_X7_92 ⟨Nat.le_of_ble_eq_true rfl, Nat.le_of_ble_eq_true rfl⟩ ⟨Nat.le_of_ble_eq_true rfl, Nat.le_of_ble_eq_true rfl⟩ hK hP hS hl.1 (rest := []) (Nat.le_of_ble_eq_true rfl) dX7_exception_94 h18 (fun H locs hP hS => ?_)
        refine lv_aload_n hx hb dX7_exception_97 rfl (lv_at hl 2 rfl) ?_
        refine lv_iload hx hb dX7_exception_98 (lv_at hl 0 rfl) ?_
        refine lv_bipush (v := 6) hx hb dX7_exception_100 (by decide) ?_
        refine lv_isub hx hb dX7_exception_102 ?_
        refine lv_iload_n hx hb dX7_exception_103 rfl (lv_at hl 5 rfl) ?_
        refine lv_iconst (v := 4) hx hb dX7_exception_104 (by decide) ?_
        obtain ⟨S12, h19, hs⟩ := bv_e hs
        refine kX7_store C tM_X7_92 ⟨Nat.le_of_ble_eq_true rfl, Nat.le_of_ble_eq_true rfl⟩ ⟨Nat.le_of_ble_eq_true rfl, Nat.le_of_ble_eq_true rfl⟩ hK hP hS hl.1 (rest := []) (Nat.le_of_ble_eq_true rfl) dX7_exception_105 h19 (fun H locs hP hS => ?_)
        refine lv_aload_n hx hb dX7_exception_108 rfl (lv_at hl 2 rfl) ?_
        refine lv_iload hx hb dX7_exception_109 (lv_at hl 0 rfl) ?_
        refine lv_bipush (v := 8) hx hb dX7_exception_111 (by decide) ?_
        refine lv_isub hx hb dX7_exception_113 ?_
        refine lv_iconst (v := 0) hx hb dX7_exception_114 (by decide) ?_
        refine lv_iconst (v := 2) hx hb dX7_exception_115 (by decide) ?_
        obtain ⟨S13, h20, hs⟩ := bv_e hs
        refine kX7_store C tM_X7_92 ⟨Nat.le_of_ble_eq_true rfl, Nat.le_of_ble_eq_true rfl⟩ ⟨Nat.le_of_ble_eq_true rfl, Nat.le_of_ble_eq_true rfl⟩ hK hP hS hl.1 (rest := []) (Nat.le_of_ble_eq_true rfl) dX7_exception_116 h20 (fun H locs hP hS => ?_)
        refine lv_iload hx hb dX7_exception_119 (lv_at hl 0 rfl) ?_
        refine lv_bipush (v := 8) hx hb dX7_exception_121 (by decide) ?_
        refine lv_isub hx hb dX7_exception_123 ?_
        obtain ⟨v5, h21, hs⟩ := lt_e hs
        refine u_top h21 ?_
        refine lv_istore (lv' := [(5, .int v5), (4, .int v1), (0, .ref (ad 0)), (1, .int x1), (2, .int (zI z2)), (3, .int x3)]) hx hb dX7_exception_124 hl (by decide) rfl (fun ls hl => ?_)
        exact J1 v5 S13 _ _ _ (lv_sub hl [0, 2, 3] rfl) hP hS hs
  · have hs := if_t c1 hs
    refine lv_aload_n hx hb dX7_exception_33 rfl (lv_at hl 1 rfl) ?_
    refine lv_iconst (v := 1) hx hb dX7_exception_34 (by decide) ?_
    obtain ⟨S14, h22, hs⟩ := lt_e hs
    refine pM_X7_halted hx hb hT hown hK hP hS (hT _ tF_X7_57) dX7_exception_35 (v := true) h22 (fun H locs hP hS => ?_)
    refine lv_iconst (v := 0) hx hb dX7_exception_38 (by decide) ?_
    exact u_zret (v := false) hx hb hr hlocks hP hS hs dX7_exception_39
theorem kX7_exception {p : Program} {l : Launch} {e : Env} {R : Room} {s : State} {m : MethodId} {args : Array Value} {below : List Frame} {meth : Method} {c : Code} {H : Heap} {locs : List Loc} {cells slots : Nat} {Q : State → Prop} {cc : ByteArray} {pc nL : Nat} {ls : Array Slot} {rest : List Value} {D : va_G} {ad : Nat → Nat} {cI cB : ClassId} {en : Nat → Nat} {S : St} {own : String} {index : Nat} {x1 : Int32} {z2 : Bool} {x3 : Int32} {ro : Bool} {So : St} (C : CallFix p m c cc nL s args wG own) (hlk : Cond.methodLink own index yX7_exception ∈ wG) (hR : rmX7_exception.frames + 1 ≤ R.frames ∧ 8 + (6 + 11) + rmX7_exception.locals ≤ R.locals) (hc : cells ≤ R.cells ∧ slots ≤ R.slots) (hK : KM D ad cI cB en s) (hP : va_P D vwCl (wM ad cI cB S) H) (hS : va_S (AX 11 ad s.heap.size) s.heap H locs) (hls : ls.size = nL) (hrest : (rest.map fun v => v.category).sum ≤ 8) (hd : decode cc pc = .ok (.invokevirtual index, 3)) (hs : fX7_exception x1 z2 x3 S = some (ro, So)) (k : ∀ (H : Heap) (locs : List Loc), va_P D vwCl (wM ad cI cB So) H → va_S (AX 11 ad s.heap.size) s.heap H locs → W p l e R s m args below meth c H locs cells slots Q (F0 m (pc + 3) ls (.int (zI ro) :: rest))) : W p l e R s m args below meth c H locs cells slots Q (F0 m pc ls (.int x3 :: .int (zI z2) :: .int x1 :: .ref (ad 0) :: rest)) :=
  u_callV (n := 3) (mX7_exception l D ad cI cB en S x1 z2 x3 ro So hs) C uK_M (wg_V hlk tI_X7_exception tS_X7_exception tN_X7 tK_X7_exception) rfl rfl rfl (by decide +kernel) hR rfl (va_recv hK.1 hP (ci := 6) (q0 := 0) rfl rfl) hK hP hS hls hrest hd hc rfl k
def fX7_remember_b2  (k2 : Int32 → St → Option St) (v2 : Int32) (S2 : St) : Option St :=
    (if 7 ≤ v2 then (gd (ixo 0 2 = true) (gd (ixo 0 2 = true) (lt (sA S2 7 (0 : Int32).toNatClampNeg (S2.2.2 3 (0 : Int32).toNatClampNeg)) fun S3 => (gd (ixo 1 2 = true) (gd (ixo 1 2 = true) (lt (sA S3 7 (1 : Int32).toNatClampNeg (S3.2.2 3 (1 : Int32).toNatClampNeg)) fun S4 => (lt (sI S4 9 (S4.1 1)) fun S5 => (lt (sI S5 10 (S5.1 2)) fun S6 => (lt (sI S6 11 0) fun S7 => (some S7))))))))))
    else (gd (ixo v2 7 = true) (gd (ixo v2 7 = true) (lt (sA S2 6 v2.toNatClampNeg (S2.2.2 2 v2.toNatClampNeg)) fun S8 => (lt (v2 + 1) fun v3 => (k2 v3 S8))))))
def fX7_remember_l2  : Nat → Int32 → St → Option St
  | 0 => fun _ _ => none
  | n + 1 => fX7_remember_b2  (fX7_remember_l2  n)
def fX7_remember_b1  (k1 : Int32 → St → Option St) (v1 : Int32) (S1 : St) : Option St :=
    (if 8 ≤ v1 then (fX7_remember_l2  9 0 S1)
    else (gd (ixo v1 8 = true) (gd (ixo v1 8 = true) (lt (sA S1 5 v1.toNatClampNeg (S1.2.2 1 v1.toNatClampNeg)) fun S9 => (lt (v1 + 1) fun v4 => (k1 v4 S9))))))
def fX7_remember_l1  : Nat → Int32 → St → Option St
  | 0 => fun _ _ => none
  | n + 1 => fX7_remember_b1  (fX7_remember_l1  n)
def fX7_remember  (S : St) : Option St :=
    (fX7_remember_l1  9 0 S)
abbrev rmX7_remember : Room := { frames := 0, cells := 0, slots := 0, locals := 0 }
set_option maxRecDepth 100000 in
set_option maxHeartbeats 4000000 in
theorem mX7_remember (l : Launch) (D : va_G) (ad : Nat → Nat) (cI cB : ClassId) (en : Nat → Nat) (S : St)  (So : St) (hs : fX7_remember  S = some So) : uM l yX7_remember (wg yX7_remember cX7_remember 2 none) rmX7_remember (KM D ad cI cB en) D (wM ad cI cB) (AX 11 ad) [.ref (ad 0)] S (none, So) := by
  refine uM_start (by decide) rfl ?_
  intro p e s m below meth c hx hb hr hlocks hml hown hts hK hP
  have hT : ∀ w ∈ wG, w.before _ s = true := fun w h => hts w (List.mem_cons_of_mem _ h)
  have hS : va_S (AX 11 ad s.heap.size) s.heap s.heap [] := va_S.rf
  have hown : s.vm.findClass RX7 = some m.cls := hown
  have C : CallFix p m c cX7_remember 2 s _ wG RX7 := ⟨hx, hb, hml, hown, hT⟩
  have hl := lv_entry ([.ref (ad 0)]) (n := 2) (Nat.le_of_ble_eq_true rfl)
  rw [lg_entry_eq]
  generalize (lg_sl ([.ref (ad 0)]) ++ List.replicate (2 - (lg_sl ([.ref (ad 0)])).length) Slot.unset).toArray = ls at hl ⊢
  have hl : lv_has ls 2 [(0, .ref (ad 0))] := hl
  unfold fX7_remember at hs
  refine lv_iconst (v := 0) hx hb dX7_remember_0 (by decide) ?_
  refine lv_istore_n (lv' := [(1, .int 0), (0, .ref (ad 0))]) hx hb dX7_remember_1 rfl hl (by decide) rfl (fun ls hl => ?_)
  have L2 : ∀ (n : Nat) (v1 : Int32) (S1 : St) (H : Heap) (locs : List Loc) (ls : Array Slot), lv_has ls 2 [(1, .int v1), (0, .ref (ad 0))] → va_P D vwCl (wM ad cI cB S1) H → va_S (AX 11 ad s.heap.size) s.heap H locs → fX7_remember_l1  n v1 S1 = some So → W p l e rmX7_remember s m ([.ref (ad 0)] : List Value).toArray below meth c H locs 0 0 (MQ below (uQ D (wM ad cI cB) (none, So) (AX 11 ad s.heap.size)) ([.ref (ad 0)] : List Value).toArray s 0 0 (AX 11 ad s.heap.size)) (F0 m 2 ls []) := by
    intro n
    induction n with
    | zero => intro v1 S1 H locs ls hl hP hS hs; cases hs
    | succ n ih =>
      intro v1 S1 H locs ls hl hP hS hs
      have hs : fX7_remember_b1  (fX7_remember_l1  n) v1 S1 = some So := hs
      unfold fX7_remember_b1 at hs
      refine lv_iload_n hx hb dX7_remember_2 rfl (lv_at hl 0 rfl) ?_
      refine lv_bipush (v := 8) hx hb dX7_remember_3 (by decide) ?_
      refine lv_icmp_ge (tgt := 26) hx hb dX7_remember_5 (by decide) (fun c1 => ?_) (fun c1 => ?_)
      · have hs := if_t c1 hs
        refine lv_iconst (v := 0) hx hb dX7_remember_26 (by decide) ?_
        refine lv_istore_n (lv' := [(1, .int 0), (0, .ref (ad 0))]) hx hb dX7_remember_27 rfl hl (by decide) rfl (fun ls hl => ?_)
        have L1 : ∀ (n : Nat) (v2 : Int32) (S2 : St) (H : Heap) (locs : List Loc) (ls : Array Slot), lv_has ls 2 [(1, .int v2), (0, .ref (ad 0))] → va_P D vwCl (wM ad cI cB S2) H → va_S (AX 11 ad s.heap.size) s.heap H locs → fX7_remember_l2  n v2 S2 = some So → W p l e rmX7_remember s m ([.ref (ad 0)] : List Value).toArray below meth c H locs 0 0 (MQ below (uQ D (wM ad cI cB) (none, So) (AX 11 ad s.heap.size)) ([.ref (ad 0)] : List Value).toArray s 0 0 (AX 11 ad s.heap.size)) (F0 m 28 ls []) := by
          intro n
          induction n with
          | zero => intro v2 S2 H locs ls hl hP hS hs; cases hs
          | succ n ih =>
            intro v2 S2 H locs ls hl hP hS hs
            have hs : fX7_remember_b2  (fX7_remember_l2  n) v2 S2 = some So := hs
            unfold fX7_remember_b2 at hs
            refine lv_iload_n hx hb dX7_remember_28 rfl (lv_at hl 0 rfl) ?_
            refine lv_bipush (v := 7) hx hb dX7_remember_29 (by decide) ?_
            refine lv_icmp_ge (tgt := 52) hx hb dX7_remember_31 (by decide) (fun c2 => ?_) (fun c2 => ?_)
            · have hs := if_t c2 hs
              refine lv_aload_n hx hb dX7_remember_52 rfl (lv_at hl 1 rfl) ?_
              refine gM_X7_wasStack hx hb hT hown hK hP (hT _ tF_X7_31) dX7_remember_53 ?_
              refine lv_iconst (v := 0) hx hb dX7_remember_56 (by decide) ?_
              refine lv_aload_n hx hb dX7_remember_57 rfl (lv_at hl 1 rfl) ?_
              refine gM_X7_stack hx hb hT hown hK hP (hT _ tF_X7_19) dX7_remember_58 ?_
              refine lv_iconst (v := 0) hx hb dX7_remember_61 (by decide) ?_
              obtain ⟨h1, hs⟩ := gd_e hs
              refine lM_stack hx hb hK hP (ixo_in h1) dX7_remember_62 ?_
              obtain ⟨h2, hs⟩ := gd_e hs
              obtain ⟨S3, h3, hs⟩ := lt_e hs
              refine sM_wasStack hx hb hK hP hS (v := (S2.2.2 3 (0 : Int32).toNatClampNeg)) (ixo_in h2) dX7_remember_63 h3 (fun H locs hP hS => ?_)
              refine lv_aload_n hx hb dX7_remember_64 rfl (lv_at hl 1 rfl) ?_
              refine gM_X7_wasStack hx hb hT hown hK hP (hT _ tF_X7_31) dX7_remember_65 ?_
              refine lv_iconst (v := 1) hx hb dX7_remember_68 (by decide) ?_
              refine lv_aload_n hx hb dX7_remember_69 rfl (lv_at hl 1 rfl) ?_
              refine gM_X7_stack hx hb hT hown hK hP (hT _ tF_X7_19) dX7_remember_70 ?_
              refine lv_iconst (v := 1) hx hb dX7_remember_73 (by decide) ?_
              obtain ⟨h4, hs⟩ := gd_e hs
              refine lM_stack hx hb hK hP (ixo_in h4) dX7_remember_74 ?_
              obtain ⟨h5, hs⟩ := gd_e hs
              obtain ⟨S4, h6, hs⟩ := lt_e hs
              refine sM_wasStack hx hb hK hP hS (v := (S3.2.2 3 (1 : Int32).toNatClampNeg)) (ixo_in h5) dX7_remember_75 h6 (fun H locs hP hS => ?_)
              refine lv_aload_n hx hb dX7_remember_76 rfl (lv_at hl 1 rfl) ?_
              refine lv_aload_n hx hb dX7_remember_77 rfl (lv_at hl 1 rfl) ?_
              refine gM_X7_pc hx hb hT hown hK hP (hT _ tF_X7_47) dX7_remember_78 ?_
              obtain ⟨S5, h7, hs⟩ := lt_e hs
              refine pM_X7_wasPc hx hb hT hown hK hP hS (hT _ tF_X7_328) dX7_remember_81 (v := (S4.1 1)) h7 (fun H locs hP hS => ?_)
              refine lv_aload_n hx hb dX7_remember_84 rfl (lv_at hl 1 rfl) ?_
              refine lv_aload_n hx hb dX7_remember_85 rfl (lv_at hl 1 rfl) ?_
              refine gM_X7_sr hx hb hT hown hK hP (hT _ tF_X7_50) dX7_remember_86 ?_
              obtain ⟨S6, h8, hs⟩ := lt_e hs
              refine pM_X7_wasSr hx hb hT hown hK hP hS (hT _ tF_X7_331) dX7_remember_89 (v := (S5.1 2)) h8 (fun H locs hP hS => ?_)
              refine lv_aload_n hx hb dX7_remember_92 rfl (lv_at hl 1 rfl) ?_
              refine lv_iconst (v := 0) hx hb dX7_remember_93 (by decide) ?_
              obtain ⟨S7, h9, hs⟩ := lt_e hs
              refine pM_X7_changes hx hb hT hown hK hP hS (hT _ tF_X7_79) dX7_remember_94 (v := 0) h9 (fun H locs hP hS => ?_)
              exact u_vret hx hb hr hlocks hP hS hs dX7_remember_97
            · have hs := if_f c2 hs
              refine lv_aload_n hx hb dX7_remember_34 rfl (lv_at hl 1 rfl) ?_
              refine gM_X7_wasA hx hb hT hown hK hP (hT _ tF_X7_28) dX7_remember_35 ?_
              refine lv_iload_n hx hb dX7_remember_38 rfl (lv_at hl 0 rfl) ?_
              refine lv_aload_n hx hb dX7_remember_39 rfl (lv_at hl 1 rfl) ?_
              refine gM_X7_a hx hb hT hown hK hP (hT _ tF_X7_16) dX7_remember_40 ?_
              refine lv_iload_n hx hb dX7_remember_43 rfl (lv_at hl 0 rfl) ?_
              obtain ⟨h10, hs⟩ := gd_e hs
              refine lM_a hx hb hK hP (ixo_in h10) dX7_remember_44 ?_
              obtain ⟨h11, hs⟩ := gd_e hs
              obtain ⟨S8, h12, hs⟩ := lt_e hs
              refine sM_wasA hx hb hK hP hS (v := (S2.2.2 2 v2.toNatClampNeg)) (ixo_in h11) dX7_remember_45 h12 (fun H locs hP hS => ?_)
              obtain ⟨v3, h13, hs⟩ := lt_e hs
              refine lv_iinc (v := v3) (lv' := [(1, .int v3), (0, .ref (ad 0))]) hx hb dX7_remember_46 hl (k := 0) rfl (by rw [h13]; rfl) (by decide) rfl (fun ls hl => ?_)
              refine lv_goto (tgt := 28) hx hb dX7_remember_49 (by decide) ?_
              exact ih v3 S8 _ _ _ (lv_sub hl [0, 1] rfl) hP hS hs
        exact L1 9 0 S1 _ _ _ (lv_sub hl [0, 1] rfl) hP hS hs
      · have hs := if_f c1 hs
        refine lv_aload_n hx hb dX7_remember_8 rfl (lv_at hl 1 rfl) ?_
        refine gM_X7_wasD hx hb hT hown hK hP (hT _ tF_X7_25) dX7_remember_9 ?_
        refine lv_iload_n hx hb dX7_remember_12 rfl (lv_at hl 0 rfl) ?_
        refine lv_aload_n hx hb dX7_remember_13 rfl (lv_at hl 1 rfl) ?_
        refine gM_X7_d hx hb hT hown hK hP (hT _ tF_X7_13) dX7_remember_14 ?_
        refine lv_iload_n hx hb dX7_remember_17 rfl (lv_at hl 0 rfl) ?_
        obtain ⟨h14, hs⟩ := gd_e hs
        refine lM_d hx hb hK hP (ixo_in h14) dX7_remember_18 ?_
        obtain ⟨h15, hs⟩ := gd_e hs
        obtain ⟨S9, h16, hs⟩ := lt_e hs
        refine sM_wasD hx hb hK hP hS (v := (S1.2.2 1 v1.toNatClampNeg)) (ixo_in h15) dX7_remember_19 h16 (fun H locs hP hS => ?_)
        obtain ⟨v4, h17, hs⟩ := lt_e hs
        refine lv_iinc (v := v4) (lv' := [(1, .int v4), (0, .ref (ad 0))]) hx hb dX7_remember_20 hl (k := 0) rfl (by rw [h17]; rfl) (by decide) rfl (fun ls hl => ?_)
        refine lv_goto (tgt := 2) hx hb dX7_remember_23 (by decide) ?_
        exact ih v4 S9 _ _ _ (lv_sub hl [0, 1] rfl) hP hS hs
  exact L2 9 0 S _ _ _ (lv_sub hl [0, 1] rfl) hP hS hs
theorem kX7_remember {p : Program} {l : Launch} {e : Env} {R : Room} {s : State} {m : MethodId} {args : Array Value} {below : List Frame} {meth : Method} {c : Code} {H : Heap} {locs : List Loc} {cells slots : Nat} {Q : State → Prop} {cc : ByteArray} {pc nL : Nat} {ls : Array Slot} {rest : List Value} {D : va_G} {ad : Nat → Nat} {cI cB : ClassId} {en : Nat → Nat} {S : St} {own : String} {index : Nat}  {So : St} (C : CallFix p m c cc nL s args wG own) (hlk : Cond.methodLink own index yX7_remember ∈ wG) (hR : rmX7_remember.frames + 1 ≤ R.frames ∧ 8 + (2 + 11) + rmX7_remember.locals ≤ R.locals) (hc : cells ≤ R.cells ∧ slots ≤ R.slots) (hK : KM D ad cI cB en s) (hP : va_P D vwCl (wM ad cI cB S) H) (hS : va_S (AX 11 ad s.heap.size) s.heap H locs) (hls : ls.size = nL) (hrest : (rest.map fun v => v.category).sum ≤ 8) (hd : decode cc pc = .ok (.invokevirtual index, 3)) (hs : fX7_remember  S = some So) (k : ∀ (H : Heap) (locs : List Loc), va_P D vwCl (wM ad cI cB So) H → va_S (AX 11 ad s.heap.size) s.heap H locs → W p l e R s m args below meth c H locs cells slots Q (F0 m (pc + 3) ls (rest))) : W p l e R s m args below meth c H locs cells slots Q (F0 m pc ls (.ref (ad 0) :: rest)) :=
  u_callV (n := 0) (mX7_remember l D ad cI cB en S  So hs) C uK_M (wg_V hlk tI_X7_remember tS_X7_remember tN_X7 tK_X7_remember) rfl rfl rfl (by decide +kernel) hR rfl (va_recv hK.1 hP (ci := 6) (q0 := 0) rfl rfl) hK hP hS hls hrest hd hc rfl k
