def fX7_group6  (S : St) : Option (Bool × St) :=
    (lt ((((S.1 5) >>> ((8 : Int32) &&& 31)) &&& 15) : Int32) fun v1 => (lt ((S.1 1) : Int32) fun v2 => (lt (((S.1 5).toInt8.toInt32) : Int32) fun v3 => (jn (fun (v4 : Int32) (S1 : St) => (jn (fun (S2 : St) => (if v1 < 2 then (lt (sI S2 1 (v2 + v4)) fun S3 => (some (true, S3)))
    else (bd (fX7_holds v1 S2) fun b1 S4 => (if (zI b1) = 0 then (some (true, S4))
    else (lt (sI S4 1 (v2 + v4)) fun S5 => (some (true, S5))))))) fun K2 =>
    (if v1 = 1 then (bv (fX7_push (S1.1 1) 4 S1) fun S6 => (K2 S6))
    else (K2 S1)))) fun K1 =>
    (if v3 = 0 then (bd (fX7_extension S) fun r1 S7 => (lt ((r1.toInt16.toInt32) : Int32) fun v5 => (K1 v5 S7)))
    else (K1 v3 S))))))
abbrev rmX7_group6 : Room := { frames := 4, cells := 0, slots := 0, locals := 91 }
set_option maxRecDepth 100000 in
set_option maxHeartbeats 4000000 in
theorem mX7_group6 (l : Launch) (D : va_G) (ad : Nat → Nat) (cI cB : ClassId) (en : Nat → Nat) (S : St)  (ro : Bool) (So : St) (hs : fX7_group6  S = some (ro, So)) : uM l yX7_group6 (wg yX7_group6 cX7_group6 4 (some .boolean)) rmX7_group6 (KM D ad cI cB en) D (wM ad cI cB) (AX 11 ad) [.ref (ad 0)] S (some (.int (zI ro)), So) := by
  refine uM_start (by decide) rfl ?_
  intro p e s m below meth c hx hb hr hlocks hml hown hts hK hP
  have hT : ∀ w ∈ wG, w.before _ s = true := fun w h => hts w (List.mem_cons_of_mem _ h)
  have hS : va_S (AX 11 ad s.heap.size) s.heap s.heap [] := va_S.rf
  have hown : s.vm.findClass RX7 = some m.cls := hown
  have C : CallFix p m c cX7_group6 4 s _ wG RX7 := ⟨hx, hb, hml, hown, hT⟩
  have hl := lv_entry ([.ref (ad 0)]) (n := 4) (Nat.le_of_ble_eq_true rfl)
  rw [lg_entry_eq]
  generalize (lg_sl ([.ref (ad 0)]) ++ List.replicate (4 - (lg_sl ([.ref (ad 0)])).length) Slot.unset).toArray = ls at hl ⊢
  have hl : lv_has ls 4 [(0, .ref (ad 0))] := hl
  unfold fX7_group6 at hs
  refine lv_aload_n hx hb dX7_group6_0 rfl (lv_at hl 0 rfl) ?_
  refine gM_X7_op hx hb hT hown hK hP (hT _ tF_X7_174) dX7_group6_1 ?_
  refine lv_bipush (v := 8) hx hb dX7_group6_4 (by decide) ?_
  refine lv_ishr hx hb dX7_group6_6 ?_
  refine lv_bipush (v := 15) hx hb dX7_group6_7 (by decide) ?_
  refine lv_iand hx hb dX7_group6_9 ?_
  obtain ⟨v1, h1, hs⟩ := lt_e hs
  refine u_top h1 ?_
  refine lv_istore_n (lv' := [(1, .int v1), (0, .ref (ad 0))]) hx hb dX7_group6_10 rfl hl (by decide) rfl (fun ls hl => ?_)
  refine lv_aload_n hx hb dX7_group6_11 rfl (lv_at hl 1 rfl) ?_
  refine gM_X7_pc hx hb hT hown hK hP (hT _ tF_X7_47) dX7_group6_12 ?_
  obtain ⟨v2, h2, hs⟩ := lt_e hs
  refine u_top h2 ?_
  refine lv_istore_n (lv' := [(2, .int v2), (1, .int v1), (0, .ref (ad 0))]) hx hb dX7_group6_15 rfl hl (by decide) rfl (fun ls hl => ?_)
  refine lv_aload_n hx hb dX7_group6_16 rfl (lv_at hl 2 rfl) ?_
  refine gM_X7_op hx hb hT hown hK hP (hT _ tF_X7_174) dX7_group6_17 ?_
  refine lv_i2b (v := ((S.1 5).toInt8.toInt32)) hx hb dX7_group6_20 rfl ?_
  obtain ⟨v3, h3, hs⟩ := lt_e hs
  refine u_top h3 ?_
  refine lv_istore_n (lv' := [(3, .int v3), (2, .int v2), (1, .int v1), (0, .ref (ad 0))]) hx hb dX7_group6_21 rfl hl (by decide) rfl (fun ls hl => ?_)
  refine lv_iload_n hx hb dX7_group6_22 rfl (lv_at hl 0 rfl) ?_
  refine jn_e hs (fun K1 => ∀ (v4 : Int32) (S1 : St) (H : Heap) (locs : List Loc) (ls : Array Slot), lv_has ls 4 [(3, .int v4), (2, .int v2), (1, .int v1), (0, .ref (ad 0))] → va_P D vwCl (wM ad cI cB S1) H → va_S (AX 11 ad s.heap.size) s.heap H locs → K1 v4 S1 = some (ro, So) → W p l e rmX7_group6 s m ([.ref (ad 0)] : List Value).toArray below meth c H locs 0 0 (MQ below (uQ D (wM ad cI cB) (some (.int (zI ro)), So) (AX 11 ad s.heap.size)) ([.ref (ad 0)] : List Value).toArray s 0 0 (AX 11 ad s.heap.size)) (F0 m 32 ls [])) ?_ (fun K1 J1 hs => ?_)
  · intro v4 S1 H locs ls hl hP hS hs
    refine lv_iload_n hx hb dX7_group6_32 rfl (lv_at hl 2 rfl) ?_
    refine lv_iconst (v := 1) hx hb dX7_group6_33 (by decide) ?_
    refine jn_e hs (fun K2 => ∀ (S2 : St) (H : Heap) (locs : List Loc) (ls : Array Slot), lv_has ls 4 [(3, .int v4), (2, .int v2), (1, .int v1), (0, .ref (ad 0))] → va_P D vwCl (wM ad cI cB S2) H → va_S (AX 11 ad s.heap.size) s.heap H locs → K2 S2 = some (ro, So) → W p l e rmX7_group6 s m ([.ref (ad 0)] : List Value).toArray below meth c H locs 0 0 (MQ below (uQ D (wM ad cI cB) (some (.int (zI ro)), So) (AX 11 ad s.heap.size)) ([.ref (ad 0)] : List Value).toArray s 0 0 (AX 11 ad s.heap.size)) (F0 m 46 ls [])) ?_ (fun K2 J2 hs => ?_)
    · intro S2 H locs ls hl hP hS hs
      refine lv_iload_n hx hb dX7_group6_46 rfl (lv_at hl 2 rfl) ?_
      refine lv_iconst (v := 2) hx hb dX7_group6_47 (by decide) ?_
      refine lv_icmp_lt (tgt := 59) hx hb dX7_group6_48 (by decide) (fun c1 => ?_) (fun c1 => ?_)
      · have hs := if_t c1 hs
        refine lv_aload_n hx hb dX7_group6_59 rfl (lv_at hl 3 rfl) ?_
        refine lv_iload_n hx hb dX7_group6_60 rfl (lv_at hl 1 rfl) ?_
        refine lv_iload_n hx hb dX7_group6_61 rfl (lv_at hl 0 rfl) ?_
        refine lv_iadd hx hb dX7_group6_62 ?_
        obtain ⟨S3, h4, hs⟩ := lt_e hs
        refine pM_X7_pc hx hb hT hown hK hP hS (hT _ tF_X7_47) dX7_group6_63 (v := (v2 + v4)) h4 (fun H locs hP hS => ?_)
        refine lv_iconst (v := 1) hx hb dX7_group6_66 (by decide) ?_
        exact u_zret (v := true) hx hb hr hlocks hP hS hs dX7_group6_67
      · have hs := if_f c1 hs
        refine lv_aload_n hx hb dX7_group6_51 rfl (lv_at hl 3 rfl) ?_
        refine lv_iload_n hx hb dX7_group6_52 rfl (lv_at hl 2 rfl) ?_
        obtain ⟨b1, S4, h5, hs⟩ := bd_e hs
        refine kX7_holds C tM_X7_269 ⟨Nat.le_of_ble_eq_true rfl, Nat.le_of_ble_eq_true rfl⟩ ⟨Nat.le_of_ble_eq_true rfl, Nat.le_of_ble_eq_true rfl⟩ hK hP hS hl.1 (rest := []) (Nat.le_of_ble_eq_true rfl) dX7_group6_53 h5 (fun H locs hP hS => ?_)
        refine lv_if_eq (tgt := 66) hx hb dX7_group6_56 (by decide) (fun c2 => ?_) (fun c2 => ?_)
        · have hs := if_t c2 hs
          refine lv_iconst (v := 1) hx hb dX7_group6_66 (by decide) ?_
          exact u_zret (v := true) hx hb hr hlocks hP hS hs dX7_group6_67
        · have hs := if_f c2 hs
          refine lv_aload_n hx hb dX7_group6_59 rfl (lv_at hl 3 rfl) ?_
          refine lv_iload_n hx hb dX7_group6_60 rfl (lv_at hl 1 rfl) ?_
          refine lv_iload_n hx hb dX7_group6_61 rfl (lv_at hl 0 rfl) ?_
          refine lv_iadd hx hb dX7_group6_62 ?_
          obtain ⟨S5, h6, hs⟩ := lt_e hs
          refine pM_X7_pc hx hb hT hown hK hP hS (hT _ tF_X7_47) dX7_group6_63 (v := (v2 + v4)) h6 (fun H locs hP hS => ?_)
          refine lv_iconst (v := 1) hx hb dX7_group6_66 (by decide) ?_
          exact u_zret (v := true) hx hb hr hlocks hP hS hs dX7_group6_67
    ·
      refine lv_icmp_ne (tgt := 46) hx hb dX7_group6_34 (by decide) (fun c3 => ?_) (fun c3 => ?_)
      · have hs := if_f c3 hs
        exact J2 S1 _ _ _ (lv_sub hl [0, 1, 2, 3] rfl) hP hS hs
      · have hs := if_t c3 hs
        refine lv_aload_n hx hb dX7_group6_37 rfl (lv_at hl 3 rfl) ?_
        refine lv_aload_n hx hb dX7_group6_38 rfl (lv_at hl 3 rfl) ?_
        refine gM_X7_pc hx hb hT hown hK hP (hT _ tF_X7_47) dX7_group6_39 ?_
        refine lv_iconst (v := 4) hx hb dX7_group6_42 (by decide) ?_
        obtain ⟨S6, h7, hs⟩ := bv_e hs
        refine kX7_push C tM_X7_230 ⟨Nat.le_of_ble_eq_true rfl, Nat.le_of_ble_eq_true rfl⟩ ⟨Nat.le_of_ble_eq_true rfl, Nat.le_of_ble_eq_true rfl⟩ hK hP hS hl.1 (rest := []) (Nat.le_of_ble_eq_true rfl) dX7_group6_43 h7 (fun H locs hP hS => ?_)
        exact J2 S6 _ _ _ (lv_sub hl [0, 1, 2, 3] rfl) hP hS hs
  ·
    refine lv_if_ne (tgt := 32) hx hb dX7_group6_23 (by decide) (fun c4 => ?_) (fun c4 => ?_)
    · have hs := if_f c4 hs
      exact J1 v3 S _ _ _ (lv_sub hl [0, 1, 2, 3] rfl) hP hS hs
    · have hs := if_t c4 hs
      refine lv_aload_n hx hb dX7_group6_26 rfl (lv_at hl 3 rfl) ?_
      obtain ⟨r1, S7, h8, hs⟩ := bd_e hs
      refine kX7_extension C tM_X7_125 ⟨Nat.le_of_ble_eq_true rfl, Nat.le_of_ble_eq_true rfl⟩ ⟨Nat.le_of_ble_eq_true rfl, Nat.le_of_ble_eq_true rfl⟩ hK hP hS hl.1 (rest := []) (Nat.le_of_ble_eq_true rfl) dX7_group6_27 h8 (fun H locs hP hS => ?_)
      refine lv_i2s (v := (r1.toInt16.toInt32)) hx hb dX7_group6_30 rfl ?_
      obtain ⟨v5, h9, hs⟩ := lt_e hs
      refine u_top h9 ?_
      refine lv_istore_n (lv' := [(3, .int v5), (2, .int v2), (1, .int v1), (0, .ref (ad 0))]) hx hb dX7_group6_31 rfl hl (by decide) rfl (fun ls hl => ?_)
      exact J1 v5 S7 _ _ _ (lv_sub hl [0, 1, 2, 3] rfl) hP hS hs
theorem kX7_group6 {p : Program} {l : Launch} {e : Env} {R : Room} {s : State} {m : MethodId} {args : Array Value} {below : List Frame} {meth : Method} {c : Code} {H : Heap} {locs : List Loc} {cells slots : Nat} {Q : State → Prop} {cc : ByteArray} {pc nL : Nat} {ls : Array Slot} {rest : List Value} {D : va_G} {ad : Nat → Nat} {cI cB : ClassId} {en : Nat → Nat} {S : St} {own : String} {index : Nat}  {ro : Bool} {So : St} (C : CallFix p m c cc nL s args wG own) (hlk : Cond.methodLink own index yX7_group6 ∈ wG) (hR : rmX7_group6.frames + 1 ≤ R.frames ∧ 8 + (4 + 11) + rmX7_group6.locals ≤ R.locals) (hc : cells ≤ R.cells ∧ slots ≤ R.slots) (hK : KM D ad cI cB en s) (hP : va_P D vwCl (wM ad cI cB S) H) (hS : va_S (AX 11 ad s.heap.size) s.heap H locs) (hls : ls.size = nL) (hrest : (rest.map fun v => v.category).sum ≤ 8) (hd : decode cc pc = .ok (.invokevirtual index, 3)) (hs : fX7_group6  S = some (ro, So)) (k : ∀ (H : Heap) (locs : List Loc), va_P D vwCl (wM ad cI cB So) H → va_S (AX 11 ad s.heap.size) s.heap H locs → W p l e R s m args below meth c H locs cells slots Q (F0 m (pc + 3) ls (.int (zI ro) :: rest))) : W p l e R s m args below meth c H locs cells slots Q (F0 m pc ls (.ref (ad 0) :: rest)) :=
  u_callV (n := 0) (mX7_group6 l D ad cI cB en S  ro So hs) C uK_M (wg_V hlk tI_X7_group6 tS_X7_group6 tN_X7 tK_X7_group6) rfl rfl rfl (by decide +kernel) hR rfl (va_recv hK.1 hP (ci := 6) (q0 := 0) rfl rfl) hK hP hS hls hrest hd hc rfl k
def fX7_group7  (S : St) : Option (Bool × St) :=
    (if ((S.1 5) &&& 256) = 0 then (gd (ixo (((S.1 5) >>> ((9 : Int32) &&& 31)) &&& 7) 8 = true) (lt (sA S 1 (((S.1 5) >>> ((9 : Int32) &&& 31)) &&& 7).toNatClampNeg ((S.1 5).toInt8.toInt32)) fun S1 => (bv (fX7_logic ((S1.1 5).toInt8.toInt32) 4 S1) fun S2 => (some (true, S2)))))
    else (some (false, S)))
abbrev rmX7_group7 : Room := { frames := 3, cells := 0, slots := 0, locals := 66 }
set_option maxRecDepth 100000 in
set_option maxHeartbeats 4000000 in
theorem mX7_group7 (l : Launch) (D : va_G) (ad : Nat → Nat) (cI cB : ClassId) (en : Nat → Nat) (S : St)  (ro : Bool) (So : St) (hs : fX7_group7  S = some (ro, So)) : uM l yX7_group7 (wg yX7_group7 cX7_group7 1 (some .boolean)) rmX7_group7 (KM D ad cI cB en) D (wM ad cI cB) (AX 11 ad) [.ref (ad 0)] S (some (.int (zI ro)), So) := by
  refine uM_start (by decide) rfl ?_
  intro p e s m below meth c hx hb hr hlocks hml hown hts hK hP
  have hT : ∀ w ∈ wG, w.before _ s = true := fun w h => hts w (List.mem_cons_of_mem _ h)
  have hS : va_S (AX 11 ad s.heap.size) s.heap s.heap [] := va_S.rf
  have hown : s.vm.findClass RX7 = some m.cls := hown
  have C : CallFix p m c cX7_group7 1 s _ wG RX7 := ⟨hx, hb, hml, hown, hT⟩
  have hl := lv_entry ([.ref (ad 0)]) (n := 1) (Nat.le_of_ble_eq_true rfl)
  rw [lg_entry_eq]
  generalize (lg_sl ([.ref (ad 0)]) ++ List.replicate (1 - (lg_sl ([.ref (ad 0)])).length) Slot.unset).toArray = ls at hl ⊢
  have hl : lv_has ls 1 [(0, .ref (ad 0))] := hl
  unfold fX7_group7 at hs
  refine lv_aload_n hx hb dX7_group7_0 rfl (lv_at hl 0 rfl) ?_
  refine gM_X7_op hx hb hT hown hK hP (hT _ tF_X7_174) dX7_group7_1 ?_
  refine lv_sipush (v := 256) hx hb dX7_group7_4 (by decide) ?_
  refine lv_iand hx hb dX7_group7_7 ?_
  refine lv_if_eq (tgt := 13) hx hb dX7_group7_8 (by decide) (fun c1 => ?_) (fun c1 => ?_)
  · have hs := if_t c1 hs
    refine lv_aload_n hx hb dX7_group7_13 rfl (lv_at hl 0 rfl) ?_
    refine gM_X7_d hx hb hT hown hK hP (hT _ tF_X7_13) dX7_group7_14 ?_
    refine lv_aload_n hx hb dX7_group7_17 rfl (lv_at hl 0 rfl) ?_
    refine gM_X7_op hx hb hT hown hK hP (hT _ tF_X7_174) dX7_group7_18 ?_
    refine lv_bipush (v := 9) hx hb dX7_group7_21 (by decide) ?_
    refine lv_ishr hx hb dX7_group7_23 ?_
    refine lv_bipush (v := 7) hx hb dX7_group7_24 (by decide) ?_
    refine lv_iand hx hb dX7_group7_26 ?_
    refine lv_aload_n hx hb dX7_group7_27 rfl (lv_at hl 0 rfl) ?_
    refine gM_X7_op hx hb hT hown hK hP (hT _ tF_X7_174) dX7_group7_28 ?_
    refine lv_i2b (v := ((S.1 5).toInt8.toInt32)) hx hb dX7_group7_31 rfl ?_
    obtain ⟨h1, hs⟩ := gd_e hs
    obtain ⟨S1, h2, hs⟩ := lt_e hs
    refine sM_d hx hb hK hP hS (v := ((S.1 5).toInt8.toInt32)) (ixo_in h1) dX7_group7_32 h2 (fun H locs hP hS => ?_)
    refine lv_aload_n hx hb dX7_group7_33 rfl (lv_at hl 0 rfl) ?_
    refine lv_aload_n hx hb dX7_group7_34 rfl (lv_at hl 0 rfl) ?_
    refine gM_X7_op hx hb hT hown hK hP (hT _ tF_X7_174) dX7_group7_35 ?_
    refine lv_i2b (v := ((S1.1 5).toInt8.toInt32)) hx hb dX7_group7_38 rfl ?_
    refine lv_iconst (v := 4) hx hb dX7_group7_39 (by decide) ?_
    obtain ⟨S2, h3, hs⟩ := bv_e hs
    refine kX7_logic C tM_X7_214 ⟨Nat.le_of_ble_eq_true rfl, Nat.le_of_ble_eq_true rfl⟩ ⟨Nat.le_of_ble_eq_true rfl, Nat.le_of_ble_eq_true rfl⟩ hK hP hS hl.1 (rest := []) (Nat.le_of_ble_eq_true rfl) dX7_group7_40 h3 (fun H locs hP hS => ?_)
    refine lv_iconst (v := 1) hx hb dX7_group7_43 (by decide) ?_
    exact u_zret (v := true) hx hb hr hlocks hP hS hs dX7_group7_44
  · have hs := if_f c1 hs
    refine lv_iconst (v := 0) hx hb dX7_group7_11 (by decide) ?_
    exact u_zret (v := false) hx hb hr hlocks hP hS hs dX7_group7_12
theorem kX7_group7 {p : Program} {l : Launch} {e : Env} {R : Room} {s : State} {m : MethodId} {args : Array Value} {below : List Frame} {meth : Method} {c : Code} {H : Heap} {locs : List Loc} {cells slots : Nat} {Q : State → Prop} {cc : ByteArray} {pc nL : Nat} {ls : Array Slot} {rest : List Value} {D : va_G} {ad : Nat → Nat} {cI cB : ClassId} {en : Nat → Nat} {S : St} {own : String} {index : Nat}  {ro : Bool} {So : St} (C : CallFix p m c cc nL s args wG own) (hlk : Cond.methodLink own index yX7_group7 ∈ wG) (hR : rmX7_group7.frames + 1 ≤ R.frames ∧ 8 + (1 + 11) + rmX7_group7.locals ≤ R.locals) (hc : cells ≤ R.cells ∧ slots ≤ R.slots) (hK : KM D ad cI cB en s) (hP : va_P D vwCl (wM ad cI cB S) H) (hS : va_S (AX 11 ad s.heap.size) s.heap H locs) (hls : ls.size = nL) (hrest : (rest.map fun v => v.category).sum ≤ 8) (hd : decode cc pc = .ok (.invokevirtual index, 3)) (hs : fX7_group7  S = some (ro, So)) (k : ∀ (H : Heap) (locs : List Loc), va_P D vwCl (wM ad cI cB So) H → va_S (AX 11 ad s.heap.size) s.heap H locs → W p l e R s m args below meth c H locs cells slots Q (F0 m (pc + 3) ls (.int (zI ro) :: rest))) : W p l e R s m args below meth c H locs cells slots Q (F0 m pc ls (.ref (ad 0) :: rest)) :=
  u_callV (n := 0) (mX7_group7 l D ad cI cB en S  ro So hs) C uK_M (wg_V hlk tI_X7_group7 tS_X7_group7 tN_X7 tK_X7_group7) rfl rfl rfl (by decide +kernel) hR rfl (va_recv hK.1 hP (ci := 6) (q0 := 0) rfl rfl) hK hP hS hls hrest hd hc rfl k
def fX7_divide (z1 : Bool) (S : St) : Option (Bool × St) :=
    (lt ((((S.1 5) >>> ((9 : Int32) &&& 31)) &&& 7) : Int32) fun v1 => (bd (fX7_fits ((S.1 5) &&& 63) 1 2 S) fun b1 S1 => (if (zI b1) = 0 then (some (false, S1))
    else (bv (fX7_operand ((S1.1 5) &&& 63) 2 S1) fun S2 => (bd (fX7_take 2 S2) fun r1 S3 => (if (S3.1 6) ≤ 0 then (bv (fX7_flag 1 false S3) fun S4 => (if r1 = 0 then (lt (sI S4 8 5) fun S10 => (some (true, S10)))
    else (jn (fun (w1 : Int64) (S5 : St) => (jn (fun (w2 : Int64) => (gd (¬ w2 = 0) (lt ((w1 / w2) : Int64) fun w3 => (jn (fun (b2 : Bool) => (bv (fX7_flag 2 b2 S5) fun S6 => (if (zI b2) = 0 then (gd (¬ w2 = 0) (gd (ixo v1 8 = true) (lt (sA S6 1 v1.toNatClampNeg ((((w1 - w1 / w2 * w2).toInt32) <<< ((16 : Int32) &&& 31)) ||| ((w3.toInt32) &&& 65535))) fun S7 => (bv (fX7_signs (w3.toInt32) 2 S7) fun S8 => (some (true, S8))))))
    else (some (true, S6))))) fun K3 =>
    (if (zI z1) = 0 then (if (lg_cmp w3 65535) ≤ 0 then (K3 false)
    else (K3 true))
    else (if (lg_cmp w3 (-32768 : Int64)) < 0 then (K3 true)
    else (if (lg_cmp w3 32767) ≤ 0 then (K3 false)
    else (K3 true)))))))) fun K2 =>
    (if (zI z1) = 0 then (K2 (r1.toInt64))
    else (K2 ((r1.toInt16.toInt32).toInt64))))) fun K1 =>
    (if (zI z1) = 0 then (gd (ixo v1 8 = true) (bd (fX7_plain (S4.2.2 1 v1.toNatClampNeg) 4 S4) fun w4 S9 => (K1 w4 S9)))
    else (gd (ixo v1 8 = true) (K1 ((S4.2.2 1 v1.toNatClampNeg).toInt64) S4))))))
    else (some (true, S3))))))))
abbrev rmX7_divide : Room := { frames := 6, cells := 0, slots := 0, locals := 138 }
set_option maxRecDepth 100000 in
set_option maxHeartbeats 4000000 in
theorem mX7_divide (l : Launch) (D : va_G) (ad : Nat → Nat) (cI cB : ClassId) (en : Nat → Nat) (S : St) (z1 : Bool) (ro : Bool) (So : St) (hs : fX7_divide z1 S = some (ro, So)) : uM l yX7_divide (wg yX7_divide cX7_divide 11 (some .boolean)) rmX7_divide (KM D ad cI cB en) D (wM ad cI cB) (AX 11 ad) [.ref (ad 0), .int (zI z1)] S (some (.int (zI ro)), So) := by
  refine uM_start (by decide) rfl ?_
  intro p e s m below meth c hx hb hr hlocks hml hown hts hK hP
  have hT : ∀ w ∈ wG, w.before _ s = true := fun w h => hts w (List.mem_cons_of_mem _ h)
  have hS : va_S (AX 11 ad s.heap.size) s.heap s.heap [] := va_S.rf
  have hown : s.vm.findClass RX7 = some m.cls := hown
  have C : CallFix p m c cX7_divide 11 s _ wG RX7 := ⟨hx, hb, hml, hown, hT⟩
  have hl := lv_entry ([.ref (ad 0), .int (zI z1)]) (n := 11) (Nat.le_of_ble_eq_true rfl)
  rw [lg_entry_eq]
  generalize (lg_sl ([.ref (ad 0), .int (zI z1)]) ++ List.replicate (11 - (lg_sl ([.ref (ad 0), .int (zI z1)])).length) Slot.unset).toArray = ls at hl ⊢
  have hl : lv_has ls 11 [(0, .ref (ad 0)), (1, .int (zI z1))] := hl
  unfold fX7_divide at hs
  refine lv_aload_n hx hb dX7_divide_0 rfl (lv_at hl 0 rfl) ?_
  refine gM_X7_op hx hb hT hown hK hP (hT _ tF_X7_174) dX7_divide_1 ?_
  refine lv_bipush (v := 9) hx hb dX7_divide_4 (by decide) ?_
  refine lv_ishr hx hb dX7_divide_6 ?_
  refine lv_bipush (v := 7) hx hb dX7_divide_7 (by decide) ?_
  refine lv_iand hx hb dX7_divide_9 ?_
  obtain ⟨v1, h1, hs⟩ := lt_e hs
  refine u_top h1 ?_
  refine lv_istore_n (lv' := [(2, .int v1), (0, .ref (ad 0)), (1, .int (zI z1))]) hx hb dX7_divide_10 rfl hl (by decide) rfl (fun ls hl => ?_)
  refine lv_aload_n hx hb dX7_divide_11 rfl (lv_at hl 1 rfl) ?_
  refine gM_X7_op hx hb hT hown hK hP (hT _ tF_X7_174) dX7_divide_12 ?_
  refine lv_bipush (v := 63) hx hb dX7_divide_15 (by decide) ?_
  refine lv_iand hx hb dX7_divide_17 ?_
  refine lv_iconst (v := 1) hx hb dX7_divide_18 (by decide) ?_
  refine lv_iconst (v := 2) hx hb dX7_divide_19 (by decide) ?_
  obtain ⟨b1, S1, h2, hs⟩ := bd_e hs
  refine kX7_fits C tM_X7_188 ⟨Nat.le_of_ble_eq_true rfl, Nat.le_of_ble_eq_true rfl⟩ ⟨Nat.le_of_ble_eq_true rfl, Nat.le_of_ble_eq_true rfl⟩ hK hP hS hl.1 (rest := []) (Nat.le_of_ble_eq_true rfl) dX7_divide_20 h2 (fun H locs hP hS => ?_)
  refine lv_if_ne (tgt := 28) hx hb dX7_divide_23 (by decide) (fun c1 => ?_) (fun c1 => ?_)
  · have hs := if_f c1 hs
    refine lv_aload_n hx hb dX7_divide_28 rfl (lv_at hl 1 rfl) ?_
    refine lv_aload_n hx hb dX7_divide_29 rfl (lv_at hl 1 rfl) ?_
    refine gM_X7_op hx hb hT hown hK hP (hT _ tF_X7_174) dX7_divide_30 ?_
    refine lv_bipush (v := 63) hx hb dX7_divide_33 (by decide) ?_
    refine lv_iand hx hb dX7_divide_35 ?_
    refine lv_iconst (v := 2) hx hb dX7_divide_36 (by decide) ?_
    obtain ⟨S2, h3, hs⟩ := bv_e hs
    refine kX7_operand C tM_X7_192 ⟨Nat.le_of_ble_eq_true rfl, Nat.le_of_ble_eq_true rfl⟩ ⟨Nat.le_of_ble_eq_true rfl, Nat.le_of_ble_eq_true rfl⟩ hK hP hS hl.1 (rest := []) (Nat.le_of_ble_eq_true rfl) dX7_divide_37 h3 (fun H locs hP hS => ?_)
    refine lv_aload_n hx hb dX7_divide_40 rfl (lv_at hl 1 rfl) ?_
    refine lv_iconst (v := 2) hx hb dX7_divide_41 (by decide) ?_
    obtain ⟨r1, S3, h4, hs⟩ := bd_e hs
    refine kX7_take C tM_X7_195 ⟨Nat.le_of_ble_eq_true rfl, Nat.le_of_ble_eq_true rfl⟩ ⟨Nat.le_of_ble_eq_true rfl, Nat.le_of_ble_eq_true rfl⟩ hK hP hS hl.1 (rest := []) (Nat.le_of_ble_eq_true rfl) dX7_divide_42 h4 (fun H locs hP hS => ?_)
    refine lv_istore_n (lv' := [(3, .int r1), (2, .int v1), (0, .ref (ad 0)), (1, .int (zI z1))]) hx hb dX7_divide_45 rfl hl (by decide) rfl (fun ls hl => ?_)
    refine lv_aload_n hx hb dX7_divide_46 rfl (lv_at hl 2 rfl) ?_
    refine gM_X7_trouble hx hb hT hown hK hP (hT _ tF_X7_100) dX7_divide_47 ?_
    refine lv_if_le (tgt := 55) hx hb dX7_divide_50 (by decide) (fun c2 => ?_) (fun c2 => ?_)
    · have hs := if_t c2 hs
      refine lv_aload_n hx hb dX7_divide_55 rfl (lv_at hl 2 rfl) ?_
      refine lv_iconst (v := 1) hx hb dX7_divide_56 (by decide) ?_
      refine lv_iconst (v := 0) hx hb dX7_divide_57 (by decide) ?_
      obtain ⟨S4, h5, hs⟩ := bv_e hs
      refine kX7_flag C tM_X7_160 ⟨Nat.le_of_ble_eq_true rfl, Nat.le_of_ble_eq_true rfl⟩ ⟨Nat.le_of_ble_eq_true rfl, Nat.le_of_ble_eq_true rfl⟩ hK hP hS hl.1 (rest := []) (Nat.le_of_ble_eq_true rfl) dX7_divide_58 h5 (fun H locs hP hS => ?_)
      refine lv_iload_n hx hb dX7_divide_61 rfl (lv_at hl 0 rfl) ?_
      refine lv_if_ne (tgt := 72) hx hb dX7_divide_62 (by decide) (fun c3 => ?_) (fun c3 => ?_)
      · have hs := if_f c3 hs
        refine lv_iload_n hx hb dX7_divide_72 rfl (lv_at hl 3 rfl) ?_
        refine jn_e hs (fun K1 => ∀ (w1 : Int64) (S5 : St) (H : Heap) (locs : List Loc) (ls : Array Slot), lv_has ls 11 [(3, .int r1), (2, .int v1), (0, .ref (ad 0)), (1, .int (zI z1))] → va_P D vwCl (wM ad cI cB S5) H → va_S (AX 11 ad s.heap.size) s.heap H locs → K1 w1 S5 = some (ro, So) → W p l e rmX7_divide s m ([.ref (ad 0), .int (zI z1)] : List Value).toArray below meth c H locs 0 0 (MQ below (uQ D (wM ad cI cB) (some (.int (zI ro)), So) (AX 11 ad s.heap.size)) ([.ref (ad 0), .int (zI z1)] : List Value).toArray s 0 0 (AX 11 ad s.heap.size)) (F0 m 96 ls [.long w1])) ?_ (fun K1 J1 hs => ?_)
        · intro w1 S5 H locs ls hl hP hS hs
          refine lv_lstore (lv' := [(4, .long w1), (3, .int r1), (2, .int v1), (0, .ref (ad 0)), (1, .int (zI z1))]) hx hb dX7_divide_96 hl (by decide) rfl (fun ls hl => ?_)
          refine lv_iload_n hx hb dX7_divide_98 rfl (lv_at hl 4 rfl) ?_
          refine jn_e hs (fun K2 => ∀ (w2 : Int64) (H : Heap) (locs : List Loc) (ls : Array Slot), lv_has ls 11 [(4, .long w1), (2, .int v1), (0, .ref (ad 0)), (1, .int (zI z1))] → va_P D vwCl (wM ad cI cB S5) H → va_S (AX 11 ad s.heap.size) s.heap H locs → K2 w2 = some (ro, So) → W p l e rmX7_divide s m ([.ref (ad 0), .int (zI z1)] : List Value).toArray below meth c H locs 0 0 (MQ below (uQ D (wM ad cI cB) (some (.int (zI ro)), So) (AX 11 ad s.heap.size)) ([.ref (ad 0), .int (zI z1)] : List Value).toArray s 0 0 (AX 11 ad s.heap.size)) (F0 m 110 ls [.long w2])) ?_ (fun K2 J2 hs => ?_)
          · intro w2 H locs ls hl hP hS hs
            refine lv_lstore (lv' := [(6, .long w2), (4, .long w1), (2, .int v1), (0, .ref (ad 0)), (1, .int (zI z1))]) hx hb dX7_divide_110 hl (by decide) rfl (fun ls hl => ?_)
            refine lv_lload hx hb dX7_divide_112 (lv_at hl 1 rfl) ?_
            refine lv_lload hx hb dX7_divide_114 (lv_at hl 0 rfl) ?_
            obtain ⟨h6, hs⟩ := gd_e hs
            refine lv_ldiv hx hb dX7_divide_116 h6 ?_
            obtain ⟨w3, h7, hs⟩ := lt_e hs
            refine u_topl h7 ?_
            refine lv_lstore (lv' := [(8, .long w3), (6, .long w2), (4, .long w1), (2, .int v1), (0, .ref (ad 0)), (1, .int (zI z1))]) hx hb dX7_divide_117 hl (by decide) rfl (fun ls hl => ?_)
            refine lv_iload_n hx hb dX7_divide_119 rfl (lv_at hl 5 rfl) ?_
            refine jn_e hs (fun K3 => ∀ (b2 : Bool) (H : Heap) (locs : List Loc) (ls : Array Slot), lv_has ls 11 [(8, .long w3), (6, .long w2), (4, .long w1), (2, .int v1), (0, .ref (ad 0))] → va_P D vwCl (wM ad cI cB S5) H → va_S (AX 11 ad s.heap.size) s.heap H locs → K3 b2 = some (ro, So) → W p l e rmX7_divide s m ([.ref (ad 0), .int (zI z1)] : List Value).toArray below meth c H locs 0 0 (MQ below (uQ D (wM ad cI cB) (some (.int (zI ro)), So) (AX 11 ad s.heap.size)) ([.ref (ad 0), .int (zI z1)] : List Value).toArray s 0 0 (AX 11 ad s.heap.size)) (F0 m 163 ls [.int (zI b2)])) ?_ (fun K3 J3 hs => ?_)
            · intro b2 H locs ls hl hP hS hs
              refine lv_istore (lv' := [(10, .int (zI b2)), (8, .long w3), (6, .long w2), (4, .long w1), (2, .int v1), (0, .ref (ad 0))]) hx hb dX7_divide_163 hl (by decide) rfl (fun ls hl => ?_)
              refine lv_aload_n hx hb dX7_divide_165 rfl (lv_at hl 5 rfl) ?_
              refine lv_iconst (v := 2) hx hb dX7_divide_166 (by decide) ?_
              refine lv_iload hx hb dX7_divide_167 (lv_at hl 0 rfl) ?_
              obtain ⟨S6, h8, hs⟩ := bv_e hs
              refine kX7_flag C tM_X7_160 ⟨Nat.le_of_ble_eq_true rfl, Nat.le_of_ble_eq_true rfl⟩ ⟨Nat.le_of_ble_eq_true rfl, Nat.le_of_ble_eq_true rfl⟩ hK hP hS hl.1 (rest := []) (Nat.le_of_ble_eq_true rfl) dX7_divide_169 h8 (fun H locs hP hS => ?_)
              refine lv_iload hx hb dX7_divide_172 (lv_at hl 0 rfl) ?_
              refine lv_if_ne (tgt := 207) hx hb dX7_divide_174 (by decide) (fun c4 => ?_) (fun c4 => ?_)
              · have hs := if_f c4 hs
                refine lv_iconst (v := 1) hx hb dX7_divide_207 (by decide) ?_
                exact u_zret (v := true) hx hb hr hlocks hP hS hs dX7_divide_208
              · have hs := if_t c4 hs
                refine lv_aload_n hx hb dX7_divide_177 rfl (lv_at hl 5 rfl) ?_
                refine gM_X7_d hx hb hT hown hK hP (hT _ tF_X7_13) dX7_divide_178 ?_
                refine lv_iload_n hx hb dX7_divide_181 rfl (lv_at hl 4 rfl) ?_
                refine lv_lload hx hb dX7_divide_182 (lv_at hl 3 rfl) ?_
                refine lv_lload hx hb dX7_divide_184 (lv_at hl 2 rfl) ?_
                obtain ⟨h9, hs⟩ := gd_e hs
                refine lv_lrem hx hb dX7_divide_186 h9 ?_
                refine lv_l2i (v := ((w1 - w1 / w2 * w2).toInt32)) hx hb dX7_divide_187 rfl ?_
                refine lv_bipush (v := 16) hx hb dX7_divide_188 (by decide) ?_
                refine lv_ishl hx hb dX7_divide_190 ?_
                refine lv_lload hx hb dX7_divide_191 (lv_at hl 1 rfl) ?_
                refine lv_l2i (v := (w3.toInt32)) hx hb dX7_divide_193 rfl ?_
                refine lv_ldc (v := 65535) hx hb hown (hT _ tC_X7_149) dX7_divide_194 ?_
                refine lv_iand hx hb dX7_divide_196 ?_
                refine lv_ior hx hb dX7_divide_197 ?_
                obtain ⟨h10, hs⟩ := gd_e hs
                obtain ⟨S7, h11, hs⟩ := lt_e hs
                refine sM_d hx hb hK hP hS (v := ((((w1 - w1 / w2 * w2).toInt32) <<< ((16 : Int32) &&& 31)) ||| ((w3.toInt32) &&& 65535))) (ixo_in h10) dX7_divide_198 h11 (fun H locs hP hS => ?_)
                refine lv_aload_n hx hb dX7_divide_199 rfl (lv_at hl 5 rfl) ?_
                refine lv_lload hx hb dX7_divide_200 (lv_at hl 1 rfl) ?_
                refine lv_l2i (v := (w3.toInt32)) hx hb dX7_divide_202 rfl ?_
                refine lv_iconst (v := 2) hx hb dX7_divide_203 (by decide) ?_
                obtain ⟨S8, h12, hs⟩ := bv_e hs
                refine kX7_signs C tM_X7_164 ⟨Nat.le_of_ble_eq_true rfl, Nat.le_of_ble_eq_true rfl⟩ ⟨Nat.le_of_ble_eq_true rfl, Nat.le_of_ble_eq_true rfl⟩ hK hP hS hl.1 (rest := []) (Nat.le_of_ble_eq_true rfl) dX7_divide_204 h12 (fun H locs hP hS => ?_)
                refine lv_iconst (v := 1) hx hb dX7_divide_207 (by decide) ?_
                exact u_zret (v := true) hx hb hr hlocks hP hS hs dX7_divide_208
            ·
              refine lv_if_eq (tgt := 149) hx hb dX7_divide_120 (by decide) (fun c5 => ?_) (fun c5 => ?_)
              · have hs := if_t c5 hs
                refine lv_lload hx hb dX7_divide_149 (lv_at hl 0 rfl) ?_
                refine lv_ldc2 (v := 65535) hx hb hown (hT _ tC_X7_121) dX7_divide_151 ?_
                refine W.lcmp hx hb dX7_divide_154 ?_
                refine lv_if_le (tgt := 162) hx hb dX7_divide_155 (by decide) (fun c6 => ?_) (fun c6 => ?_)
                · have hs := if_t c6 hs
                  refine lv_iconst (v := 0) hx hb dX7_divide_162 (by decide) ?_
                  exact J3 false _ _ _ (lv_sub hl [0, 1, 2, 3, 4] rfl) hP hS hs
                · have hs := if_f c6 hs
                  refine lv_iconst (v := 1) hx hb dX7_divide_158 (by decide) ?_
                  refine lv_goto (tgt := 163) hx hb dX7_divide_159 (by decide) ?_
                  exact J3 true _ _ _ (lv_sub hl [0, 1, 2, 3, 4] rfl) hP hS hs
              · have hs := if_f c5 hs
                refine lv_lload hx hb dX7_divide_123 (lv_at hl 0 rfl) ?_
                refine lv_ldc2 (v := (-32768 : Int64)) hx hb hown (hT _ tC_X7_272) dX7_divide_125 ?_
                refine W.lcmp hx hb dX7_divide_128 ?_
                refine lv_if_lt (tgt := 141) hx hb dX7_divide_129 (by decide) (fun c7 => ?_) (fun c7 => ?_)
                · have hs := if_t c7 hs
                  refine lv_iconst (v := 1) hx hb dX7_divide_141 (by decide) ?_
                  refine lv_goto (tgt := 163) hx hb dX7_divide_142 (by decide) ?_
                  exact J3 true _ _ _ (lv_sub hl [0, 1, 2, 3, 4] rfl) hP hS hs
                · have hs := if_f c7 hs
                  refine lv_lload hx hb dX7_divide_132 (lv_at hl 0 rfl) ?_
                  refine lv_ldc2 (v := 32767) hx hb hown (hT _ tC_X7_274) dX7_divide_134 ?_
                  refine W.lcmp hx hb dX7_divide_137 ?_
                  refine lv_if_le (tgt := 145) hx hb dX7_divide_138 (by decide) (fun c8 => ?_) (fun c8 => ?_)
                  · have hs := if_t c8 hs
                    refine lv_iconst (v := 0) hx hb dX7_divide_145 (by decide) ?_
                    refine lv_goto (tgt := 163) hx hb dX7_divide_146 (by decide) ?_
                    exact J3 false _ _ _ (lv_sub hl [0, 1, 2, 3, 4] rfl) hP hS hs
                  · have hs := if_f c8 hs
                    refine lv_iconst (v := 1) hx hb dX7_divide_141 (by decide) ?_
                    refine lv_goto (tgt := 163) hx hb dX7_divide_142 (by decide) ?_
                    exact J3 true _ _ _ (lv_sub hl [0, 1, 2, 3, 4] rfl) hP hS hs
          ·
            refine lv_if_eq (tgt := 108) hx hb dX7_divide_99 (by decide) (fun c9 => ?_) (fun c9 => ?_)
            · have hs := if_t c9 hs
              refine lv_iload_n hx hb dX7_divide_108 rfl (lv_at hl 1 rfl) ?_
              refine lv_i2l (v := (r1.toInt64)) hx hb dX7_divide_109 rfl ?_
              exact J2 (r1.toInt64) _ _ _ (lv_sub hl [0, 2, 3, 4] rfl) hP hS hs
            · have hs := if_f c9 hs
              refine lv_iload_n hx hb dX7_divide_102 rfl (lv_at hl 1 rfl) ?_
              refine lv_i2s (v := (r1.toInt16.toInt32)) hx hb dX7_divide_103 rfl ?_
              refine lv_i2l (v := ((r1.toInt16.toInt32).toInt64)) hx hb dX7_divide_104 rfl ?_
              refine lv_goto (tgt := 110) hx hb dX7_divide_105 (by decide) ?_
              exact J2 ((r1.toInt16.toInt32).toInt64) _ _ _ (lv_sub hl [0, 2, 3, 4] rfl) hP hS hs
        ·
          refine lv_if_eq (tgt := 86) hx hb dX7_divide_73 (by decide) (fun c10 => ?_) (fun c10 => ?_)
          · have hs := if_t c10 hs
            refine lv_aload_n hx hb dX7_divide_86 rfl (lv_at hl 2 rfl) ?_
            refine gM_X7_d hx hb hT hown hK hP (hT _ tF_X7_13) dX7_divide_87 ?_
            refine lv_iload_n hx hb dX7_divide_90 rfl (lv_at hl 1 rfl) ?_
            obtain ⟨h13, hs⟩ := gd_e hs
            refine lM_d hx hb hK hP (ixo_in h13) dX7_divide_91 ?_
            refine lv_iconst (v := 4) hx hb dX7_divide_92 (by decide) ?_
            obtain ⟨w4, S9, h14, hs⟩ := bd_e hs
            refine kX7_plain C tM_X7_144 ⟨Nat.le_of_ble_eq_true rfl, Nat.le_of_ble_eq_true rfl⟩ ⟨Nat.le_of_ble_eq_true rfl, Nat.le_of_ble_eq_true rfl⟩ hK hP hS hl.1 (rest := []) (Nat.le_of_ble_eq_true rfl) dX7_divide_93 h14 (fun H locs hP hS => ?_)
            exact J1 w4 S9 _ _ _ (lv_sub hl [0, 1, 2, 3] rfl) hP hS hs
          · have hs := if_f c10 hs
            refine lv_aload_n hx hb dX7_divide_76 rfl (lv_at hl 2 rfl) ?_
            refine gM_X7_d hx hb hT hown hK hP (hT _ tF_X7_13) dX7_divide_77 ?_
            refine lv_iload_n hx hb dX7_divide_80 rfl (lv_at hl 1 rfl) ?_
            obtain ⟨h15, hs⟩ := gd_e hs
            refine lM_d hx hb hK hP (ixo_in h15) dX7_divide_81 ?_
            refine lv_i2l (v := ((S4.2.2 1 v1.toNatClampNeg).toInt64)) hx hb dX7_divide_82 rfl ?_
            refine lv_goto (tgt := 96) hx hb dX7_divide_83 (by decide) ?_
            exact J1 ((S4.2.2 1 v1.toNatClampNeg).toInt64) S4 _ _ _ (lv_sub hl [0, 1, 2, 3] rfl) hP hS hs
      · have hs := if_t c3 hs
        refine lv_aload_n hx hb dX7_divide_65 rfl (lv_at hl 2 rfl) ?_
        refine lv_iconst (v := 5) hx hb dX7_divide_66 (by decide) ?_
        obtain ⟨S10, h16, hs⟩ := lt_e hs
        refine pM_X7_follows hx hb hT hown hK hP hS (hT _ tF_X7_245) dX7_divide_67 (v := 5) h16 (fun H locs hP hS => ?_)
        refine lv_iconst (v := 1) hx hb dX7_divide_70 (by decide) ?_
        exact u_zret (v := true) hx hb hr hlocks hP hS hs dX7_divide_71
    · have hs := if_f c2 hs
      refine lv_iconst (v := 1) hx hb dX7_divide_53 (by decide) ?_
      exact u_zret (v := true) hx hb hr hlocks hP hS hs dX7_divide_54
  · have hs := if_t c1 hs
    refine lv_iconst (v := 0) hx hb dX7_divide_26 (by decide) ?_
    exact u_zret (v := false) hx hb hr hlocks hP hS hs dX7_divide_27
theorem kX7_divide {p : Program} {l : Launch} {e : Env} {R : Room} {s : State} {m : MethodId} {args : Array Value} {below : List Frame} {meth : Method} {c : Code} {H : Heap} {locs : List Loc} {cells slots : Nat} {Q : State → Prop} {cc : ByteArray} {pc nL : Nat} {ls : Array Slot} {rest : List Value} {D : va_G} {ad : Nat → Nat} {cI cB : ClassId} {en : Nat → Nat} {S : St} {own : String} {index : Nat} {z1 : Bool} {ro : Bool} {So : St} (C : CallFix p m c cc nL s args wG own) (hlk : Cond.methodLink own index yX7_divide ∈ wG) (hR : rmX7_divide.frames + 1 ≤ R.frames ∧ 8 + (11 + 11) + rmX7_divide.locals ≤ R.locals) (hc : cells ≤ R.cells ∧ slots ≤ R.slots) (hK : KM D ad cI cB en s) (hP : va_P D vwCl (wM ad cI cB S) H) (hS : va_S (AX 11 ad s.heap.size) s.heap H locs) (hls : ls.size = nL) (hrest : (rest.map fun v => v.category).sum ≤ 8) (hd : decode cc pc = .ok (.invokevirtual index, 3)) (hs : fX7_divide z1 S = some (ro, So)) (k : ∀ (H : Heap) (locs : List Loc), va_P D vwCl (wM ad cI cB So) H → va_S (AX 11 ad s.heap.size) s.heap H locs → W p l e R s m args below meth c H locs cells slots Q (F0 m (pc + 3) ls (.int (zI ro) :: rest))) : W p l e R s m args below meth c H locs cells slots Q (F0 m pc ls (.int (zI z1) :: .ref (ad 0) :: rest)) :=
  u_callV (n := 1) (mX7_divide l D ad cI cB en S z1 ro So hs) C uK_M (wg_V hlk tI_X7_divide tS_X7_divide tN_X7 tK_X7_divide) rfl rfl rfl (by decide +kernel) hR rfl (va_recv hK.1 hP (ci := 6) (q0 := 0) rfl rfl) hK hP hS hls hrest hd hc rfl k
def fX7_multiply (z1 : Bool) (S : St) : Option (Bool × St) :=
    (lt ((((S.1 5) >>> ((9 : Int32) &&& 31)) &&& 7) : Int32) fun v1 => (bd (fX7_fits ((S.1 5) &&& 63) 1 2 S) fun b1 S1 => (if (zI b1) = 0 then (some (false, S1))
    else (bv (fX7_operand ((S1.1 5) &&& 63) 2 S1) fun S2 => (bd (fX7_take 2 S2) fun r1 S3 => (jn (fun (v2 : Int32) (S4 : St) => (gd (ixo v1 8 = true) (lt (sA S4 1 v1.toNatClampNeg v2) fun S5 => (gd (ixo v1 8 = true) (bv (fX7_logic (S5.2.2 1 v1.toNatClampNeg) 4 S5) fun S6 => (some (true, S6))))))) fun K1 =>
    (if (zI z1) = 0 then (gd (ixo v1 8 = true) (bd (fX7_plain (S3.2.2 1 v1.toNatClampNeg) 2 S3) fun w1 S7 => (K1 ((w1 * (r1.toInt64)).toInt32) S7)))
    else (gd (ixo v1 8 = true) (K1 (((S3.2.2 1 v1.toNatClampNeg).toInt16.toInt32) * (r1.toInt16.toInt32)) S3)))))))))
abbrev rmX7_multiply : Room := { frames := 6, cells := 0, slots := 0, locals := 138 }
set_option maxRecDepth 100000 in
set_option maxHeartbeats 4000000 in
theorem mX7_multiply (l : Launch) (D : va_G) (ad : Nat → Nat) (cI cB : ClassId) (en : Nat → Nat) (S : St) (z1 : Bool) (ro : Bool) (So : St) (hs : fX7_multiply z1 S = some (ro, So)) : uM l yX7_multiply (wg yX7_multiply cX7_multiply 4 (some .boolean)) rmX7_multiply (KM D ad cI cB en) D (wM ad cI cB) (AX 11 ad) [.ref (ad 0), .int (zI z1)] S (some (.int (zI ro)), So) := by
  refine uM_start (by decide) rfl ?_
  intro p e s m below meth c hx hb hr hlocks hml hown hts hK hP
  have hT : ∀ w ∈ wG, w.before _ s = true := fun w h => hts w (List.mem_cons_of_mem _ h)
  have hS : va_S (AX 11 ad s.heap.size) s.heap s.heap [] := va_S.rf
  have hown : s.vm.findClass RX7 = some m.cls := hown
  have C : CallFix p m c cX7_multiply 4 s _ wG RX7 := ⟨hx, hb, hml, hown, hT⟩
  have hl := lv_entry ([.ref (ad 0), .int (zI z1)]) (n := 4) (Nat.le_of_ble_eq_true rfl)
  rw [lg_entry_eq]
  generalize (lg_sl ([.ref (ad 0), .int (zI z1)]) ++ List.replicate (4 - (lg_sl ([.ref (ad 0), .int (zI z1)])).length) Slot.unset).toArray = ls at hl ⊢
  have hl : lv_has ls 4 [(0, .ref (ad 0)), (1, .int (zI z1))] := hl
  unfold fX7_multiply at hs
  refine lv_aload_n hx hb dX7_multiply_0 rfl (lv_at hl 0 rfl) ?_
  refine gM_X7_op hx hb hT hown hK hP (hT _ tF_X7_174) dX7_multiply_1 ?_
  refine lv_bipush (v := 9) hx hb dX7_multiply_4 (by decide) ?_
  refine lv_ishr hx hb dX7_multiply_6 ?_
  refine lv_bipush (v := 7) hx hb dX7_multiply_7 (by decide) ?_
  refine lv_iand hx hb dX7_multiply_9 ?_
  obtain ⟨v1, h1, hs⟩ := lt_e hs
  refine u_top h1 ?_
  refine lv_istore_n (lv' := [(2, .int v1), (0, .ref (ad 0)), (1, .int (zI z1))]) hx hb dX7_multiply_10 rfl hl (by decide) rfl (fun ls hl => ?_)
  refine lv_aload_n hx hb dX7_multiply_11 rfl (lv_at hl 1 rfl) ?_
  refine gM_X7_op hx hb hT hown hK hP (hT _ tF_X7_174) dX7_multiply_12 ?_
  refine lv_bipush (v := 63) hx hb dX7_multiply_15 (by decide) ?_
  refine lv_iand hx hb dX7_multiply_17 ?_
  refine lv_iconst (v := 1) hx hb dX7_multiply_18 (by decide) ?_
  refine lv_iconst (v := 2) hx hb dX7_multiply_19 (by decide) ?_
  obtain ⟨b1, S1, h2, hs⟩ := bd_e hs
  refine kX7_fits C tM_X7_188 ⟨Nat.le_of_ble_eq_true rfl, Nat.le_of_ble_eq_true rfl⟩ ⟨Nat.le_of_ble_eq_true rfl, Nat.le_of_ble_eq_true rfl⟩ hK hP hS hl.1 (rest := []) (Nat.le_of_ble_eq_true rfl) dX7_multiply_20 h2 (fun H locs hP hS => ?_)
  refine lv_if_ne (tgt := 28) hx hb dX7_multiply_23 (by decide) (fun c1 => ?_) (fun c1 => ?_)
  · have hs := if_f c1 hs
    refine lv_aload_n hx hb dX7_multiply_28 rfl (lv_at hl 1 rfl) ?_
    refine lv_aload_n hx hb dX7_multiply_29 rfl (lv_at hl 1 rfl) ?_
    refine gM_X7_op hx hb hT hown hK hP (hT _ tF_X7_174) dX7_multiply_30 ?_
    refine lv_bipush (v := 63) hx hb dX7_multiply_33 (by decide) ?_
    refine lv_iand hx hb dX7_multiply_35 ?_
    refine lv_iconst (v := 2) hx hb dX7_multiply_36 (by decide) ?_
    obtain ⟨S2, h3, hs⟩ := bv_e hs
    refine kX7_operand C tM_X7_192 ⟨Nat.le_of_ble_eq_true rfl, Nat.le_of_ble_eq_true rfl⟩ ⟨Nat.le_of_ble_eq_true rfl, Nat.le_of_ble_eq_true rfl⟩ hK hP hS hl.1 (rest := []) (Nat.le_of_ble_eq_true rfl) dX7_multiply_37 h3 (fun H locs hP hS => ?_)
    refine lv_aload_n hx hb dX7_multiply_40 rfl (lv_at hl 1 rfl) ?_
    refine lv_iconst (v := 2) hx hb dX7_multiply_41 (by decide) ?_
    obtain ⟨r1, S3, h4, hs⟩ := bd_e hs
    refine kX7_take C tM_X7_195 ⟨Nat.le_of_ble_eq_true rfl, Nat.le_of_ble_eq_true rfl⟩ ⟨Nat.le_of_ble_eq_true rfl, Nat.le_of_ble_eq_true rfl⟩ hK hP hS hl.1 (rest := []) (Nat.le_of_ble_eq_true rfl) dX7_multiply_42 h4 (fun H locs hP hS => ?_)
    refine lv_istore_n (lv' := [(3, .int r1), (2, .int v1), (0, .ref (ad 0)), (1, .int (zI z1))]) hx hb dX7_multiply_45 rfl hl (by decide) rfl (fun ls hl => ?_)
    refine lv_aload_n hx hb dX7_multiply_46 rfl (lv_at hl 2 rfl) ?_
    refine gM_X7_d hx hb hT hown hK hP (hT _ tF_X7_13) dX7_multiply_47 ?_
    refine lv_iload_n hx hb dX7_multiply_50 rfl (lv_at hl 1 rfl) ?_
    refine lv_iload_n hx hb dX7_multiply_51 rfl (lv_at hl 3 rfl) ?_
    refine jn_e hs (fun K1 => ∀ (v2 : Int32) (S4 : St) (H : Heap) (locs : List Loc) (ls : Array Slot), lv_has ls 4 [(2, .int v1), (0, .ref (ad 0))] → va_P D vwCl (wM ad cI cB S4) H → va_S (AX 11 ad s.heap.size) s.heap H locs → K1 v2 S4 = some (ro, So) → W p l e rmX7_multiply s m ([.ref (ad 0), .int (zI z1)] : List Value).toArray below meth c H locs 0 0 (MQ below (uQ D (wM ad cI cB) (some (.int (zI ro)), So) (AX 11 ad s.heap.size)) ([.ref (ad 0), .int (zI z1)] : List Value).toArray s 0 0 (AX 11 ad s.heap.size)) (F0 m 82 ls [.int v2, .int v1, .ref (ad 2)])) ?_ (fun K1 J1 hs => ?_)
    · intro v2 S4 H locs ls hl hP hS hs
      obtain ⟨h5, hs⟩ := gd_e hs
      obtain ⟨S5, h6, hs⟩ := lt_e hs
      refine sM_d hx hb hK hP hS (v := v2) (ixo_in h5) dX7_multiply_82 h6 (fun H locs hP hS => ?_)
      refine lv_aload_n hx hb dX7_multiply_83 rfl (lv_at hl 1 rfl) ?_
      refine lv_aload_n hx hb dX7_multiply_84 rfl (lv_at hl 1 rfl) ?_
      refine gM_X7_d hx hb hT hown hK hP (hT _ tF_X7_13) dX7_multiply_85 ?_
      refine lv_iload_n hx hb dX7_multiply_88 rfl (lv_at hl 0 rfl) ?_
      obtain ⟨h7, hs⟩ := gd_e hs
      refine lM_d hx hb hK hP (ixo_in h7) dX7_multiply_89 ?_
      refine lv_iconst (v := 4) hx hb dX7_multiply_90 (by decide) ?_
      obtain ⟨S6, h8, hs⟩ := bv_e hs
      refine kX7_logic C tM_X7_214 ⟨Nat.le_of_ble_eq_true rfl, Nat.le_of_ble_eq_true rfl⟩ ⟨Nat.le_of_ble_eq_true rfl, Nat.le_of_ble_eq_true rfl⟩ hK hP hS hl.1 (rest := []) (Nat.le_of_ble_eq_true rfl) dX7_multiply_91 h8 (fun H locs hP hS => ?_)
      refine lv_iconst (v := 1) hx hb dX7_multiply_94 (by decide) ?_
      exact u_zret (v := true) hx hb hr hlocks hP hS hs dX7_multiply_95
    ·
      refine lv_if_eq (tgt := 68) hx hb dX7_multiply_52 (by decide) (fun c2 => ?_) (fun c2 => ?_)
      · have hs := if_t c2 hs
        refine lv_aload_n hx hb dX7_multiply_68 rfl (lv_at hl 2 rfl) ?_
        refine gM_X7_d hx hb hT hown hK hP (hT _ tF_X7_13) dX7_multiply_69 ?_
        refine lv_iload_n hx hb dX7_multiply_72 rfl (lv_at hl 1 rfl) ?_
        obtain ⟨h9, hs⟩ := gd_e hs
        refine lM_d hx hb hK hP (ixo_in h9) dX7_multiply_73 ?_
        refine lv_iconst (v := 2) hx hb dX7_multiply_74 (by decide) ?_
        obtain ⟨w1, S7, h10, hs⟩ := bd_e hs
        refine kX7_plain C tM_X7_144 ⟨Nat.le_of_ble_eq_true rfl, Nat.le_of_ble_eq_true rfl⟩ ⟨Nat.le_of_ble_eq_true rfl, Nat.le_of_ble_eq_true rfl⟩ hK hP hS hl.1 (rest := [.int v1, .ref (ad 2)]) (Nat.le_of_ble_eq_true rfl) dX7_multiply_75 h10 (fun H locs hP hS => ?_)
        refine lv_iload_n hx hb dX7_multiply_78 rfl (lv_at hl 0 rfl) ?_
        refine lv_i2l (v := (r1.toInt64)) hx hb dX7_multiply_79 rfl ?_
        refine lv_lmul hx hb dX7_multiply_80 ?_
        refine lv_l2i (v := ((w1 * (r1.toInt64)).toInt32)) hx hb dX7_multiply_81 rfl ?_
        exact J1 ((w1 * (r1.toInt64)).toInt32) S7 _ _ _ (lv_sub hl [1, 2] rfl) hP hS hs
      · have hs := if_f c2 hs
        refine lv_aload_n hx hb dX7_multiply_55 rfl (lv_at hl 2 rfl) ?_
        refine gM_X7_d hx hb hT hown hK hP (hT _ tF_X7_13) dX7_multiply_56 ?_
        refine lv_iload_n hx hb dX7_multiply_59 rfl (lv_at hl 1 rfl) ?_
        obtain ⟨h11, hs⟩ := gd_e hs
        refine lM_d hx hb hK hP (ixo_in h11) dX7_multiply_60 ?_
        refine lv_i2s (v := ((S3.2.2 1 v1.toNatClampNeg).toInt16.toInt32)) hx hb dX7_multiply_61 rfl ?_
        refine lv_iload_n hx hb dX7_multiply_62 rfl (lv_at hl 0 rfl) ?_
        refine lv_i2s (v := (r1.toInt16.toInt32)) hx hb dX7_multiply_63 rfl ?_
        refine lv_imul hx hb dX7_multiply_64 ?_
        refine lv_goto (tgt := 82) hx hb dX7_multiply_65 (by decide) ?_
        exact J1 (((S3.2.2 1 v1.toNatClampNeg).toInt16.toInt32) * (r1.toInt16.toInt32)) S3 _ _ _ (lv_sub hl [1, 2] rfl) hP hS hs
  · have hs := if_t c1 hs
    refine lv_iconst (v := 0) hx hb dX7_multiply_26 (by decide) ?_
    exact u_zret (v := false) hx hb hr hlocks hP hS hs dX7_multiply_27
theorem kX7_multiply {p : Program} {l : Launch} {e : Env} {R : Room} {s : State} {m : MethodId} {args : Array Value} {below : List Frame} {meth : Method} {c : Code} {H : Heap} {locs : List Loc} {cells slots : Nat} {Q : State → Prop} {cc : ByteArray} {pc nL : Nat} {ls : Array Slot} {rest : List Value} {D : va_G} {ad : Nat → Nat} {cI cB : ClassId} {en : Nat → Nat} {S : St} {own : String} {index : Nat} {z1 : Bool} {ro : Bool} {So : St} (C : CallFix p m c cc nL s args wG own) (hlk : Cond.methodLink own index yX7_multiply ∈ wG) (hR : rmX7_multiply.frames + 1 ≤ R.frames ∧ 8 + (4 + 11) + rmX7_multiply.locals ≤ R.locals) (hc : cells ≤ R.cells ∧ slots ≤ R.slots) (hK : KM D ad cI cB en s) (hP : va_P D vwCl (wM ad cI cB S) H) (hS : va_S (AX 11 ad s.heap.size) s.heap H locs) (hls : ls.size = nL) (hrest : (rest.map fun v => v.category).sum ≤ 8) (hd : decode cc pc = .ok (.invokevirtual index, 3)) (hs : fX7_multiply z1 S = some (ro, So)) (k : ∀ (H : Heap) (locs : List Loc), va_P D vwCl (wM ad cI cB So) H → va_S (AX 11 ad s.heap.size) s.heap H locs → W p l e R s m args below meth c H locs cells slots Q (F0 m (pc + 3) ls (.int (zI ro) :: rest))) : W p l e R s m args below meth c H locs cells slots Q (F0 m pc ls (.int (zI z1) :: .ref (ad 0) :: rest)) :=
  u_callV (n := 1) (mX7_multiply l D ad cI cB en S z1 ro So hs) C uK_M (wg_V hlk tI_X7_multiply tS_X7_multiply tN_X7 tK_X7_multiply) rfl rfl rfl (by decide +kernel) hR rfl (va_recv hK.1 hP (ci := 6) (q0 := 0) rfl rfl) hK hP hS hls hrest hd hc rfl k
def fX7_pair (x1 : Int32) (S : St) : Option (Int32 × St) :=
    (jn (fun (v1 : Int32) => (bv (fX7_operand (v1 ||| ((S.1 5) &&& 7)) x1 S) fun S1 => (bd (fX7_take x1 S1) fun r1 S2 => (bv (fX7_operand (v1 ||| (((S2.1 5) >>> ((9 : Int32) &&& 31)) &&& 7)) x1 S2) fun S3 => (some (r1, S3)))))) fun K1 =>
    (if ((S.1 5) &&& 8) = 0 then (K1 0)
    else (K1 32)))
abbrev rmX7_pair : Room := { frames := 6, cells := 0, slots := 0, locals := 138 }
set_option maxRecDepth 100000 in
set_option maxHeartbeats 4000000 in
theorem mX7_pair (l : Launch) (D : va_G) (ad : Nat → Nat) (cI cB : ClassId) (en : Nat → Nat) (S : St) (x1 : Int32) (ro : Int32) (So : St) (hs : fX7_pair x1 S = some (ro, So)) : uM l yX7_pair (wg yX7_pair cX7_pair 4 (some .int)) rmX7_pair (KM D ad cI cB en) D (wM ad cI cB) (AX 11 ad) [.ref (ad 0), .int x1] S (some (.int ro), So) := by
  refine uM_start (by decide) rfl ?_
  intro p e s m below meth c hx hb hr hlocks hml hown hts hK hP
  have hT : ∀ w ∈ wG, w.before _ s = true := fun w h => hts w (List.mem_cons_of_mem _ h)
  have hS : va_S (AX 11 ad s.heap.size) s.heap s.heap [] := va_S.rf
  have hown : s.vm.findClass RX7 = some m.cls := hown
  have C : CallFix p m c cX7_pair 4 s _ wG RX7 := ⟨hx, hb, hml, hown, hT⟩
  have hl := lv_entry ([.ref (ad 0), .int x1]) (n := 4) (Nat.le_of_ble_eq_true rfl)
  rw [lg_entry_eq]
  generalize (lg_sl ([.ref (ad 0), .int x1]) ++ List.replicate (4 - (lg_sl ([.ref (ad 0), .int x1])).length) Slot.unset).toArray = ls at hl ⊢
  have hl : lv_has ls 4 [(0, .ref (ad 0)), (1, .int x1)] := hl
  unfold fX7_pair at hs
  refine lv_aload_n hx hb dX7_pair_0 rfl (lv_at hl 0 rfl) ?_
  refine gM_X7_op hx hb hT hown hK hP (hT _ tF_X7_174) dX7_pair_1 ?_
  refine lv_bipush (v := 8) hx hb dX7_pair_4 (by decide) ?_
  refine lv_iand hx hb dX7_pair_6 ?_
  refine jn_e hs (fun K1 => ∀ (v1 : Int32) (H : Heap) (locs : List Loc) (ls : Array Slot), lv_has ls 4 [(0, .ref (ad 0)), (1, .int x1)] → va_P D vwCl (wM ad cI cB S) H → va_S (AX 11 ad s.heap.size) s.heap H locs → K1 v1 = some (ro, So) → W p l e rmX7_pair s m ([.ref (ad 0), .int x1] : List Value).toArray below meth c H locs 0 0 (MQ below (uQ D (wM ad cI cB) (some (.int ro), So) (AX 11 ad s.heap.size)) ([.ref (ad 0), .int x1] : List Value).toArray s 0 0 (AX 11 ad s.heap.size)) (F0 m 16 ls [.int v1])) ?_ (fun K1 J1 hs => ?_)
  · intro v1 H locs ls hl hP hS hs
    refine lv_istore_n (lv' := [(2, .int v1), (0, .ref (ad 0)), (1, .int x1)]) hx hb dX7_pair_16 rfl hl (by decide) rfl (fun ls hl => ?_)
    refine lv_aload_n hx hb dX7_pair_17 rfl (lv_at hl 1 rfl) ?_
    refine lv_iload_n hx hb dX7_pair_18 rfl (lv_at hl 0 rfl) ?_
    refine lv_aload_n hx hb dX7_pair_19 rfl (lv_at hl 1 rfl) ?_
    refine gM_X7_op hx hb hT hown hK hP (hT _ tF_X7_174) dX7_pair_20 ?_
    refine lv_bipush (v := 7) hx hb dX7_pair_23 (by decide) ?_
    refine lv_iand hx hb dX7_pair_25 ?_
    refine lv_ior hx hb dX7_pair_26 ?_
    refine lv_iload_n hx hb dX7_pair_27 rfl (lv_at hl 2 rfl) ?_
    obtain ⟨S1, h1, hs⟩ := bv_e hs
    refine kX7_operand C tM_X7_192 ⟨Nat.le_of_ble_eq_true rfl, Nat.le_of_ble_eq_true rfl⟩ ⟨Nat.le_of_ble_eq_true rfl, Nat.le_of_ble_eq_true rfl⟩ hK hP hS hl.1 (rest := []) (Nat.le_of_ble_eq_true rfl) dX7_pair_28 h1 (fun H locs hP hS => ?_)
    refine lv_aload_n hx hb dX7_pair_31 rfl (lv_at hl 1 rfl) ?_
    refine lv_iload_n hx hb dX7_pair_32 rfl (lv_at hl 2 rfl) ?_
    obtain ⟨r1, S2, h2, hs⟩ := bd_e hs
    refine kX7_take C tM_X7_195 ⟨Nat.le_of_ble_eq_true rfl, Nat.le_of_ble_eq_true rfl⟩ ⟨Nat.le_of_ble_eq_true rfl, Nat.le_of_ble_eq_true rfl⟩ hK hP hS hl.1 (rest := []) (Nat.le_of_ble_eq_true rfl) dX7_pair_33 h2 (fun H locs hP hS => ?_)
    refine lv_istore_n (lv' := [(3, .int r1), (2, .int v1), (0, .ref (ad 0)), (1, .int x1)]) hx hb dX7_pair_36 rfl hl (by decide) rfl (fun ls hl => ?_)
    refine lv_aload_n hx hb dX7_pair_37 rfl (lv_at hl 2 rfl) ?_
    refine lv_iload_n hx hb dX7_pair_38 rfl (lv_at hl 1 rfl) ?_
    refine lv_aload_n hx hb dX7_pair_39 rfl (lv_at hl 2 rfl) ?_
    refine gM_X7_op hx hb hT hown hK hP (hT _ tF_X7_174) dX7_pair_40 ?_
    refine lv_bipush (v := 9) hx hb dX7_pair_43 (by decide) ?_
    refine lv_ishr hx hb dX7_pair_45 ?_
    refine lv_bipush (v := 7) hx hb dX7_pair_46 (by decide) ?_
    refine lv_iand hx hb dX7_pair_48 ?_
    refine lv_ior hx hb dX7_pair_49 ?_
    refine lv_iload_n hx hb dX7_pair_50 rfl (lv_at hl 3 rfl) ?_
    obtain ⟨S3, h3, hs⟩ := bv_e hs
    refine kX7_operand C tM_X7_192 ⟨Nat.le_of_ble_eq_true rfl, Nat.le_of_ble_eq_true rfl⟩ ⟨Nat.le_of_ble_eq_true rfl, Nat.le_of_ble_eq_true rfl⟩ hK hP hS hl.1 (rest := []) (Nat.le_of_ble_eq_true rfl) dX7_pair_51 h3 (fun H locs hP hS => ?_)
    refine lv_iload_n hx hb dX7_pair_54 rfl (lv_at hl 0 rfl) ?_
    exact u_iret hx hb hr hlocks hP hS hs dX7_pair_55
  ·
    refine lv_if_eq (tgt := 15) hx hb dX7_pair_7 (by decide) (fun c1 => ?_) (fun c1 => ?_)
    · have hs := if_t c1 hs
      refine lv_iconst (v := 0) hx hb dX7_pair_15 (by decide) ?_
      exact J1 0 _ _ _ (lv_sub hl [0, 1] rfl) hP hS hs
    · have hs := if_f c1 hs
      refine lv_bipush (v := 32) hx hb dX7_pair_10 (by decide) ?_
      refine lv_goto (tgt := 16) hx hb dX7_pair_12 (by decide) ?_
      exact J1 32 _ _ _ (lv_sub hl [0, 1] rfl) hP hS hs
theorem kX7_pair {p : Program} {l : Launch} {e : Env} {R : Room} {s : State} {m : MethodId} {args : Array Value} {below : List Frame} {meth : Method} {c : Code} {H : Heap} {locs : List Loc} {cells slots : Nat} {Q : State → Prop} {cc : ByteArray} {pc nL : Nat} {ls : Array Slot} {rest : List Value} {D : va_G} {ad : Nat → Nat} {cI cB : ClassId} {en : Nat → Nat} {S : St} {own : String} {index : Nat} {x1 : Int32} {ro : Int32} {So : St} (C : CallFix p m c cc nL s args wG own) (hlk : Cond.methodLink own index yX7_pair ∈ wG) (hR : rmX7_pair.frames + 1 ≤ R.frames ∧ 8 + (4 + 11) + rmX7_pair.locals ≤ R.locals) (hc : cells ≤ R.cells ∧ slots ≤ R.slots) (hK : KM D ad cI cB en s) (hP : va_P D vwCl (wM ad cI cB S) H) (hS : va_S (AX 11 ad s.heap.size) s.heap H locs) (hls : ls.size = nL) (hrest : (rest.map fun v => v.category).sum ≤ 8) (hd : decode cc pc = .ok (.invokevirtual index, 3)) (hs : fX7_pair x1 S = some (ro, So)) (k : ∀ (H : Heap) (locs : List Loc), va_P D vwCl (wM ad cI cB So) H → va_S (AX 11 ad s.heap.size) s.heap H locs → W p l e R s m args below meth c H locs cells slots Q (F0 m (pc + 3) ls (.int ro :: rest))) : W p l e R s m args below meth c H locs cells slots Q (F0 m pc ls (.int x1 :: .ref (ad 0) :: rest)) :=
  u_callV (n := 1) (mX7_pair l D ad cI cB en S x1 ro So hs) C uK_M (wg_V hlk tI_X7_pair tS_X7_pair tN_X7 tK_X7_pair) rfl rfl rfl (by decide +kernel) hR rfl (va_recv hK.1 hP (ci := 6) (q0 := 0) rfl rfl) hK hP hS hls hrest hd hc rfl k
def fX7_decimal (z1 : Bool) (S : St) : Option (Bool × St) :=
    (bd (fX7_pair 1 S) fun r1 S1 => (bd (fX7_take 1 S1) fun r2 S2 => (jn (fun (v1 : Int32) (S3 : St) => (bv (fX7_give v1 1 S3) fun S4 => (some (true, S4)))) fun K1 =>
    (if (zI z1) = 0 then (bd (fX7_decimalSum r2 r1 S2) fun r3 S5 => (K1 r3 S5))
    else (bd (fX7_decimalLess r2 r1 S2) fun r4 S6 => (K1 r4 S6))))))
abbrev rmX7_decimal : Room := { frames := 7, cells := 0, slots := 0, locals := 161 }
set_option maxRecDepth 100000 in
set_option maxHeartbeats 4000000 in
theorem mX7_decimal (l : Launch) (D : va_G) (ad : Nat → Nat) (cI cB : ClassId) (en : Nat → Nat) (S : St) (z1 : Bool) (ro : Bool) (So : St) (hs : fX7_decimal z1 S = some (ro, So)) : uM l yX7_decimal (wg yX7_decimal cX7_decimal 4 (some .boolean)) rmX7_decimal (KM D ad cI cB en) D (wM ad cI cB) (AX 11 ad) [.ref (ad 0), .int (zI z1)] S (some (.int (zI ro)), So) := by
  refine uM_start (by decide) rfl ?_
  intro p e s m below meth c hx hb hr hlocks hml hown hts hK hP
  have hT : ∀ w ∈ wG, w.before _ s = true := fun w h => hts w (List.mem_cons_of_mem _ h)
  have hS : va_S (AX 11 ad s.heap.size) s.heap s.heap [] := va_S.rf
  have hown : s.vm.findClass RX7 = some m.cls := hown
  have C : CallFix p m c cX7_decimal 4 s _ wG RX7 := ⟨hx, hb, hml, hown, hT⟩
  have hl := lv_entry ([.ref (ad 0), .int (zI z1)]) (n := 4) (Nat.le_of_ble_eq_true rfl)
  rw [lg_entry_eq]
  generalize (lg_sl ([.ref (ad 0), .int (zI z1)]) ++ List.replicate (4 - (lg_sl ([.ref (ad 0), .int (zI z1)])).length) Slot.unset).toArray = ls at hl ⊢
  have hl : lv_has ls 4 [(0, .ref (ad 0)), (1, .int (zI z1))] := hl
  unfold fX7_decimal at hs
  refine lv_aload_n hx hb dX7_decimal_0 rfl (lv_at hl 0 rfl) ?_
  refine lv_iconst (v := 1) hx hb dX7_decimal_1 (by decide) ?_
  obtain ⟨r1, S1, h1, hs⟩ := bd_e hs
  refine kX7_pair C tM_X7_276 ⟨Nat.le_of_ble_eq_true rfl, Nat.le_of_ble_eq_true rfl⟩ ⟨Nat.le_of_ble_eq_true rfl, Nat.le_of_ble_eq_true rfl⟩ hK hP hS hl.1 (rest := []) (Nat.le_of_ble_eq_true rfl) dX7_decimal_2 h1 (fun H locs hP hS => ?_)
  refine lv_istore_n (lv' := [(2, .int r1), (0, .ref (ad 0)), (1, .int (zI z1))]) hx hb dX7_decimal_5 rfl hl (by decide) rfl (fun ls hl => ?_)
  refine lv_aload_n hx hb dX7_decimal_6 rfl (lv_at hl 1 rfl) ?_
  refine lv_iconst (v := 1) hx hb dX7_decimal_7 (by decide) ?_
  obtain ⟨r2, S2, h2, hs⟩ := bd_e hs
  refine kX7_take C tM_X7_195 ⟨Nat.le_of_ble_eq_true rfl, Nat.le_of_ble_eq_true rfl⟩ ⟨Nat.le_of_ble_eq_true rfl, Nat.le_of_ble_eq_true rfl⟩ hK hP hS hl.1 (rest := []) (Nat.le_of_ble_eq_true rfl) dX7_decimal_8 h2 (fun H locs hP hS => ?_)
  refine lv_istore_n (lv' := [(3, .int r2), (2, .int r1), (0, .ref (ad 0)), (1, .int (zI z1))]) hx hb dX7_decimal_11 rfl hl (by decide) rfl (fun ls hl => ?_)
  refine lv_aload_n hx hb dX7_decimal_12 rfl (lv_at hl 2 rfl) ?_
  refine lv_iload_n hx hb dX7_decimal_13 rfl (lv_at hl 3 rfl) ?_
  refine jn_e hs (fun K1 => ∀ (v1 : Int32) (S3 : St) (H : Heap) (locs : List Loc) (ls : Array Slot), lv_has ls 4 [] → va_P D vwCl (wM ad cI cB S3) H → va_S (AX 11 ad s.heap.size) s.heap H locs → K1 v1 S3 = some (ro, So) → W p l e rmX7_decimal s m ([.ref (ad 0), .int (zI z1)] : List Value).toArray below meth c H locs 0 0 (MQ below (uQ D (wM ad cI cB) (some (.int (zI ro)), So) (AX 11 ad s.heap.size)) ([.ref (ad 0), .int (zI z1)] : List Value).toArray s 0 0 (AX 11 ad s.heap.size)) (F0 m 32 ls [.int v1, .ref (ad 0)])) ?_ (fun K1 J1 hs => ?_)
  · intro v1 S3 H locs ls hl hP hS hs
    refine lv_iconst (v := 1) hx hb dX7_decimal_32 (by decide) ?_
    obtain ⟨S4, h3, hs⟩ := bv_e hs
    refine kX7_give C tM_X7_198 ⟨Nat.le_of_ble_eq_true rfl, Nat.le_of_ble_eq_true rfl⟩ ⟨Nat.le_of_ble_eq_true rfl, Nat.le_of_ble_eq_true rfl⟩ hK hP hS hl.1 (rest := []) (Nat.le_of_ble_eq_true rfl) dX7_decimal_33 h3 (fun H locs hP hS => ?_)
    refine lv_iconst (v := 1) hx hb dX7_decimal_36 (by decide) ?_
    exact u_zret (v := true) hx hb hr hlocks hP hS hs dX7_decimal_37
  ·
    refine lv_if_eq (tgt := 26) hx hb dX7_decimal_14 (by decide) (fun c1 => ?_) (fun c1 => ?_)
    · have hs := if_t c1 hs
      refine lv_aload_n hx hb dX7_decimal_26 rfl (lv_at hl 2 rfl) ?_
      refine lv_iload_n hx hb dX7_decimal_27 rfl (lv_at hl 0 rfl) ?_
      refine lv_iload_n hx hb dX7_decimal_28 rfl (lv_at hl 1 rfl) ?_
      obtain ⟨r3, S5, h4, hs⟩ := bd_e hs
      refine kX7_decimalSum C tM_X7_279 ⟨Nat.le_of_ble_eq_true rfl, Nat.le_of_ble_eq_true rfl⟩ ⟨Nat.le_of_ble_eq_true rfl, Nat.le_of_ble_eq_true rfl⟩ hK hP hS hl.1 (rest := [.ref (ad 0)]) (Nat.le_of_ble_eq_true rfl) dX7_decimal_29 h4 (fun H locs hP hS => ?_)
      exact J1 r3 S5 _ _ _ (lv_sub hl [] rfl) hP hS hs
    · have hs := if_f c1 hs
      refine lv_aload_n hx hb dX7_decimal_17 rfl (lv_at hl 2 rfl) ?_
      refine lv_iload_n hx hb dX7_decimal_18 rfl (lv_at hl 0 rfl) ?_
      refine lv_iload_n hx hb dX7_decimal_19 rfl (lv_at hl 1 rfl) ?_
      obtain ⟨r4, S6, h5, hs⟩ := bd_e hs
      refine kX7_decimalLess C tM_X7_233 ⟨Nat.le_of_ble_eq_true rfl, Nat.le_of_ble_eq_true rfl⟩ ⟨Nat.le_of_ble_eq_true rfl, Nat.le_of_ble_eq_true rfl⟩ hK hP hS hl.1 (rest := [.ref (ad 0)]) (Nat.le_of_ble_eq_true rfl) dX7_decimal_20 h5 (fun H locs hP hS => ?_)
      refine lv_goto (tgt := 32) hx hb dX7_decimal_23 (by decide) ?_
      exact J1 r4 S6 _ _ _ (lv_sub hl [] rfl) hP hS hs
theorem kX7_decimal {p : Program} {l : Launch} {e : Env} {R : Room} {s : State} {m : MethodId} {args : Array Value} {below : List Frame} {meth : Method} {c : Code} {H : Heap} {locs : List Loc} {cells slots : Nat} {Q : State → Prop} {cc : ByteArray} {pc nL : Nat} {ls : Array Slot} {rest : List Value} {D : va_G} {ad : Nat → Nat} {cI cB : ClassId} {en : Nat → Nat} {S : St} {own : String} {index : Nat} {z1 : Bool} {ro : Bool} {So : St} (C : CallFix p m c cc nL s args wG own) (hlk : Cond.methodLink own index yX7_decimal ∈ wG) (hR : rmX7_decimal.frames + 1 ≤ R.frames ∧ 8 + (4 + 11) + rmX7_decimal.locals ≤ R.locals) (hc : cells ≤ R.cells ∧ slots ≤ R.slots) (hK : KM D ad cI cB en s) (hP : va_P D vwCl (wM ad cI cB S) H) (hS : va_S (AX 11 ad s.heap.size) s.heap H locs) (hls : ls.size = nL) (hrest : (rest.map fun v => v.category).sum ≤ 8) (hd : decode cc pc = .ok (.invokevirtual index, 3)) (hs : fX7_decimal z1 S = some (ro, So)) (k : ∀ (H : Heap) (locs : List Loc), va_P D vwCl (wM ad cI cB So) H → va_S (AX 11 ad s.heap.size) s.heap H locs → W p l e R s m args below meth c H locs cells slots Q (F0 m (pc + 3) ls (.int (zI ro) :: rest))) : W p l e R s m args below meth c H locs cells slots Q (F0 m pc ls (.int (zI z1) :: .ref (ad 0) :: rest)) :=
  u_callV (n := 1) (mX7_decimal l D ad cI cB en S z1 ro So hs) C uK_M (wg_V hlk tI_X7_decimal tS_X7_decimal tN_X7 tK_X7_decimal) rfl rfl rfl (by decide +kernel) hR rfl (va_recv hK.1 hP (ci := 6) (q0 := 0) rfl rfl) hK hP hS hls hrest hd hc rfl k
def fX7_logicPair (x1 : Int32) (S : St) : Option (Bool × St) :=
    (bd (fX7_sizeOf (((S.1 5) >>> ((6 : Int32) &&& 31)) &&& 3) S) fun r1 S1 => (jn (fun (b1 : Bool) => (lt ((((S1.1 5) >>> ((9 : Int32) &&& 31)) &&& 7) : Int32) fun v1 => (jn (fun (v2 : Int32) => (bd (fX7_fits ((S1.1 5) &&& 63) v2 r1 S1) fun b2 S2 => (if (zI b2) = 0 then (some (false, S2))
    else (bv (fX7_operand ((S2.1 5) &&& 63) r1 S2) fun S3 => (bd (fX7_take r1 S3) fun r2 S4 => (gd (ixo v1 8 = true) (bd (fX7_mixed x1 r2 (S4.2.2 1 v1.toNatClampNeg) S4) fun r3 S5 => (bv (fX7_logic r3 r1 S5) fun S6 => (if (zI b1) = 0 then (if (S6.1 6) = 0 then (gd (ixo v1 8 = true) (bd (fX7_joined (S6.2.2 1 v1.toNatClampNeg) r3 r1 S6) fun r4 S7 => (gd (ixo v1 8 = true) (lt (sA S7 1 v1.toNatClampNeg r4) fun S8 => (some (true, S8))))))
    else (some (true, S6)))
    else (bv (fX7_give r3 r1 S6) fun S9 => (some (true, S9)))))))))))) fun K2 =>
    (if x1 = 2 then (K2 4)
    else (if (zI b1) = 0 then (K2 1)
    else (K2 2)))))) fun K1 =>
    (if ((S1.1 5) &&& 256) = 0 then (K1 false)
    else (K1 true))))
abbrev rmX7_logicPair : Room := { frames := 6, cells := 0, slots := 0, locals := 138 }
set_option maxRecDepth 100000 in
set_option maxHeartbeats 4000000 in
theorem mX7_logicPair (l : Launch) (D : va_G) (ad : Nat → Nat) (cI cB : ClassId) (en : Nat → Nat) (S : St) (x1 : Int32) (ro : Bool) (So : St) (hs : fX7_logicPair x1 S = some (ro, So)) : uM l yX7_logicPair (wg yX7_logicPair cX7_logicPair 6 (some .boolean)) rmX7_logicPair (KM D ad cI cB en) D (wM ad cI cB) (AX 11 ad) [.ref (ad 0), .int x1] S (some (.int (zI ro)), So) := by
  refine uM_start (by decide) rfl ?_
  intro p e s m below meth c hx hb hr hlocks hml hown hts hK hP
  have hT : ∀ w ∈ wG, w.before _ s = true := fun w h => hts w (List.mem_cons_of_mem _ h)
  have hS : va_S (AX 11 ad s.heap.size) s.heap s.heap [] := va_S.rf
  have hown : s.vm.findClass RX7 = some m.cls := hown
  have C : CallFix p m c cX7_logicPair 6 s _ wG RX7 := ⟨hx, hb, hml, hown, hT⟩
  have hl := lv_entry ([.ref (ad 0), .int x1]) (n := 6) (Nat.le_of_ble_eq_true rfl)
  rw [lg_entry_eq]
  generalize (lg_sl ([.ref (ad 0), .int x1]) ++ List.replicate (6 - (lg_sl ([.ref (ad 0), .int x1])).length) Slot.unset).toArray = ls at hl ⊢
  have hl : lv_has ls 6 [(0, .ref (ad 0)), (1, .int x1)] := hl
  unfold fX7_logicPair at hs
  refine lv_aload_n hx hb dX7_logicPair_0 rfl (lv_at hl 0 rfl) ?_
  refine gM_X7_op hx hb hT hown hK hP (hT _ tF_X7_174) dX7_logicPair_1 ?_
  refine lv_bipush (v := 6) hx hb dX7_logicPair_4 (by decide) ?_
  refine lv_ishr hx hb dX7_logicPair_6 ?_
  refine lv_iconst (v := 3) hx hb dX7_logicPair_7 (by decide) ?_
  refine lv_iand hx hb dX7_logicPair_8 ?_
  obtain ⟨r1, S1, h1, hs⟩ := bd_e hs
  refine kX7_sizeOf C tM_X7_211 ⟨Nat.le_of_ble_eq_true rfl, Nat.le_of_ble_eq_true rfl⟩ ⟨Nat.le_of_ble_eq_true rfl, Nat.le_of_ble_eq_true rfl⟩ hK hP hS hl.1 (rest := []) (Nat.le_of_ble_eq_true rfl) dX7_logicPair_9 h1 (fun H locs hP hS => ?_)
  refine lv_istore_n (lv' := [(2, .int r1), (0, .ref (ad 0)), (1, .int x1)]) hx hb dX7_logicPair_12 rfl hl (by decide) rfl (fun ls hl => ?_)
  refine lv_aload_n hx hb dX7_logicPair_13 rfl (lv_at hl 1 rfl) ?_
  refine gM_X7_op hx hb hT hown hK hP (hT _ tF_X7_174) dX7_logicPair_14 ?_
  refine lv_sipush (v := 256) hx hb dX7_logicPair_17 (by decide) ?_
  refine lv_iand hx hb dX7_logicPair_20 ?_
  refine jn_e hs (fun K1 => ∀ (b1 : Bool) (H : Heap) (locs : List Loc) (ls : Array Slot), lv_has ls 6 [(2, .int r1), (0, .ref (ad 0)), (1, .int x1)] → va_P D vwCl (wM ad cI cB S1) H → va_S (AX 11 ad s.heap.size) s.heap H locs → K1 b1 = some (ro, So) → W p l e rmX7_logicPair s m ([.ref (ad 0), .int x1] : List Value).toArray below meth c H locs 0 0 (MQ below (uQ D (wM ad cI cB) (some (.int (zI ro)), So) (AX 11 ad s.heap.size)) ([.ref (ad 0), .int x1] : List Value).toArray s 0 0 (AX 11 ad s.heap.size)) (F0 m 29 ls [.int (zI b1)])) ?_ (fun K1 J1 hs => ?_)
  · intro b1 H locs ls hl hP hS hs
    refine lv_istore_n (lv' := [(3, .int (zI b1)), (2, .int r1), (0, .ref (ad 0)), (1, .int x1)]) hx hb dX7_logicPair_29 rfl hl (by decide) rfl (fun ls hl => ?_)
    refine lv_aload_n hx hb dX7_logicPair_30 rfl (lv_at hl 2 rfl) ?_
    refine gM_X7_op hx hb hT hown hK hP (hT _ tF_X7_174) dX7_logicPair_31 ?_
    refine lv_bipush (v := 9) hx hb dX7_logicPair_34 (by decide) ?_
    refine lv_ishr hx hb dX7_logicPair_36 ?_
    refine lv_bipush (v := 7) hx hb dX7_logicPair_37 (by decide) ?_
    refine lv_iand hx hb dX7_logicPair_39 ?_
    obtain ⟨v1, h2, hs⟩ := lt_e hs
    refine u_top h2 ?_
    refine lv_istore (lv' := [(4, .int v1), (3, .int (zI b1)), (2, .int r1), (0, .ref (ad 0)), (1, .int x1)]) hx hb dX7_logicPair_40 hl (by decide) rfl (fun ls hl => ?_)
    refine lv_aload_n hx hb dX7_logicPair_42 rfl (lv_at hl 3 rfl) ?_
    refine gM_X7_op hx hb hT hown hK hP (hT _ tF_X7_174) dX7_logicPair_43 ?_
    refine lv_bipush (v := 63) hx hb dX7_logicPair_46 (by decide) ?_
    refine lv_iand hx hb dX7_logicPair_48 ?_
    refine lv_iload_n hx hb dX7_logicPair_49 rfl (lv_at hl 4 rfl) ?_
    refine lv_iconst (v := 2) hx hb dX7_logicPair_50 (by decide) ?_
    refine jn_e hs (fun K2 => ∀ (v2 : Int32) (H : Heap) (locs : List Loc) (ls : Array Slot), lv_has ls 6 [(4, .int v1), (3, .int (zI b1)), (2, .int r1), (0, .ref (ad 0)), (1, .int x1)] → va_P D vwCl (wM ad cI cB S1) H → va_S (AX 11 ad s.heap.size) s.heap H locs → K2 v2 = some (ro, So) → W p l e rmX7_logicPair s m ([.ref (ad 0), .int x1] : List Value).toArray below meth c H locs 0 0 (MQ below (uQ D (wM ad cI cB) (some (.int (zI ro)), So) (AX 11 ad s.heap.size)) ([.ref (ad 0), .int x1] : List Value).toArray s 0 0 (AX 11 ad s.heap.size)) (F0 m 67 ls [.int v2, .int ((S1.1 5) &&& 63)])) ?_ (fun K2 J2 hs => ?_)
    · intro v2 H locs ls hl hP hS hs
      refine lv_iload_n hx hb dX7_logicPair_67 rfl (lv_at hl 2 rfl) ?_
      obtain ⟨b2, S2, h3, hs⟩ := bd_e hs
      refine kX7_fits C tM_X7_188 ⟨Nat.le_of_ble_eq_true rfl, Nat.le_of_ble_eq_true rfl⟩ ⟨Nat.le_of_ble_eq_true rfl, Nat.le_of_ble_eq_true rfl⟩ hK hP hS hl.1 (rest := []) (Nat.le_of_ble_eq_true rfl) dX7_logicPair_68 h3 (fun H locs hP hS => ?_)
      refine lv_if_ne (tgt := 76) hx hb dX7_logicPair_71 (by decide) (fun c1 => ?_) (fun c1 => ?_)
      · have hs := if_f c1 hs
        refine lv_aload_n hx hb dX7_logicPair_76 rfl (lv_at hl 3 rfl) ?_
        refine lv_aload_n hx hb dX7_logicPair_77 rfl (lv_at hl 3 rfl) ?_
        refine gM_X7_op hx hb hT hown hK hP (hT _ tF_X7_174) dX7_logicPair_78 ?_
        refine lv_bipush (v := 63) hx hb dX7_logicPair_81 (by decide) ?_
        refine lv_iand hx hb dX7_logicPair_83 ?_
        refine lv_iload_n hx hb dX7_logicPair_84 rfl (lv_at hl 2 rfl) ?_
        obtain ⟨S3, h4, hs⟩ := bv_e hs
        refine kX7_operand C tM_X7_192 ⟨Nat.le_of_ble_eq_true rfl, Nat.le_of_ble_eq_true rfl⟩ ⟨Nat.le_of_ble_eq_true rfl, Nat.le_of_ble_eq_true rfl⟩ hK hP hS hl.1 (rest := []) (Nat.le_of_ble_eq_true rfl) dX7_logicPair_85 h4 (fun H locs hP hS => ?_)
        refine lv_iload_n hx hb dX7_logicPair_88 rfl (lv_at hl 4 rfl) ?_
        refine lv_aload_n hx hb dX7_logicPair_89 rfl (lv_at hl 3 rfl) ?_
        refine lv_iload_n hx hb dX7_logicPair_90 rfl (lv_at hl 2 rfl) ?_
        obtain ⟨r2, S4, h5, hs⟩ := bd_e hs
        refine kX7_take C tM_X7_195 ⟨Nat.le_of_ble_eq_true rfl, Nat.le_of_ble_eq_true rfl⟩ ⟨Nat.le_of_ble_eq_true rfl, Nat.le_of_ble_eq_true rfl⟩ hK hP hS hl.1 (rest := [.int x1]) (Nat.le_of_ble_eq_true rfl) dX7_logicPair_91 h5 (fun H locs hP hS => ?_)
        refine lv_aload_n hx hb dX7_logicPair_94 rfl (lv_at hl 3 rfl) ?_
        refine gM_X7_d hx hb hT hown hK hP (hT _ tF_X7_13) dX7_logicPair_95 ?_
        refine lv_iload hx hb dX7_logicPair_98 (lv_at hl 0 rfl) ?_
        obtain ⟨h6, hs⟩ := gd_e hs
        refine lM_d hx hb hK hP (ixo_in h6) dX7_logicPair_100 ?_
        obtain ⟨r3, S5, h7, hs⟩ := bd_e hs
        refine kX7_mixed C tM_X7_181 ⟨Nat.le_of_ble_eq_true rfl, Nat.le_of_ble_eq_true rfl⟩ ⟨Nat.le_of_ble_eq_true rfl, Nat.le_of_ble_eq_true rfl⟩ hK hP hS hl.1 (rest := []) (Nat.le_of_ble_eq_true rfl) dX7_logicPair_101 h7 (fun H locs hP hS => ?_)
        refine lv_istore (lv' := [(5, .int r3), (4, .int v1), (3, .int (zI b1)), (2, .int r1), (0, .ref (ad 0)), (1, .int x1)]) hx hb dX7_logicPair_104 hl (by decide) rfl (fun ls hl => ?_)
        refine lv_aload_n hx hb dX7_logicPair_106 rfl (lv_at hl 4 rfl) ?_
        refine lv_iload hx hb dX7_logicPair_107 (lv_at hl 0 rfl) ?_
        refine lv_iload_n hx hb dX7_logicPair_109 rfl (lv_at hl 3 rfl) ?_
        obtain ⟨S6, h8, hs⟩ := bv_e hs
        refine kX7_logic C tM_X7_214 ⟨Nat.le_of_ble_eq_true rfl, Nat.le_of_ble_eq_true rfl⟩ ⟨Nat.le_of_ble_eq_true rfl, Nat.le_of_ble_eq_true rfl⟩ hK hP hS hl.1 (rest := []) (Nat.le_of_ble_eq_true rfl) dX7_logicPair_110 h8 (fun H locs hP hS => ?_)
        refine lv_iload_n hx hb dX7_logicPair_113 rfl (lv_at hl 2 rfl) ?_
        refine lv_if_eq (tgt := 127) hx hb dX7_logicPair_114 (by decide) (fun c2 => ?_) (fun c2 => ?_)
        · have hs := if_t c2 hs
          refine lv_aload_n hx hb dX7_logicPair_127 rfl (lv_at hl 4 rfl) ?_
          refine gM_X7_trouble hx hb hT hown hK hP (hT _ tF_X7_100) dX7_logicPair_128 ?_
          refine lv_if_ne (tgt := 154) hx hb dX7_logicPair_131 (by decide) (fun c3 => ?_) (fun c3 => ?_)
          · have hs := if_f c3 hs
            refine lv_iconst (v := 1) hx hb dX7_logicPair_154 (by decide) ?_
            exact u_zret (v := true) hx hb hr hlocks hP hS hs dX7_logicPair_155
          · have hs := if_t c3 hs
            refine lv_aload_n hx hb dX7_logicPair_134 rfl (lv_at hl 4 rfl) ?_
            refine gM_X7_d hx hb hT hown hK hP (hT _ tF_X7_13) dX7_logicPair_135 ?_
            refine lv_iload hx hb dX7_logicPair_138 (lv_at hl 1 rfl) ?_
            refine lv_aload_n hx hb dX7_logicPair_140 rfl (lv_at hl 4 rfl) ?_
            refine gM_X7_d hx hb hT hown hK hP (hT _ tF_X7_13) dX7_logicPair_141 ?_
            refine lv_iload hx hb dX7_logicPair_144 (lv_at hl 1 rfl) ?_
            obtain ⟨h9, hs⟩ := gd_e hs
            refine lM_d hx hb hK hP (ixo_in h9) dX7_logicPair_146 ?_
            refine lv_iload hx hb dX7_logicPair_147 (lv_at hl 0 rfl) ?_
            refine lv_iload_n hx hb dX7_logicPair_149 rfl (lv_at hl 3 rfl) ?_
            obtain ⟨r4, S7, h10, hs⟩ := bd_e hs
            refine kX7_joined C tM_X7_150 ⟨Nat.le_of_ble_eq_true rfl, Nat.le_of_ble_eq_true rfl⟩ ⟨Nat.le_of_ble_eq_true rfl, Nat.le_of_ble_eq_true rfl⟩ hK hP hS hl.1 (rest := [.int v1, .ref (ad 2)]) (Nat.le_of_ble_eq_true rfl) dX7_logicPair_150 h10 (fun H locs hP hS => ?_)
            obtain ⟨h11, hs⟩ := gd_e hs
            obtain ⟨S8, h12, hs⟩ := lt_e hs
            refine sM_d hx hb hK hP hS (v := r4) (ixo_in h11) dX7_logicPair_153 h12 (fun H locs hP hS => ?_)
            refine lv_iconst (v := 1) hx hb dX7_logicPair_154 (by decide) ?_
            exact u_zret (v := true) hx hb hr hlocks hP hS hs dX7_logicPair_155
        · have hs := if_f c2 hs
          refine lv_aload_n hx hb dX7_logicPair_117 rfl (lv_at hl 4 rfl) ?_
          refine lv_iload hx hb dX7_logicPair_118 (lv_at hl 0 rfl) ?_
          refine lv_iload_n hx hb dX7_logicPair_120 rfl (lv_at hl 3 rfl) ?_
          obtain ⟨S9, h13, hs⟩ := bv_e hs
          refine kX7_give C tM_X7_198 ⟨Nat.le_of_ble_eq_true rfl, Nat.le_of_ble_eq_true rfl⟩ ⟨Nat.le_of_ble_eq_true rfl, Nat.le_of_ble_eq_true rfl⟩ hK hP hS hl.1 (rest := []) (Nat.le_of_ble_eq_true rfl) dX7_logicPair_121 h13 (fun H locs hP hS => ?_)
          refine lv_goto (tgt := 154) hx hb dX7_logicPair_124 (by decide) ?_
          refine lv_iconst (v := 1) hx hb dX7_logicPair_154 (by decide) ?_
          exact u_zret (v := true) hx hb hr hlocks hP hS hs dX7_logicPair_155
      · have hs := if_t c1 hs
        refine lv_iconst (v := 0) hx hb dX7_logicPair_74 (by decide) ?_
        exact u_zret (v := false) hx hb hr hlocks hP hS hs dX7_logicPair_75
    ·
      refine lv_icmp_ne (tgt := 58) hx hb dX7_logicPair_51 (by decide) (fun c4 => ?_) (fun c4 => ?_)
      · have hs := if_f c4 hs
        refine lv_iload_n hx hb dX7_logicPair_58 rfl (lv_at hl 1 rfl) ?_
        refine lv_if_eq (tgt := 66) hx hb dX7_logicPair_59 (by decide) (fun c5 => ?_) (fun c5 => ?_)
        · have hs := if_t c5 hs
          refine lv_iconst (v := 1) hx hb dX7_logicPair_66 (by decide) ?_
          exact J2 1 _ _ _ (lv_sub hl [0, 1, 2, 3, 4] rfl) hP hS hs
        · have hs := if_f c5 hs
          refine lv_iconst (v := 2) hx hb dX7_logicPair_62 (by decide) ?_
          refine lv_goto (tgt := 67) hx hb dX7_logicPair_63 (by decide) ?_
          exact J2 2 _ _ _ (lv_sub hl [0, 1, 2, 3, 4] rfl) hP hS hs
      · have hs := if_t c4 hs
        refine lv_iconst (v := 4) hx hb dX7_logicPair_54 (by decide) ?_
        refine lv_goto (tgt := 67) hx hb dX7_logicPair_55 (by decide) ?_
        exact J2 4 _ _ _ (lv_sub hl [0, 1, 2, 3, 4] rfl) hP hS hs
  ·
    refine lv_if_eq (tgt := 28) hx hb dX7_logicPair_21 (by decide) (fun c6 => ?_) (fun c6 => ?_)
    · have hs := if_t c6 hs
      refine lv_iconst (v := 0) hx hb dX7_logicPair_28 (by decide) ?_
      exact J1 false _ _ _ (lv_sub hl [0, 1, 2] rfl) hP hS hs
    · have hs := if_f c6 hs
      refine lv_iconst (v := 1) hx hb dX7_logicPair_24 (by decide) ?_
      refine lv_goto (tgt := 29) hx hb dX7_logicPair_25 (by decide) ?_
      exact J1 true _ _ _ (lv_sub hl [0, 1, 2] rfl) hP hS hs
theorem kX7_logicPair {p : Program} {l : Launch} {e : Env} {R : Room} {s : State} {m : MethodId} {args : Array Value} {below : List Frame} {meth : Method} {c : Code} {H : Heap} {locs : List Loc} {cells slots : Nat} {Q : State → Prop} {cc : ByteArray} {pc nL : Nat} {ls : Array Slot} {rest : List Value} {D : va_G} {ad : Nat → Nat} {cI cB : ClassId} {en : Nat → Nat} {S : St} {own : String} {index : Nat} {x1 : Int32} {ro : Bool} {So : St} (C : CallFix p m c cc nL s args wG own) (hlk : Cond.methodLink own index yX7_logicPair ∈ wG) (hR : rmX7_logicPair.frames + 1 ≤ R.frames ∧ 8 + (6 + 11) + rmX7_logicPair.locals ≤ R.locals) (hc : cells ≤ R.cells ∧ slots ≤ R.slots) (hK : KM D ad cI cB en s) (hP : va_P D vwCl (wM ad cI cB S) H) (hS : va_S (AX 11 ad s.heap.size) s.heap H locs) (hls : ls.size = nL) (hrest : (rest.map fun v => v.category).sum ≤ 8) (hd : decode cc pc = .ok (.invokevirtual index, 3)) (hs : fX7_logicPair x1 S = some (ro, So)) (k : ∀ (H : Heap) (locs : List Loc), va_P D vwCl (wM ad cI cB So) H → va_S (AX 11 ad s.heap.size) s.heap H locs → W p l e R s m args below meth c H locs cells slots Q (F0 m (pc + 3) ls (.int (zI ro) :: rest))) : W p l e R s m args below meth c H locs cells slots Q (F0 m pc ls (.int x1 :: .ref (ad 0) :: rest)) :=
  u_callV (n := 1) (mX7_logicPair l D ad cI cB en S x1 ro So hs) C uK_M (wg_V hlk tI_X7_logicPair tS_X7_logicPair tN_X7 tK_X7_logicPair) rfl rfl rfl (by decide +kernel) hR rfl (va_recv hK.1 hP (ci := 6) (q0 := 0) rfl rfl) hK hP hS hls hrest hd hc rfl k
def fX7_group8or12 (z1 : Bool) (S : St) : Option (Bool × St) :=
    (lt ((((S.1 5) >>> ((6 : Int32) &&& 31)) &&& 3) : Int32) fun v1 => (jn (fun (b1 : Bool) => (if v1 = 3 then (if (zI z1) = 0 then (bd (fX7_divide b1 S) fun b20 S46 => (some (b20, S46)))
    else (bd (fX7_multiply b1 S) fun b21 S47 => (some (b21, S47))))
    else (if (zI b1) = 0 then (lt (((S.1 5) &&& 504) : Int32) fun v2 => (lt ((((S.1 5) >>> ((9 : Int32) &&& 31)) &&& 7) : Int32) fun v3 => (lt (((S.1 5) &&& 7) : Int32) fun v4 => (if (zI z1) = 0 then (if (zI z1) = 0 then (jn (fun (b2 : Bool) => (bd (fX7_logicPair (zI b2) S) fun b3 S1 => (some (b3, S1)))) fun K2 =>
    (if (zI z1) = 0 then (K2 false)
    else (K2 true)))
    else (if v2 = 328 then (bd (fX7_getA v3 S) fun r1 S3 => (bd (fX7_getA v4 S3) fun r2 S4 => (bv (fX7_setA v3 r2 S4) fun S5 => (bv (fX7_setA v4 r1 S5) fun S6 => (some (true, S6))))))
    else (jn (fun (b4 : Bool) => (bd (fX7_logicPair (zI b4) S) fun b5 S2 => (some (b5, S2)))) fun K3 =>
    (if (zI z1) = 0 then (K3 false)
    else (K3 true)))))
    else (if v2 = 320 then (gd (ixo v3 8 = true) (lt ((S.2.2 1 v3.toNatClampNeg) : Int32) fun v5 => (jn (fun (v6 : Int32) (S7 : St) => (gd (ixo v3 8 = true) (lt (sA S7 1 v3.toNatClampNeg v6) fun S8 => (if v2 = 320 then (gd (ixo v4 8 = true) (lt (sA S8 1 v4.toNatClampNeg v5) fun S10 => (some (true, S10))))
    else (bv (fX7_setA v4 v5 S8) fun S9 => (some (true, S9))))))) fun K4 =>
    (if v2 = 320 then (gd (ixo v4 8 = true) (K4 (S.2.2 1 v4.toNatClampNeg) S))
    else (bd (fX7_getA v4 S) fun r3 S11 => (K4 r3 S11))))))
    else (if v2 = 392 then (gd (ixo v3 8 = true) (lt ((S.2.2 1 v3.toNatClampNeg) : Int32) fun v7 => (jn (fun (v8 : Int32) (S18 : St) => (gd (ixo v3 8 = true) (lt (sA S18 1 v3.toNatClampNeg v8) fun S19 => (if v2 = 320 then (gd (ixo v4 8 = true) (lt (sA S19 1 v4.toNatClampNeg v7) fun S21 => (some (true, S21))))
    else (bv (fX7_setA v4 v7 S19) fun S20 => (some (true, S20))))))) fun K7 =>
    (if v2 = 320 then (gd (ixo v4 8 = true) (K7 (S.2.2 1 v4.toNatClampNeg) S))
    else (bd (fX7_getA v4 S) fun r6 S22 => (K7 r6 S22))))))
    else (if (zI z1) = 0 then (jn (fun (b6 : Bool) => (bd (fX7_logicPair (zI b6) S) fun b7 S12 => (some (b7, S12)))) fun K5 =>
    (if (zI z1) = 0 then (K5 false)
    else (K5 true)))
    else (if v2 = 328 then (bd (fX7_getA v3 S) fun r4 S14 => (bd (fX7_getA v4 S14) fun r5 S15 => (bv (fX7_setA v3 r5 S15) fun S16 => (bv (fX7_setA v4 r4 S16) fun S17 => (some (true, S17))))))
    else (jn (fun (b8 : Bool) => (bd (fX7_logicPair (zI b8) S) fun b9 S13 => (some (b9, S13)))) fun K6 =>
    (if (zI z1) = 0 then (K6 false)
    else (K6 true)))))))))))
    else (if ((S.1 5) &&& 240) = 0 then (jn (fun (b18 : Bool) => (bd (fX7_decimal b18 S) fun b19 S45 => (some (b19, S45)))) fun K14 =>
    (if (zI z1) = 0 then (K14 true)
    else (K14 false)))
    else (lt (((S.1 5) &&& 504) : Int32) fun v9 => (lt ((((S.1 5) >>> ((9 : Int32) &&& 31)) &&& 7) : Int32) fun v10 => (lt (((S.1 5) &&& 7) : Int32) fun v11 => (if (zI z1) = 0 then (if (zI z1) = 0 then (jn (fun (b10 : Bool) => (bd (fX7_logicPair (zI b10) S) fun b11 S23 => (some (b11, S23)))) fun K8 =>
    (if (zI z1) = 0 then (K8 false)
    else (K8 true)))
    else (if v9 = 328 then (bd (fX7_getA v10 S) fun r7 S25 => (bd (fX7_getA v11 S25) fun r8 S26 => (bv (fX7_setA v10 r8 S26) fun S27 => (bv (fX7_setA v11 r7 S27) fun S28 => (some (true, S28))))))
    else (jn (fun (b12 : Bool) => (bd (fX7_logicPair (zI b12) S) fun b13 S24 => (some (b13, S24)))) fun K9 =>
    (if (zI z1) = 0 then (K9 false)
    else (K9 true)))))
    else (if v9 = 320 then (gd (ixo v10 8 = true) (lt ((S.2.2 1 v10.toNatClampNeg) : Int32) fun v12 => (jn (fun (v13 : Int32) (S29 : St) => (gd (ixo v10 8 = true) (lt (sA S29 1 v10.toNatClampNeg v13) fun S30 => (if v9 = 320 then (gd (ixo v11 8 = true) (lt (sA S30 1 v11.toNatClampNeg v12) fun S32 => (some (true, S32))))
    else (bv (fX7_setA v11 v12 S30) fun S31 => (some (true, S31))))))) fun K10 =>
    (if v9 = 320 then (gd (ixo v11 8 = true) (K10 (S.2.2 1 v11.toNatClampNeg) S))
    else (bd (fX7_getA v11 S) fun r9 S33 => (K10 r9 S33))))))
    else (if v9 = 392 then (gd (ixo v10 8 = true) (lt ((S.2.2 1 v10.toNatClampNeg) : Int32) fun v14 => (jn (fun (v15 : Int32) (S40 : St) => (gd (ixo v10 8 = true) (lt (sA S40 1 v10.toNatClampNeg v15) fun S41 => (if v9 = 320 then (gd (ixo v11 8 = true) (lt (sA S41 1 v11.toNatClampNeg v14) fun S43 => (some (true, S43))))
    else (bv (fX7_setA v11 v14 S41) fun S42 => (some (true, S42))))))) fun K13 =>
    (if v9 = 320 then (gd (ixo v11 8 = true) (K13 (S.2.2 1 v11.toNatClampNeg) S))
    else (bd (fX7_getA v11 S) fun r12 S44 => (K13 r12 S44))))))
    else (if (zI z1) = 0 then (jn (fun (b14 : Bool) => (bd (fX7_logicPair (zI b14) S) fun b15 S34 => (some (b15, S34)))) fun K11 =>
    (if (zI z1) = 0 then (K11 false)
    else (K11 true)))
    else (if v9 = 328 then (bd (fX7_getA v10 S) fun r10 S36 => (bd (fX7_getA v11 S36) fun r11 S37 => (bv (fX7_setA v10 r11 S37) fun S38 => (bv (fX7_setA v11 r10 S38) fun S39 => (some (true, S39))))))
    else (jn (fun (b16 : Bool) => (bd (fX7_logicPair (zI b16) S) fun b17 S35 => (some (b17, S35)))) fun K12 =>
    (if (zI z1) = 0 then (K12 false)
    else (K12 true))))))))))))))) fun K1 =>
    (if ((S.1 5) &&& 256) = 0 then (K1 false)
    else (K1 true))))
abbrev rmX7_group8or12 : Room := { frames := 8, cells := 0, slots := 0, locals := 184 }
set_option maxRecDepth 100000 in
set_option maxHeartbeats 4000000 in
theorem mX7_group8or12 (l : Launch) (D : va_G) (ad : Nat → Nat) (cI cB : ClassId) (en : Nat → Nat) (S : St) (z1 : Bool) (ro : Bool) (So : St) (hs : fX7_group8or12 z1 S = some (ro, So)) : uM l yX7_group8or12 (wg yX7_group8or12 cX7_group8or12 8 (some .boolean)) rmX7_group8or12 (KM D ad cI cB en) D (wM ad cI cB) (AX 11 ad) [.ref (ad 0), .int (zI z1)] S (some (.int (zI ro)), So) := by
  refine uM_start (by decide) rfl ?_
  intro p e s m below meth c hx hb hr hlocks hml hown hts hK hP
  have hT : ∀ w ∈ wG, w.before _ s = true := fun w h => hts w (List.mem_cons_of_mem _ h)
  have hS : va_S (AX 11 ad s.heap.size) s.heap s.heap [] := va_S.rf
  have hown : s.vm.findClass RX7 = some m.cls := hown
  have C : CallFix p m c cX7_group8or12 8 s _ wG RX7 := ⟨hx, hb, hml, hown, hT⟩
  have hl := lv_entry ([.ref (ad 0), .int (zI z1)]) (n := 8) (Nat.le_of_ble_eq_true rfl)
  rw [lg_entry_eq]
  generalize (lg_sl ([.ref (ad 0), .int (zI z1)]) ++ List.replicate (8 - (lg_sl ([.ref (ad 0), .int (zI z1)])).length) Slot.unset).toArray = ls at hl ⊢
  have hl : lv_has ls 8 [(0, .ref (ad 0)), (1, .int (zI z1))] := hl
  unfold fX7_group8or12 at hs
  refine lv_aload_n hx hb dX7_group8or12_0 rfl (lv_at hl 0 rfl) ?_
  refine gM_X7_op hx hb hT hown hK hP (hT _ tF_X7_174) dX7_group8or12_1 ?_
  refine lv_bipush (v := 6) hx hb dX7_group8or12_4 (by decide) ?_
  refine lv_ishr hx hb dX7_group8or12_6 ?_
  refine lv_iconst (v := 3) hx hb dX7_group8or12_7 (by decide) ?_
  refine lv_iand hx hb dX7_group8or12_8 ?_
  obtain ⟨v1, h1, hs⟩ := lt_e hs
  refine u_top h1 ?_
  refine lv_istore_n (lv' := [(2, .int v1), (0, .ref (ad 0)), (1, .int (zI z1))]) hx hb dX7_group8or12_9 rfl hl (by decide) rfl (fun ls hl => ?_)
  refine lv_aload_n hx hb dX7_group8or12_10 rfl (lv_at hl 1 rfl) ?_
  refine gM_X7_op hx hb hT hown hK hP (hT _ tF_X7_174) dX7_group8or12_11 ?_
  refine lv_sipush (v := 256) hx hb dX7_group8or12_14 (by decide) ?_
  refine lv_iand hx hb dX7_group8or12_17 ?_
  refine jn_e hs (fun K1 => ∀ (b1 : Bool) (H : Heap) (locs : List Loc) (ls : Array Slot), lv_has ls 8 [(2, .int v1), (0, .ref (ad 0)), (1, .int (zI z1))] → va_P D vwCl (wM ad cI cB S) H → va_S (AX 11 ad s.heap.size) s.heap H locs → K1 b1 = some (ro, So) → W p l e rmX7_group8or12 s m ([.ref (ad 0), .int (zI z1)] : List Value).toArray below meth c H locs 0 0 (MQ below (uQ D (wM ad cI cB) (some (.int (zI ro)), So) (AX 11 ad s.heap.size)) ([.ref (ad 0), .int (zI z1)] : List Value).toArray s 0 0 (AX 11 ad s.heap.size)) (F0 m 26 ls [.int (zI b1)])) ?_ (fun K1 J1 hs => ?_)
  · intro b1 H locs ls hl hP hS hs
    refine lv_istore_n (lv' := [(3, .int (zI b1)), (2, .int v1), (0, .ref (ad 0)), (1, .int (zI z1))]) hx hb dX7_group8or12_26 rfl hl (by decide) rfl (fun ls hl => ?_)
    refine lv_iload_n hx hb dX7_group8or12_27 rfl (lv_at hl 1 rfl) ?_
    refine lv_iconst (v := 3) hx hb dX7_group8or12_28 (by decide) ?_
    refine lv_icmp_ne (tgt := 50) hx hb dX7_group8or12_29 (by decide) (fun c1 => ?_) (fun c1 => ?_)
    · have hs := if_f c1 hs
      refine lv_iload_n hx hb dX7_group8or12_50 rfl (lv_at hl 0 rfl) ?_
      refine lv_if_eq (tgt := 79) hx hb dX7_group8or12_51 (by decide) (fun c2 => ?_) (fun c2 => ?_)
      · have hs := if_t c2 hs
        refine lv_aload_n hx hb dX7_group8or12_79 rfl (lv_at hl 2 rfl) ?_
        refine gM_X7_op hx hb hT hown hK hP (hT _ tF_X7_174) dX7_group8or12_80 ?_
        refine lv_sipush (v := 504) hx hb dX7_group8or12_83 (by decide) ?_
        refine lv_iand hx hb dX7_group8or12_86 ?_
        obtain ⟨v2, h2, hs⟩ := lt_e hs
        refine u_top h2 ?_
        refine lv_istore (lv' := [(4, .int v2), (3, .int (zI b1)), (2, .int v1), (0, .ref (ad 0)), (1, .int (zI z1))]) hx hb dX7_group8or12_87 hl (by decide) rfl (fun ls hl => ?_)
        refine lv_aload_n hx hb dX7_group8or12_89 rfl (lv_at hl 3 rfl) ?_
        refine gM_X7_op hx hb hT hown hK hP (hT _ tF_X7_174) dX7_group8or12_90 ?_
        refine lv_bipush (v := 9) hx hb dX7_group8or12_93 (by decide) ?_
        refine lv_ishr hx hb dX7_group8or12_95 ?_
        refine lv_bipush (v := 7) hx hb dX7_group8or12_96 (by decide) ?_
        refine lv_iand hx hb dX7_group8or12_98 ?_
        obtain ⟨v3, h3, hs⟩ := lt_e hs
        refine u_top h3 ?_
        refine lv_istore (lv' := [(5, .int v3), (4, .int v2), (3, .int (zI b1)), (2, .int v1), (0, .ref (ad 0)), (1, .int (zI z1))]) hx hb dX7_group8or12_99 hl (by decide) rfl (fun ls hl => ?_)
        refine lv_aload_n hx hb dX7_group8or12_101 rfl (lv_at hl 4 rfl) ?_
        refine gM_X7_op hx hb hT hown hK hP (hT _ tF_X7_174) dX7_group8or12_102 ?_
        refine lv_bipush (v := 7) hx hb dX7_group8or12_105 (by decide) ?_
        refine lv_iand hx hb dX7_group8or12_107 ?_
        obtain ⟨v4, h4, hs⟩ := lt_e hs
        refine u_top h4 ?_
        refine lv_istore (lv' := [(6, .int v4), (5, .int v3), (4, .int v2), (3, .int (zI b1)), (2, .int v1), (0, .ref (ad 0)), (1, .int (zI z1))]) hx hb dX7_group8or12_108 hl (by decide) rfl (fun ls hl => ?_)
        refine lv_iload_n hx hb dX7_group8or12_110 rfl (lv_at hl 6 rfl) ?_
        refine lv_if_eq (tgt := 200) hx hb dX7_group8or12_111 (by decide) (fun c3 => ?_) (fun c3 => ?_)
        · have hs := if_t c3 hs
          refine lv_iload_n hx hb dX7_group8or12_200 rfl (lv_at hl 6 rfl) ?_
          refine lv_if_eq (tgt := 242) hx hb dX7_group8or12_201 (by decide) (fun c4 => ?_) (fun c4 => ?_)
          · have hs := if_t c4 hs
            refine lv_aload_n hx hb dX7_group8or12_242 rfl (lv_at hl 5 rfl) ?_
            refine lv_iload_n hx hb dX7_group8or12_243 rfl (lv_at hl 6 rfl) ?_
            refine jn_e hs (fun K2 => ∀ (b2 : Bool) (H : Heap) (locs : List Loc) (ls : Array Slot), lv_has ls 8 [] → va_P D vwCl (wM ad cI cB S) H → va_S (AX 11 ad s.heap.size) s.heap H locs → K2 b2 = some (ro, So) → W p l e rmX7_group8or12 s m ([.ref (ad 0), .int (zI z1)] : List Value).toArray below meth c H locs 0 0 (MQ below (uQ D (wM ad cI cB) (some (.int (zI ro)), So) (AX 11 ad s.heap.size)) ([.ref (ad 0), .int (zI z1)] : List Value).toArray s 0 0 (AX 11 ad s.heap.size)) (F0 m 252 ls [.int (zI b2), .ref (ad 0)])) ?_ (fun K2 J2 hs => ?_)
            · intro b2 H locs ls hl hP hS hs
              obtain ⟨b3, S1, h5, hs⟩ := bd_e hs
              refine kX7_logicPair C tM_X7_291 ⟨Nat.le_of_ble_eq_true rfl, Nat.le_of_ble_eq_true rfl⟩ ⟨Nat.le_of_ble_eq_true rfl, Nat.le_of_ble_eq_true rfl⟩ hK hP hS hl.1 (rest := []) (Nat.le_of_ble_eq_true rfl) dX7_group8or12_252 h5 (fun H locs hP hS => ?_)
              exact u_zret (v := b3) hx hb hr hlocks hP hS hs dX7_group8or12_255
            ·
              refine lv_if_eq (tgt := 251) hx hb dX7_group8or12_244 (by decide) (fun c5 => ?_) (fun c5 => ?_)
              · have hs := if_t c5 hs
                refine lv_iconst (v := 0) hx hb dX7_group8or12_251 (by decide) ?_
                exact J2 false _ _ _ (lv_sub hl [] rfl) hP hS hs
              · have hs := if_f c5 hs
                refine lv_iconst (v := 1) hx hb dX7_group8or12_247 (by decide) ?_
                refine lv_goto (tgt := 252) hx hb dX7_group8or12_248 (by decide) ?_
                exact J2 true _ _ _ (lv_sub hl [] rfl) hP hS hs
          · have hs := if_f c4 hs
            refine lv_iload hx hb dX7_group8or12_204 (lv_at hl 2 rfl) ?_
            refine lv_sipush (v := 328) hx hb dX7_group8or12_206 (by decide) ?_
            refine lv_icmp_ne (tgt := 242) hx hb dX7_group8or12_209 (by decide) (fun c6 => ?_) (fun c6 => ?_)
            · have hs := if_f c6 hs
              refine lv_aload_n hx hb dX7_group8or12_242 rfl (lv_at hl 5 rfl) ?_
              refine lv_iload_n hx hb dX7_group8or12_243 rfl (lv_at hl 6 rfl) ?_
              refine jn_e hs (fun K3 => ∀ (b4 : Bool) (H : Heap) (locs : List Loc) (ls : Array Slot), lv_has ls 8 [] → va_P D vwCl (wM ad cI cB S) H → va_S (AX 11 ad s.heap.size) s.heap H locs → K3 b4 = some (ro, So) → W p l e rmX7_group8or12 s m ([.ref (ad 0), .int (zI z1)] : List Value).toArray below meth c H locs 0 0 (MQ below (uQ D (wM ad cI cB) (some (.int (zI ro)), So) (AX 11 ad s.heap.size)) ([.ref (ad 0), .int (zI z1)] : List Value).toArray s 0 0 (AX 11 ad s.heap.size)) (F0 m 252 ls [.int (zI b4), .ref (ad 0)])) ?_ (fun K3 J3 hs => ?_)
              · intro b4 H locs ls hl hP hS hs
                obtain ⟨b5, S2, h6, hs⟩ := bd_e hs
                refine kX7_logicPair C tM_X7_291 ⟨Nat.le_of_ble_eq_true rfl, Nat.le_of_ble_eq_true rfl⟩ ⟨Nat.le_of_ble_eq_true rfl, Nat.le_of_ble_eq_true rfl⟩ hK hP hS hl.1 (rest := []) (Nat.le_of_ble_eq_true rfl) dX7_group8or12_252 h6 (fun H locs hP hS => ?_)
                exact u_zret (v := b5) hx hb hr hlocks hP hS hs dX7_group8or12_255
              ·
                refine lv_if_eq (tgt := 251) hx hb dX7_group8or12_244 (by decide) (fun c7 => ?_) (fun c7 => ?_)
                · have hs := if_t c7 hs
                  refine lv_iconst (v := 0) hx hb dX7_group8or12_251 (by decide) ?_
                  exact J3 false _ _ _ (lv_sub hl [] rfl) hP hS hs
                · have hs := if_f c7 hs
                  refine lv_iconst (v := 1) hx hb dX7_group8or12_247 (by decide) ?_
                  refine lv_goto (tgt := 252) hx hb dX7_group8or12_248 (by decide) ?_
                  exact J3 true _ _ _ (lv_sub hl [] rfl) hP hS hs
            · have hs := if_t c6 hs
              refine lv_aload_n hx hb dX7_group8or12_212 rfl (lv_at hl 5 rfl) ?_
              refine lv_iload hx hb dX7_group8or12_213 (lv_at hl 1 rfl) ?_
              obtain ⟨r1, S3, h7, hs⟩ := bd_e hs
              refine kX7_getA C tM_X7_70 ⟨Nat.le_of_ble_eq_true rfl, Nat.le_of_ble_eq_true rfl⟩ ⟨Nat.le_of_ble_eq_true rfl, Nat.le_of_ble_eq_true rfl⟩ hK hP hS hl.1 (rest := []) (Nat.le_of_ble_eq_true rfl) dX7_group8or12_215 h7 (fun H locs hP hS => ?_)
              refine lv_istore (lv' := [(7, .int r1), (6, .int v4), (5, .int v3), (4, .int v2), (3, .int (zI b1)), (2, .int v1), (0, .ref (ad 0)), (1, .int (zI z1))]) hx hb dX7_group8or12_218 hl (by decide) rfl (fun ls hl => ?_)
              refine lv_aload_n hx hb dX7_group8or12_220 rfl (lv_at hl 6 rfl) ?_
              refine lv_iload hx hb dX7_group8or12_221 (lv_at hl 2 rfl) ?_
              refine lv_aload_n hx hb dX7_group8or12_223 rfl (lv_at hl 6 rfl) ?_
              refine lv_iload hx hb dX7_group8or12_224 (lv_at hl 1 rfl) ?_
              obtain ⟨r2, S4, h8, hs⟩ := bd_e hs
              refine kX7_getA C tM_X7_70 ⟨Nat.le_of_ble_eq_true rfl, Nat.le_of_ble_eq_true rfl⟩ ⟨Nat.le_of_ble_eq_true rfl, Nat.le_of_ble_eq_true rfl⟩ hK hP hS hl.1 (rest := [.int v3, .ref (ad 0)]) (Nat.le_of_ble_eq_true rfl) dX7_group8or12_226 h8 (fun H locs hP hS => ?_)
              obtain ⟨S5, h9, hs⟩ := bv_e hs
              refine kX7_setA C tM_X7_74 ⟨Nat.le_of_ble_eq_true rfl, Nat.le_of_ble_eq_true rfl⟩ ⟨Nat.le_of_ble_eq_true rfl, Nat.le_of_ble_eq_true rfl⟩ hK hP hS hl.1 (rest := []) (Nat.le_of_ble_eq_true rfl) dX7_group8or12_229 h9 (fun H locs hP hS => ?_)
              refine lv_aload_n hx hb dX7_group8or12_232 rfl (lv_at hl 6 rfl) ?_
              refine lv_iload hx hb dX7_group8or12_233 (lv_at hl 1 rfl) ?_
              refine lv_iload hx hb dX7_group8or12_235 (lv_at hl 0 rfl) ?_
              obtain ⟨S6, h10, hs⟩ := bv_e hs
              refine kX7_setA C tM_X7_74 ⟨Nat.le_of_ble_eq_true rfl, Nat.le_of_ble_eq_true rfl⟩ ⟨Nat.le_of_ble_eq_true rfl, Nat.le_of_ble_eq_true rfl⟩ hK hP hS hl.1 (rest := []) (Nat.le_of_ble_eq_true rfl) dX7_group8or12_237 h10 (fun H locs hP hS => ?_)
              refine lv_iconst (v := 1) hx hb dX7_group8or12_240 (by decide) ?_
              exact u_zret (v := true) hx hb hr hlocks hP hS hs dX7_group8or12_241
        · have hs := if_f c3 hs
          refine lv_iload hx hb dX7_group8or12_114 (lv_at hl 2 rfl) ?_
          refine lv_sipush (v := 320) hx hb dX7_group8or12_116 (by decide) ?_
          refine lv_icmp_eq (tgt := 130) hx hb dX7_group8or12_119 (by decide) (fun c8 => ?_) (fun c8 => ?_)
          · have hs := if_t c8 hs
            refine lv_aload_n hx hb dX7_group8or12_130 rfl (lv_at hl 5 rfl) ?_
            refine gM_X7_d hx hb hT hown hK hP (hT _ tF_X7_13) dX7_group8or12_131 ?_
            refine lv_iload hx hb dX7_group8or12_134 (lv_at hl 1 rfl) ?_
            obtain ⟨h11, hs⟩ := gd_e hs
            refine lM_d hx hb hK hP (ixo_in h11) dX7_group8or12_136 ?_
            obtain ⟨v5, h12, hs⟩ := lt_e hs
            refine u_top h12 ?_
            refine lv_istore (lv' := [(7, .int v5), (6, .int v4), (5, .int v3), (4, .int v2), (3, .int (zI b1)), (2, .int v1), (0, .ref (ad 0)), (1, .int (zI z1))]) hx hb dX7_group8or12_137 hl (by decide) rfl (fun ls hl => ?_)
            refine lv_aload_n hx hb dX7_group8or12_139 rfl (lv_at hl 6 rfl) ?_
            refine gM_X7_d hx hb hT hown hK hP (hT _ tF_X7_13) dX7_group8or12_140 ?_
            refine lv_iload hx hb dX7_group8or12_143 (lv_at hl 2 rfl) ?_
            refine lv_iload hx hb dX7_group8or12_145 (lv_at hl 3 rfl) ?_
            refine lv_sipush (v := 320) hx hb dX7_group8or12_147 (by decide) ?_
            refine jn_e hs (fun K4 => ∀ (v6 : Int32) (S7 : St) (H : Heap) (locs : List Loc) (ls : Array Slot), lv_has ls 8 [(7, .int v5), (6, .int v4), (4, .int v2), (0, .ref (ad 0))] → va_P D vwCl (wM ad cI cB S7) H → va_S (AX 11 ad s.heap.size) s.heap H locs → K4 v6 S7 = some (ro, So) → W p l e rmX7_group8or12 s m ([.ref (ad 0), .int (zI z1)] : List Value).toArray below meth c H locs 0 0 (MQ below (uQ D (wM ad cI cB) (some (.int (zI ro)), So) (AX 11 ad s.heap.size)) ([.ref (ad 0), .int (zI z1)] : List Value).toArray s 0 0 (AX 11 ad s.heap.size)) (F0 m 169 ls [.int v6, .int v3, .ref (ad 2)])) ?_ (fun K4 J4 hs => ?_)
            · intro v6 S7 H locs ls hl hP hS hs
              obtain ⟨h13, hs⟩ := gd_e hs
              obtain ⟨S8, h14, hs⟩ := lt_e hs
              refine sM_d hx hb hK hP hS (v := v6) (ixo_in h13) dX7_group8or12_169 h14 (fun H locs hP hS => ?_)
              refine lv_iload hx hb dX7_group8or12_170 (lv_at hl 2 rfl) ?_
              refine lv_sipush (v := 320) hx hb dX7_group8or12_172 (by decide) ?_
              refine lv_icmp_ne (tgt := 190) hx hb dX7_group8or12_175 (by decide) (fun c9 => ?_) (fun c9 => ?_)
              · have hs := if_f c9 hs
                refine lv_aload_n hx hb dX7_group8or12_190 rfl (lv_at hl 3 rfl) ?_
                refine lv_iload hx hb dX7_group8or12_191 (lv_at hl 1 rfl) ?_
                refine lv_iload hx hb dX7_group8or12_193 (lv_at hl 0 rfl) ?_
                obtain ⟨S9, h15, hs⟩ := bv_e hs
                refine kX7_setA C tM_X7_74 ⟨Nat.le_of_ble_eq_true rfl, Nat.le_of_ble_eq_true rfl⟩ ⟨Nat.le_of_ble_eq_true rfl, Nat.le_of_ble_eq_true rfl⟩ hK hP hS hl.1 (rest := []) (Nat.le_of_ble_eq_true rfl) dX7_group8or12_195 h15 (fun H locs hP hS => ?_)
                refine lv_iconst (v := 1) hx hb dX7_group8or12_198 (by decide) ?_
                exact u_zret (v := true) hx hb hr hlocks hP hS hs dX7_group8or12_199
              · have hs := if_t c9 hs
                refine lv_aload_n hx hb dX7_group8or12_178 rfl (lv_at hl 3 rfl) ?_
                refine gM_X7_d hx hb hT hown hK hP (hT _ tF_X7_13) dX7_group8or12_179 ?_
                refine lv_iload hx hb dX7_group8or12_182 (lv_at hl 1 rfl) ?_
                refine lv_iload hx hb dX7_group8or12_184 (lv_at hl 0 rfl) ?_
                obtain ⟨h16, hs⟩ := gd_e hs
                obtain ⟨S10, h17, hs⟩ := lt_e hs
                refine sM_d hx hb hK hP hS (v := v5) (ixo_in h16) dX7_group8or12_186 h17 (fun H locs hP hS => ?_)
                refine lv_goto (tgt := 198) hx hb dX7_group8or12_187 (by decide) ?_
                refine lv_iconst (v := 1) hx hb dX7_group8or12_198 (by decide) ?_
                exact u_zret (v := true) hx hb hr hlocks hP hS hs dX7_group8or12_199
            ·
              refine lv_icmp_ne (tgt := 163) hx hb dX7_group8or12_150 (by decide) (fun c10 => ?_) (fun c10 => ?_)
              · have hs := if_f c10 hs
                refine lv_aload_n hx hb dX7_group8or12_163 rfl (lv_at hl 6 rfl) ?_
                refine lv_iload hx hb dX7_group8or12_164 (lv_at hl 1 rfl) ?_
                obtain ⟨r3, S11, h18, hs⟩ := bd_e hs
                refine kX7_getA C tM_X7_70 ⟨Nat.le_of_ble_eq_true rfl, Nat.le_of_ble_eq_true rfl⟩ ⟨Nat.le_of_ble_eq_true rfl, Nat.le_of_ble_eq_true rfl⟩ hK hP hS hl.1 (rest := [.int v3, .ref (ad 2)]) (Nat.le_of_ble_eq_true rfl) dX7_group8or12_166 h18 (fun H locs hP hS => ?_)
                exact J4 r3 S11 _ _ _ (lv_sub hl [0, 1, 3, 6] rfl) hP hS hs
              · have hs := if_t c10 hs
                refine lv_aload_n hx hb dX7_group8or12_153 rfl (lv_at hl 6 rfl) ?_
                refine gM_X7_d hx hb hT hown hK hP (hT _ tF_X7_13) dX7_group8or12_154 ?_
                refine lv_iload hx hb dX7_group8or12_157 (lv_at hl 1 rfl) ?_
                obtain ⟨h19, hs⟩ := gd_e hs
                refine lM_d hx hb hK hP (ixo_in h19) dX7_group8or12_159 ?_
                refine lv_goto (tgt := 169) hx hb dX7_group8or12_160 (by decide) ?_
                exact J4 (S.2.2 1 v4.toNatClampNeg) S _ _ _ (lv_sub hl [0, 1, 3, 6] rfl) hP hS hs
          · have hs := if_f c8 hs
            refine lv_iload hx hb dX7_group8or12_122 (lv_at hl 2 rfl) ?_
            refine lv_sipush (v := 392) hx hb dX7_group8or12_124 (by decide) ?_
            refine lv_icmp_ne (tgt := 200) hx hb dX7_group8or12_127 (by decide) (fun c11 => ?_) (fun c11 => ?_)
            · have hs := if_f c11 hs
              refine lv_iload_n hx hb dX7_group8or12_200 rfl (lv_at hl 6 rfl) ?_
              refine lv_if_eq (tgt := 242) hx hb dX7_group8or12_201 (by decide) (fun c12 => ?_) (fun c12 => ?_)
              · have hs := if_t c12 hs
                refine lv_aload_n hx hb dX7_group8or12_242 rfl (lv_at hl 5 rfl) ?_
                refine lv_iload_n hx hb dX7_group8or12_243 rfl (lv_at hl 6 rfl) ?_
                refine jn_e hs (fun K5 => ∀ (b6 : Bool) (H : Heap) (locs : List Loc) (ls : Array Slot), lv_has ls 8 [] → va_P D vwCl (wM ad cI cB S) H → va_S (AX 11 ad s.heap.size) s.heap H locs → K5 b6 = some (ro, So) → W p l e rmX7_group8or12 s m ([.ref (ad 0), .int (zI z1)] : List Value).toArray below meth c H locs 0 0 (MQ below (uQ D (wM ad cI cB) (some (.int (zI ro)), So) (AX 11 ad s.heap.size)) ([.ref (ad 0), .int (zI z1)] : List Value).toArray s 0 0 (AX 11 ad s.heap.size)) (F0 m 252 ls [.int (zI b6), .ref (ad 0)])) ?_ (fun K5 J5 hs => ?_)
                · intro b6 H locs ls hl hP hS hs
                  obtain ⟨b7, S12, h20, hs⟩ := bd_e hs
                  refine kX7_logicPair C tM_X7_291 ⟨Nat.le_of_ble_eq_true rfl, Nat.le_of_ble_eq_true rfl⟩ ⟨Nat.le_of_ble_eq_true rfl, Nat.le_of_ble_eq_true rfl⟩ hK hP hS hl.1 (rest := []) (Nat.le_of_ble_eq_true rfl) dX7_group8or12_252 h20 (fun H locs hP hS => ?_)
                  exact u_zret (v := b7) hx hb hr hlocks hP hS hs dX7_group8or12_255
                ·
                  refine lv_if_eq (tgt := 251) hx hb dX7_group8or12_244 (by decide) (fun c13 => ?_) (fun c13 => ?_)
                  · have hs := if_t c13 hs
                    refine lv_iconst (v := 0) hx hb dX7_group8or12_251 (by decide) ?_
                    exact J5 false _ _ _ (lv_sub hl [] rfl) hP hS hs
                  · have hs := if_f c13 hs
                    refine lv_iconst (v := 1) hx hb dX7_group8or12_247 (by decide) ?_
                    refine lv_goto (tgt := 252) hx hb dX7_group8or12_248 (by decide) ?_
                    exact J5 true _ _ _ (lv_sub hl [] rfl) hP hS hs
              · have hs := if_f c12 hs
                refine lv_iload hx hb dX7_group8or12_204 (lv_at hl 2 rfl) ?_
                refine lv_sipush (v := 328) hx hb dX7_group8or12_206 (by decide) ?_
                refine lv_icmp_ne (tgt := 242) hx hb dX7_group8or12_209 (by decide) (fun c14 => ?_) (fun c14 => ?_)
                · have hs := if_f c14 hs
                  refine lv_aload_n hx hb dX7_group8or12_242 rfl (lv_at hl 5 rfl) ?_
                  refine lv_iload_n hx hb dX7_group8or12_243 rfl (lv_at hl 6 rfl) ?_
                  refine jn_e hs (fun K6 => ∀ (b8 : Bool) (H : Heap) (locs : List Loc) (ls : Array Slot), lv_has ls 8 [] → va_P D vwCl (wM ad cI cB S) H → va_S (AX 11 ad s.heap.size) s.heap H locs → K6 b8 = some (ro, So) → W p l e rmX7_group8or12 s m ([.ref (ad 0), .int (zI z1)] : List Value).toArray below meth c H locs 0 0 (MQ below (uQ D (wM ad cI cB) (some (.int (zI ro)), So) (AX 11 ad s.heap.size)) ([.ref (ad 0), .int (zI z1)] : List Value).toArray s 0 0 (AX 11 ad s.heap.size)) (F0 m 252 ls [.int (zI b8), .ref (ad 0)])) ?_ (fun K6 J6 hs => ?_)
                  · intro b8 H locs ls hl hP hS hs
                    obtain ⟨b9, S13, h21, hs⟩ := bd_e hs
                    refine kX7_logicPair C tM_X7_291 ⟨Nat.le_of_ble_eq_true rfl, Nat.le_of_ble_eq_true rfl⟩ ⟨Nat.le_of_ble_eq_true rfl, Nat.le_of_ble_eq_true rfl⟩ hK hP hS hl.1 (rest := []) (Nat.le_of_ble_eq_true rfl) dX7_group8or12_252 h21 (fun H locs hP hS => ?_)
                    exact u_zret (v := b9) hx hb hr hlocks hP hS hs dX7_group8or12_255
                  ·
                    refine lv_if_eq (tgt := 251) hx hb dX7_group8or12_244 (by decide) (fun c15 => ?_) (fun c15 => ?_)
                    · have hs := if_t c15 hs
                      refine lv_iconst (v := 0) hx hb dX7_group8or12_251 (by decide) ?_
                      exact J6 false _ _ _ (lv_sub hl [] rfl) hP hS hs
                    · have hs := if_f c15 hs
                      refine lv_iconst (v := 1) hx hb dX7_group8or12_247 (by decide) ?_
                      refine lv_goto (tgt := 252) hx hb dX7_group8or12_248 (by decide) ?_
                      exact J6 true _ _ _ (lv_sub hl [] rfl) hP hS hs
                · have hs := if_t c14 hs
                  refine lv_aload_n hx hb dX7_group8or12_212 rfl (lv_at hl 5 rfl) ?_
                  refine lv_iload hx hb dX7_group8or12_213 (lv_at hl 1 rfl) ?_
                  obtain ⟨r4, S14, h22, hs⟩ := bd_e hs
                  refine kX7_getA C tM_X7_70 ⟨Nat.le_of_ble_eq_true rfl, Nat.le_of_ble_eq_true rfl⟩ ⟨Nat.le_of_ble_eq_true rfl, Nat.le_of_ble_eq_true rfl⟩ hK hP hS hl.1 (rest := []) (Nat.le_of_ble_eq_true rfl) dX7_group8or12_215 h22 (fun H locs hP hS => ?_)
                  refine lv_istore (lv' := [(7, .int r4), (6, .int v4), (5, .int v3), (4, .int v2), (3, .int (zI b1)), (2, .int v1), (0, .ref (ad 0)), (1, .int (zI z1))]) hx hb dX7_group8or12_218 hl (by decide) rfl (fun ls hl => ?_)
                  refine lv_aload_n hx hb dX7_group8or12_220 rfl (lv_at hl 6 rfl) ?_
                  refine lv_iload hx hb dX7_group8or12_221 (lv_at hl 2 rfl) ?_
                  refine lv_aload_n hx hb dX7_group8or12_223 rfl (lv_at hl 6 rfl) ?_
                  refine lv_iload hx hb dX7_group8or12_224 (lv_at hl 1 rfl) ?_
                  obtain ⟨r5, S15, h23, hs⟩ := bd_e hs
                  refine kX7_getA C tM_X7_70 ⟨Nat.le_of_ble_eq_true rfl, Nat.le_of_ble_eq_true rfl⟩ ⟨Nat.le_of_ble_eq_true rfl, Nat.le_of_ble_eq_true rfl⟩ hK hP hS hl.1 (rest := [.int v3, .ref (ad 0)]) (Nat.le_of_ble_eq_true rfl) dX7_group8or12_226 h23 (fun H locs hP hS => ?_)
                  obtain ⟨S16, h24, hs⟩ := bv_e hs
                  refine kX7_setA C tM_X7_74 ⟨Nat.le_of_ble_eq_true rfl, Nat.le_of_ble_eq_true rfl⟩ ⟨Nat.le_of_ble_eq_true rfl, Nat.le_of_ble_eq_true rfl⟩ hK hP hS hl.1 (rest := []) (Nat.le_of_ble_eq_true rfl) dX7_group8or12_229 h24 (fun H locs hP hS => ?_)
                  refine lv_aload_n hx hb dX7_group8or12_232 rfl (lv_at hl 6 rfl) ?_
                  refine lv_iload hx hb dX7_group8or12_233 (lv_at hl 1 rfl) ?_
                  refine lv_iload hx hb dX7_group8or12_235 (lv_at hl 0 rfl) ?_
                  obtain ⟨S17, h25, hs⟩ := bv_e hs
                  refine kX7_setA C tM_X7_74 ⟨Nat.le_of_ble_eq_true rfl, Nat.le_of_ble_eq_true rfl⟩ ⟨Nat.le_of_ble_eq_true rfl, Nat.le_of_ble_eq_true rfl⟩ hK hP hS hl.1 (rest := []) (Nat.le_of_ble_eq_true rfl) dX7_group8or12_237 h25 (fun H locs hP hS => ?_)
                  refine lv_iconst (v := 1) hx hb dX7_group8or12_240 (by decide) ?_
                  exact u_zret (v := true) hx hb hr hlocks hP hS hs dX7_group8or12_241
            · have hs := if_t c11 hs
              refine lv_aload_n hx hb dX7_group8or12_130 rfl (lv_at hl 5 rfl) ?_
              refine gM_X7_d hx hb hT hown hK hP (hT _ tF_X7_13) dX7_group8or12_131 ?_
              refine lv_iload hx hb dX7_group8or12_134 (lv_at hl 1 rfl) ?_
              obtain ⟨h26, hs⟩ := gd_e hs
              refine lM_d hx hb hK hP (ixo_in h26) dX7_group8or12_136 ?_
              obtain ⟨v7, h27, hs⟩ := lt_e hs
              refine u_top h27 ?_
              refine lv_istore (lv' := [(7, .int v7), (6, .int v4), (5, .int v3), (4, .int v2), (3, .int (zI b1)), (2, .int v1), (0, .ref (ad 0)), (1, .int (zI z1))]) hx hb dX7_group8or12_137 hl (by decide) rfl (fun ls hl => ?_)
              refine lv_aload_n hx hb dX7_group8or12_139 rfl (lv_at hl 6 rfl) ?_
              refine gM_X7_d hx hb hT hown hK hP (hT _ tF_X7_13) dX7_group8or12_140 ?_
              refine lv_iload hx hb dX7_group8or12_143 (lv_at hl 2 rfl) ?_
              refine lv_iload hx hb dX7_group8or12_145 (lv_at hl 3 rfl) ?_
              refine lv_sipush (v := 320) hx hb dX7_group8or12_147 (by decide) ?_
              refine jn_e hs (fun K7 => ∀ (v8 : Int32) (S18 : St) (H : Heap) (locs : List Loc) (ls : Array Slot), lv_has ls 8 [(7, .int v7), (6, .int v4), (4, .int v2), (0, .ref (ad 0))] → va_P D vwCl (wM ad cI cB S18) H → va_S (AX 11 ad s.heap.size) s.heap H locs → K7 v8 S18 = some (ro, So) → W p l e rmX7_group8or12 s m ([.ref (ad 0), .int (zI z1)] : List Value).toArray below meth c H locs 0 0 (MQ below (uQ D (wM ad cI cB) (some (.int (zI ro)), So) (AX 11 ad s.heap.size)) ([.ref (ad 0), .int (zI z1)] : List Value).toArray s 0 0 (AX 11 ad s.heap.size)) (F0 m 169 ls [.int v8, .int v3, .ref (ad 2)])) ?_ (fun K7 J7 hs => ?_)
              · intro v8 S18 H locs ls hl hP hS hs
                obtain ⟨h28, hs⟩ := gd_e hs
                obtain ⟨S19, h29, hs⟩ := lt_e hs
                refine sM_d hx hb hK hP hS (v := v8) (ixo_in h28) dX7_group8or12_169 h29 (fun H locs hP hS => ?_)
                refine lv_iload hx hb dX7_group8or12_170 (lv_at hl 2 rfl) ?_
                refine lv_sipush (v := 320) hx hb dX7_group8or12_172 (by decide) ?_
                refine lv_icmp_ne (tgt := 190) hx hb dX7_group8or12_175 (by decide) (fun c16 => ?_) (fun c16 => ?_)
                · have hs := if_f c16 hs
                  refine lv_aload_n hx hb dX7_group8or12_190 rfl (lv_at hl 3 rfl) ?_
                  refine lv_iload hx hb dX7_group8or12_191 (lv_at hl 1 rfl) ?_
                  refine lv_iload hx hb dX7_group8or12_193 (lv_at hl 0 rfl) ?_
                  obtain ⟨S20, h30, hs⟩ := bv_e hs
                  refine kX7_setA C tM_X7_74 ⟨Nat.le_of_ble_eq_true rfl, Nat.le_of_ble_eq_true rfl⟩ ⟨Nat.le_of_ble_eq_true rfl, Nat.le_of_ble_eq_true rfl⟩ hK hP hS hl.1 (rest := []) (Nat.le_of_ble_eq_true rfl) dX7_group8or12_195 h30 (fun H locs hP hS => ?_)
                  refine lv_iconst (v := 1) hx hb dX7_group8or12_198 (by decide) ?_
                  exact u_zret (v := true) hx hb hr hlocks hP hS hs dX7_group8or12_199
                · have hs := if_t c16 hs
                  refine lv_aload_n hx hb dX7_group8or12_178 rfl (lv_at hl 3 rfl) ?_
                  refine gM_X7_d hx hb hT hown hK hP (hT _ tF_X7_13) dX7_group8or12_179 ?_
                  refine lv_iload hx hb dX7_group8or12_182 (lv_at hl 1 rfl) ?_
                  refine lv_iload hx hb dX7_group8or12_184 (lv_at hl 0 rfl) ?_
                  obtain ⟨h31, hs⟩ := gd_e hs
                  obtain ⟨S21, h32, hs⟩ := lt_e hs
                  refine sM_d hx hb hK hP hS (v := v7) (ixo_in h31) dX7_group8or12_186 h32 (fun H locs hP hS => ?_)
                  refine lv_goto (tgt := 198) hx hb dX7_group8or12_187 (by decide) ?_
                  refine lv_iconst (v := 1) hx hb dX7_group8or12_198 (by decide) ?_
                  exact u_zret (v := true) hx hb hr hlocks hP hS hs dX7_group8or12_199
              ·
                refine lv_icmp_ne (tgt := 163) hx hb dX7_group8or12_150 (by decide) (fun c17 => ?_) (fun c17 => ?_)
                · have hs := if_f c17 hs
                  refine lv_aload_n hx hb dX7_group8or12_163 rfl (lv_at hl 6 rfl) ?_
                  refine lv_iload hx hb dX7_group8or12_164 (lv_at hl 1 rfl) ?_
                  obtain ⟨r6, S22, h33, hs⟩ := bd_e hs
                  refine kX7_getA C tM_X7_70 ⟨Nat.le_of_ble_eq_true rfl, Nat.le_of_ble_eq_true rfl⟩ ⟨Nat.le_of_ble_eq_true rfl, Nat.le_of_ble_eq_true rfl⟩ hK hP hS hl.1 (rest := [.int v3, .ref (ad 2)]) (Nat.le_of_ble_eq_true rfl) dX7_group8or12_166 h33 (fun H locs hP hS => ?_)
                  exact J7 r6 S22 _ _ _ (lv_sub hl [0, 1, 3, 6] rfl) hP hS hs
                · have hs := if_t c17 hs
                  refine lv_aload_n hx hb dX7_group8or12_153 rfl (lv_at hl 6 rfl) ?_
                  refine gM_X7_d hx hb hT hown hK hP (hT _ tF_X7_13) dX7_group8or12_154 ?_
                  refine lv_iload hx hb dX7_group8or12_157 (lv_at hl 1 rfl) ?_
                  obtain ⟨h34, hs⟩ := gd_e hs
                  refine lM_d hx hb hK hP (ixo_in h34) dX7_group8or12_159 ?_
                  refine lv_goto (tgt := 169) hx hb dX7_group8or12_160 (by decide) ?_
                  exact J7 (S.2.2 1 v4.toNatClampNeg) S _ _ _ (lv_sub hl [0, 1, 3, 6] rfl) hP hS hs
      · have hs := if_f c2 hs
        refine lv_aload_n hx hb dX7_group8or12_54 rfl (lv_at hl 2 rfl) ?_
        refine gM_X7_op hx hb hT hown hK hP (hT _ tF_X7_174) dX7_group8or12_55 ?_
        refine lv_sipush (v := 240) hx hb dX7_group8or12_58 (by decide) ?_
        refine lv_iand hx hb dX7_group8or12_61 ?_
        refine lv_if_ne (tgt := 79) hx hb dX7_group8or12_62 (by decide) (fun c18 => ?_) (fun c18 => ?_)
        · have hs := if_f c18 hs
          refine lv_aload_n hx hb dX7_group8or12_79 rfl (lv_at hl 2 rfl) ?_
          refine gM_X7_op hx hb hT hown hK hP (hT _ tF_X7_174) dX7_group8or12_80 ?_
          refine lv_sipush (v := 504) hx hb dX7_group8or12_83 (by decide) ?_
          refine lv_iand hx hb dX7_group8or12_86 ?_
          obtain ⟨v9, h35, hs⟩ := lt_e hs
          refine u_top h35 ?_
          refine lv_istore (lv' := [(4, .int v9), (3, .int (zI b1)), (2, .int v1), (0, .ref (ad 0)), (1, .int (zI z1))]) hx hb dX7_group8or12_87 hl (by decide) rfl (fun ls hl => ?_)
          refine lv_aload_n hx hb dX7_group8or12_89 rfl (lv_at hl 3 rfl) ?_
          refine gM_X7_op hx hb hT hown hK hP (hT _ tF_X7_174) dX7_group8or12_90 ?_
          refine lv_bipush (v := 9) hx hb dX7_group8or12_93 (by decide) ?_
          refine lv_ishr hx hb dX7_group8or12_95 ?_
          refine lv_bipush (v := 7) hx hb dX7_group8or12_96 (by decide) ?_
          refine lv_iand hx hb dX7_group8or12_98 ?_
          obtain ⟨v10, h36, hs⟩ := lt_e hs
          refine u_top h36 ?_
          refine lv_istore (lv' := [(5, .int v10), (4, .int v9), (3, .int (zI b1)), (2, .int v1), (0, .ref (ad 0)), (1, .int (zI z1))]) hx hb dX7_group8or12_99 hl (by decide) rfl (fun ls hl => ?_)
          refine lv_aload_n hx hb dX7_group8or12_101 rfl (lv_at hl 4 rfl) ?_
          refine gM_X7_op hx hb hT hown hK hP (hT _ tF_X7_174) dX7_group8or12_102 ?_
          refine lv_bipush (v := 7) hx hb dX7_group8or12_105 (by decide) ?_
          refine lv_iand hx hb dX7_group8or12_107 ?_
          obtain ⟨v11, h37, hs⟩ := lt_e hs
          refine u_top h37 ?_
          refine lv_istore (lv' := [(6, .int v11), (5, .int v10), (4, .int v9), (3, .int (zI b1)), (2, .int v1), (0, .ref (ad 0)), (1, .int (zI z1))]) hx hb dX7_group8or12_108 hl (by decide) rfl (fun ls hl => ?_)
          refine lv_iload_n hx hb dX7_group8or12_110 rfl (lv_at hl 6 rfl) ?_
          refine lv_if_eq (tgt := 200) hx hb dX7_group8or12_111 (by decide) (fun c19 => ?_) (fun c19 => ?_)
          · have hs := if_t c19 hs
            refine lv_iload_n hx hb dX7_group8or12_200 rfl (lv_at hl 6 rfl) ?_
            refine lv_if_eq (tgt := 242) hx hb dX7_group8or12_201 (by decide) (fun c20 => ?_) (fun c20 => ?_)
            · have hs := if_t c20 hs
              refine lv_aload_n hx hb dX7_group8or12_242 rfl (lv_at hl 5 rfl) ?_
              refine lv_iload_n hx hb dX7_group8or12_243 rfl (lv_at hl 6 rfl) ?_
              refine jn_e hs (fun K8 => ∀ (b10 : Bool) (H : Heap) (locs : List Loc) (ls : Array Slot), lv_has ls 8 [] → va_P D vwCl (wM ad cI cB S) H → va_S (AX 11 ad s.heap.size) s.heap H locs → K8 b10 = some (ro, So) → W p l e rmX7_group8or12 s m ([.ref (ad 0), .int (zI z1)] : List Value).toArray below meth c H locs 0 0 (MQ below (uQ D (wM ad cI cB) (some (.int (zI ro)), So) (AX 11 ad s.heap.size)) ([.ref (ad 0), .int (zI z1)] : List Value).toArray s 0 0 (AX 11 ad s.heap.size)) (F0 m 252 ls [.int (zI b10), .ref (ad 0)])) ?_ (fun K8 J8 hs => ?_)
              · intro b10 H locs ls hl hP hS hs
                obtain ⟨b11, S23, h38, hs⟩ := bd_e hs
                refine kX7_logicPair C tM_X7_291 ⟨Nat.le_of_ble_eq_true rfl, Nat.le_of_ble_eq_true rfl⟩ ⟨Nat.le_of_ble_eq_true rfl, Nat.le_of_ble_eq_true rfl⟩ hK hP hS hl.1 (rest := []) (Nat.le_of_ble_eq_true rfl) dX7_group8or12_252 h38 (fun H locs hP hS => ?_)
                exact u_zret (v := b11) hx hb hr hlocks hP hS hs dX7_group8or12_255
              ·
                refine lv_if_eq (tgt := 251) hx hb dX7_group8or12_244 (by decide) (fun c21 => ?_) (fun c21 => ?_)
                · have hs := if_t c21 hs
                  refine lv_iconst (v := 0) hx hb dX7_group8or12_251 (by decide) ?_
                  exact J8 false _ _ _ (lv_sub hl [] rfl) hP hS hs
                · have hs := if_f c21 hs
                  refine lv_iconst (v := 1) hx hb dX7_group8or12_247 (by decide) ?_
                  refine lv_goto (tgt := 252) hx hb dX7_group8or12_248 (by decide) ?_
                  exact J8 true _ _ _ (lv_sub hl [] rfl) hP hS hs
            · have hs := if_f c20 hs
              refine lv_iload hx hb dX7_group8or12_204 (lv_at hl 2 rfl) ?_
              refine lv_sipush (v := 328) hx hb dX7_group8or12_206 (by decide) ?_
              refine lv_icmp_ne (tgt := 242) hx hb dX7_group8or12_209 (by decide) (fun c22 => ?_) (fun c22 => ?_)
              · have hs := if_f c22 hs
                refine lv_aload_n hx hb dX7_group8or12_242 rfl (lv_at hl 5 rfl) ?_
                refine lv_iload_n hx hb dX7_group8or12_243 rfl (lv_at hl 6 rfl) ?_
                refine jn_e hs (fun K9 => ∀ (b12 : Bool) (H : Heap) (locs : List Loc) (ls : Array Slot), lv_has ls 8 [] → va_P D vwCl (wM ad cI cB S) H → va_S (AX 11 ad s.heap.size) s.heap H locs → K9 b12 = some (ro, So) → W p l e rmX7_group8or12 s m ([.ref (ad 0), .int (zI z1)] : List Value).toArray below meth c H locs 0 0 (MQ below (uQ D (wM ad cI cB) (some (.int (zI ro)), So) (AX 11 ad s.heap.size)) ([.ref (ad 0), .int (zI z1)] : List Value).toArray s 0 0 (AX 11 ad s.heap.size)) (F0 m 252 ls [.int (zI b12), .ref (ad 0)])) ?_ (fun K9 J9 hs => ?_)
                · intro b12 H locs ls hl hP hS hs
                  obtain ⟨b13, S24, h39, hs⟩ := bd_e hs
                  refine kX7_logicPair C tM_X7_291 ⟨Nat.le_of_ble_eq_true rfl, Nat.le_of_ble_eq_true rfl⟩ ⟨Nat.le_of_ble_eq_true rfl, Nat.le_of_ble_eq_true rfl⟩ hK hP hS hl.1 (rest := []) (Nat.le_of_ble_eq_true rfl) dX7_group8or12_252 h39 (fun H locs hP hS => ?_)
                  exact u_zret (v := b13) hx hb hr hlocks hP hS hs dX7_group8or12_255
                ·
                  refine lv_if_eq (tgt := 251) hx hb dX7_group8or12_244 (by decide) (fun c23 => ?_) (fun c23 => ?_)
                  · have hs := if_t c23 hs
                    refine lv_iconst (v := 0) hx hb dX7_group8or12_251 (by decide) ?_
                    exact J9 false _ _ _ (lv_sub hl [] rfl) hP hS hs
                  · have hs := if_f c23 hs
                    refine lv_iconst (v := 1) hx hb dX7_group8or12_247 (by decide) ?_
                    refine lv_goto (tgt := 252) hx hb dX7_group8or12_248 (by decide) ?_
                    exact J9 true _ _ _ (lv_sub hl [] rfl) hP hS hs
              · have hs := if_t c22 hs
                refine lv_aload_n hx hb dX7_group8or12_212 rfl (lv_at hl 5 rfl) ?_
                refine lv_iload hx hb dX7_group8or12_213 (lv_at hl 1 rfl) ?_
                obtain ⟨r7, S25, h40, hs⟩ := bd_e hs
                refine kX7_getA C tM_X7_70 ⟨Nat.le_of_ble_eq_true rfl, Nat.le_of_ble_eq_true rfl⟩ ⟨Nat.le_of_ble_eq_true rfl, Nat.le_of_ble_eq_true rfl⟩ hK hP hS hl.1 (rest := []) (Nat.le_of_ble_eq_true rfl) dX7_group8or12_215 h40 (fun H locs hP hS => ?_)
                refine lv_istore (lv' := [(7, .int r7), (6, .int v11), (5, .int v10), (4, .int v9), (3, .int (zI b1)), (2, .int v1), (0, .ref (ad 0)), (1, .int (zI z1))]) hx hb dX7_group8or12_218 hl (by decide) rfl (fun ls hl => ?_)
                refine lv_aload_n hx hb dX7_group8or12_220 rfl (lv_at hl 6 rfl) ?_
                refine lv_iload hx hb dX7_group8or12_221 (lv_at hl 2 rfl) ?_
                refine lv_aload_n hx hb dX7_group8or12_223 rfl (lv_at hl 6 rfl) ?_
                refine lv_iload hx hb dX7_group8or12_224 (lv_at hl 1 rfl) ?_
                obtain ⟨r8, S26, h41, hs⟩ := bd_e hs
                refine kX7_getA C tM_X7_70 ⟨Nat.le_of_ble_eq_true rfl, Nat.le_of_ble_eq_true rfl⟩ ⟨Nat.le_of_ble_eq_true rfl, Nat.le_of_ble_eq_true rfl⟩ hK hP hS hl.1 (rest := [.int v10, .ref (ad 0)]) (Nat.le_of_ble_eq_true rfl) dX7_group8or12_226 h41 (fun H locs hP hS => ?_)
                obtain ⟨S27, h42, hs⟩ := bv_e hs
                refine kX7_setA C tM_X7_74 ⟨Nat.le_of_ble_eq_true rfl, Nat.le_of_ble_eq_true rfl⟩ ⟨Nat.le_of_ble_eq_true rfl, Nat.le_of_ble_eq_true rfl⟩ hK hP hS hl.1 (rest := []) (Nat.le_of_ble_eq_true rfl) dX7_group8or12_229 h42 (fun H locs hP hS => ?_)
                refine lv_aload_n hx hb dX7_group8or12_232 rfl (lv_at hl 6 rfl) ?_
                refine lv_iload hx hb dX7_group8or12_233 (lv_at hl 1 rfl) ?_
                refine lv_iload hx hb dX7_group8or12_235 (lv_at hl 0 rfl) ?_
                obtain ⟨S28, h43, hs⟩ := bv_e hs
                refine kX7_setA C tM_X7_74 ⟨Nat.le_of_ble_eq_true rfl, Nat.le_of_ble_eq_true rfl⟩ ⟨Nat.le_of_ble_eq_true rfl, Nat.le_of_ble_eq_true rfl⟩ hK hP hS hl.1 (rest := []) (Nat.le_of_ble_eq_true rfl) dX7_group8or12_237 h43 (fun H locs hP hS => ?_)
                refine lv_iconst (v := 1) hx hb dX7_group8or12_240 (by decide) ?_
                exact u_zret (v := true) hx hb hr hlocks hP hS hs dX7_group8or12_241
          · have hs := if_f c19 hs
            refine lv_iload hx hb dX7_group8or12_114 (lv_at hl 2 rfl) ?_
            refine lv_sipush (v := 320) hx hb dX7_group8or12_116 (by decide) ?_
            refine lv_icmp_eq (tgt := 130) hx hb dX7_group8or12_119 (by decide) (fun c24 => ?_) (fun c24 => ?_)
            · have hs := if_t c24 hs
              refine lv_aload_n hx hb dX7_group8or12_130 rfl (lv_at hl 5 rfl) ?_
              refine gM_X7_d hx hb hT hown hK hP (hT _ tF_X7_13) dX7_group8or12_131 ?_
              refine lv_iload hx hb dX7_group8or12_134 (lv_at hl 1 rfl) ?_
              obtain ⟨h44, hs⟩ := gd_e hs
              refine lM_d hx hb hK hP (ixo_in h44) dX7_group8or12_136 ?_
              obtain ⟨v12, h45, hs⟩ := lt_e hs
              refine u_top h45 ?_
              refine lv_istore (lv' := [(7, .int v12), (6, .int v11), (5, .int v10), (4, .int v9), (3, .int (zI b1)), (2, .int v1), (0, .ref (ad 0)), (1, .int (zI z1))]) hx hb dX7_group8or12_137 hl (by decide) rfl (fun ls hl => ?_)
              refine lv_aload_n hx hb dX7_group8or12_139 rfl (lv_at hl 6 rfl) ?_
              refine gM_X7_d hx hb hT hown hK hP (hT _ tF_X7_13) dX7_group8or12_140 ?_
              refine lv_iload hx hb dX7_group8or12_143 (lv_at hl 2 rfl) ?_
              refine lv_iload hx hb dX7_group8or12_145 (lv_at hl 3 rfl) ?_
              refine lv_sipush (v := 320) hx hb dX7_group8or12_147 (by decide) ?_
              refine jn_e hs (fun K10 => ∀ (v13 : Int32) (S29 : St) (H : Heap) (locs : List Loc) (ls : Array Slot), lv_has ls 8 [(7, .int v12), (6, .int v11), (4, .int v9), (0, .ref (ad 0))] → va_P D vwCl (wM ad cI cB S29) H → va_S (AX 11 ad s.heap.size) s.heap H locs → K10 v13 S29 = some (ro, So) → W p l e rmX7_group8or12 s m ([.ref (ad 0), .int (zI z1)] : List Value).toArray below meth c H locs 0 0 (MQ below (uQ D (wM ad cI cB) (some (.int (zI ro)), So) (AX 11 ad s.heap.size)) ([.ref (ad 0), .int (zI z1)] : List Value).toArray s 0 0 (AX 11 ad s.heap.size)) (F0 m 169 ls [.int v13, .int v10, .ref (ad 2)])) ?_ (fun K10 J10 hs => ?_)
              · intro v13 S29 H locs ls hl hP hS hs
                obtain ⟨h46, hs⟩ := gd_e hs
                obtain ⟨S30, h47, hs⟩ := lt_e hs
                refine sM_d hx hb hK hP hS (v := v13) (ixo_in h46) dX7_group8or12_169 h47 (fun H locs hP hS => ?_)
                refine lv_iload hx hb dX7_group8or12_170 (lv_at hl 2 rfl) ?_
                refine lv_sipush (v := 320) hx hb dX7_group8or12_172 (by decide) ?_
                refine lv_icmp_ne (tgt := 190) hx hb dX7_group8or12_175 (by decide) (fun c25 => ?_) (fun c25 => ?_)
                · have hs := if_f c25 hs
                  refine lv_aload_n hx hb dX7_group8or12_190 rfl (lv_at hl 3 rfl) ?_
                  refine lv_iload hx hb dX7_group8or12_191 (lv_at hl 1 rfl) ?_
                  refine lv_iload hx hb dX7_group8or12_193 (lv_at hl 0 rfl) ?_
                  obtain ⟨S31, h48, hs⟩ := bv_e hs
                  refine kX7_setA C tM_X7_74 ⟨Nat.le_of_ble_eq_true rfl, Nat.le_of_ble_eq_true rfl⟩ ⟨Nat.le_of_ble_eq_true rfl, Nat.le_of_ble_eq_true rfl⟩ hK hP hS hl.1 (rest := []) (Nat.le_of_ble_eq_true rfl) dX7_group8or12_195 h48 (fun H locs hP hS => ?_)
                  refine lv_iconst (v := 1) hx hb dX7_group8or12_198 (by decide) ?_
                  exact u_zret (v := true) hx hb hr hlocks hP hS hs dX7_group8or12_199
                · have hs := if_t c25 hs
                  refine lv_aload_n hx hb dX7_group8or12_178 rfl (lv_at hl 3 rfl) ?_
                  refine gM_X7_d hx hb hT hown hK hP (hT _ tF_X7_13) dX7_group8or12_179 ?_
                  refine lv_iload hx hb dX7_group8or12_182 (lv_at hl 1 rfl) ?_
                  refine lv_iload hx hb dX7_group8or12_184 (lv_at hl 0 rfl) ?_
                  obtain ⟨h49, hs⟩ := gd_e hs
                  obtain ⟨S32, h50, hs⟩ := lt_e hs
                  refine sM_d hx hb hK hP hS (v := v12) (ixo_in h49) dX7_group8or12_186 h50 (fun H locs hP hS => ?_)
                  refine lv_goto (tgt := 198) hx hb dX7_group8or12_187 (by decide) ?_
                  refine lv_iconst (v := 1) hx hb dX7_group8or12_198 (by decide) ?_
                  exact u_zret (v := true) hx hb hr hlocks hP hS hs dX7_group8or12_199
              ·
                refine lv_icmp_ne (tgt := 163) hx hb dX7_group8or12_150 (by decide) (fun c26 => ?_) (fun c26 => ?_)
                · have hs := if_f c26 hs
                  refine lv_aload_n hx hb dX7_group8or12_163 rfl (lv_at hl 6 rfl) ?_
                  refine lv_iload hx hb dX7_group8or12_164 (lv_at hl 1 rfl) ?_
                  obtain ⟨r9, S33, h51, hs⟩ := bd_e hs
                  refine kX7_getA C tM_X7_70 ⟨Nat.le_of_ble_eq_true rfl, Nat.le_of_ble_eq_true rfl⟩ ⟨Nat.le_of_ble_eq_true rfl, Nat.le_of_ble_eq_true rfl⟩ hK hP hS hl.1 (rest := [.int v10, .ref (ad 2)]) (Nat.le_of_ble_eq_true rfl) dX7_group8or12_166 h51 (fun H locs hP hS => ?_)
                  exact J10 r9 S33 _ _ _ (lv_sub hl [0, 1, 3, 6] rfl) hP hS hs
                · have hs := if_t c26 hs
                  refine lv_aload_n hx hb dX7_group8or12_153 rfl (lv_at hl 6 rfl) ?_
                  refine gM_X7_d hx hb hT hown hK hP (hT _ tF_X7_13) dX7_group8or12_154 ?_
                  refine lv_iload hx hb dX7_group8or12_157 (lv_at hl 1 rfl) ?_
                  obtain ⟨h52, hs⟩ := gd_e hs
                  refine lM_d hx hb hK hP (ixo_in h52) dX7_group8or12_159 ?_
                  refine lv_goto (tgt := 169) hx hb dX7_group8or12_160 (by decide) ?_
                  exact J10 (S.2.2 1 v11.toNatClampNeg) S _ _ _ (lv_sub hl [0, 1, 3, 6] rfl) hP hS hs
            · have hs := if_f c24 hs
              refine lv_iload hx hb dX7_group8or12_122 (lv_at hl 2 rfl) ?_
              refine lv_sipush (v := 392) hx hb dX7_group8or12_124 (by decide) ?_
              refine lv_icmp_ne (tgt := 200) hx hb dX7_group8or12_127 (by decide) (fun c27 => ?_) (fun c27 => ?_)
              · have hs := if_f c27 hs
                refine lv_iload_n hx hb dX7_group8or12_200 rfl (lv_at hl 6 rfl) ?_
                refine lv_if_eq (tgt := 242) hx hb dX7_group8or12_201 (by decide) (fun c28 => ?_) (fun c28 => ?_)
                · have hs := if_t c28 hs
                  refine lv_aload_n hx hb dX7_group8or12_242 rfl (lv_at hl 5 rfl) ?_
                  refine lv_iload_n hx hb dX7_group8or12_243 rfl (lv_at hl 6 rfl) ?_
                  refine jn_e hs (fun K11 => ∀ (b14 : Bool) (H : Heap) (locs : List Loc) (ls : Array Slot), lv_has ls 8 [] → va_P D vwCl (wM ad cI cB S) H → va_S (AX 11 ad s.heap.size) s.heap H locs → K11 b14 = some (ro, So) → W p l e rmX7_group8or12 s m ([.ref (ad 0), .int (zI z1)] : List Value).toArray below meth c H locs 0 0 (MQ below (uQ D (wM ad cI cB) (some (.int (zI ro)), So) (AX 11 ad s.heap.size)) ([.ref (ad 0), .int (zI z1)] : List Value).toArray s 0 0 (AX 11 ad s.heap.size)) (F0 m 252 ls [.int (zI b14), .ref (ad 0)])) ?_ (fun K11 J11 hs => ?_)
                  · intro b14 H locs ls hl hP hS hs
                    obtain ⟨b15, S34, h53, hs⟩ := bd_e hs
                    refine kX7_logicPair C tM_X7_291 ⟨Nat.le_of_ble_eq_true rfl, Nat.le_of_ble_eq_true rfl⟩ ⟨Nat.le_of_ble_eq_true rfl, Nat.le_of_ble_eq_true rfl⟩ hK hP hS hl.1 (rest := []) (Nat.le_of_ble_eq_true rfl) dX7_group8or12_252 h53 (fun H locs hP hS => ?_)
                    exact u_zret (v := b15) hx hb hr hlocks hP hS hs dX7_group8or12_255
                  ·
                    refine lv_if_eq (tgt := 251) hx hb dX7_group8or12_244 (by decide) (fun c29 => ?_) (fun c29 => ?_)
                    · have hs := if_t c29 hs
                      refine lv_iconst (v := 0) hx hb dX7_group8or12_251 (by decide) ?_
                      exact J11 false _ _ _ (lv_sub hl [] rfl) hP hS hs
                    · have hs := if_f c29 hs
                      refine lv_iconst (v := 1) hx hb dX7_group8or12_247 (by decide) ?_
                      refine lv_goto (tgt := 252) hx hb dX7_group8or12_248 (by decide) ?_
                      exact J11 true _ _ _ (lv_sub hl [] rfl) hP hS hs
                · have hs := if_f c28 hs
                  refine lv_iload hx hb dX7_group8or12_204 (lv_at hl 2 rfl) ?_
                  refine lv_sipush (v := 328) hx hb dX7_group8or12_206 (by decide) ?_
                  refine lv_icmp_ne (tgt := 242) hx hb dX7_group8or12_209 (by decide) (fun c30 => ?_) (fun c30 => ?_)
                  · have hs := if_f c30 hs
                    refine lv_aload_n hx hb dX7_group8or12_242 rfl (lv_at hl 5 rfl) ?_
                    refine lv_iload_n hx hb dX7_group8or12_243 rfl (lv_at hl 6 rfl) ?_
                    refine jn_e hs (fun K12 => ∀ (b16 : Bool) (H : Heap) (locs : List Loc) (ls : Array Slot), lv_has ls 8 [] → va_P D vwCl (wM ad cI cB S) H → va_S (AX 11 ad s.heap.size) s.heap H locs → K12 b16 = some (ro, So) → W p l e rmX7_group8or12 s m ([.ref (ad 0), .int (zI z1)] : List Value).toArray below meth c H locs 0 0 (MQ below (uQ D (wM ad cI cB) (some (.int (zI ro)), So) (AX 11 ad s.heap.size)) ([.ref (ad 0), .int (zI z1)] : List Value).toArray s 0 0 (AX 11 ad s.heap.size)) (F0 m 252 ls [.int (zI b16), .ref (ad 0)])) ?_ (fun K12 J12 hs => ?_)
                    · intro b16 H locs ls hl hP hS hs
                      obtain ⟨b17, S35, h54, hs⟩ := bd_e hs
                      refine kX7_logicPair C tM_X7_291 ⟨Nat.le_of_ble_eq_true rfl, Nat.le_of_ble_eq_true rfl⟩ ⟨Nat.le_of_ble_eq_true rfl, Nat.le_of_ble_eq_true rfl⟩ hK hP hS hl.1 (rest := []) (Nat.le_of_ble_eq_true rfl) dX7_group8or12_252 h54 (fun H locs hP hS => ?_)
                      exact u_zret (v := b17) hx hb hr hlocks hP hS hs dX7_group8or12_255
                    ·
                      refine lv_if_eq (tgt := 251) hx hb dX7_group8or12_244 (by decide) (fun c31 => ?_) (fun c31 => ?_)
                      · have hs := if_t c31 hs
                        refine lv_iconst (v := 0) hx hb dX7_group8or12_251 (by decide) ?_
                        exact J12 false _ _ _ (lv_sub hl [] rfl) hP hS hs
                      · have hs := if_f c31 hs
                        refine lv_iconst (v := 1) hx hb dX7_group8or12_247 (by decide) ?_
                        refine lv_goto (tgt := 252) hx hb dX7_group8or12_248 (by decide) ?_
                        exact J12 true _ _ _ (lv_sub hl [] rfl) hP hS hs
                  · have hs := if_t c30 hs
                    refine lv_aload_n hx hb dX7_group8or12_212 rfl (lv_at hl 5 rfl) ?_
                    refine lv_iload hx hb dX7_group8or12_213 (lv_at hl 1 rfl) ?_
                    obtain ⟨r10, S36, h55, hs⟩ := bd_e hs
                    refine kX7_getA C tM_X7_70 ⟨Nat.le_of_ble_eq_true rfl, Nat.le_of_ble_eq_true rfl⟩ ⟨Nat.le_of_ble_eq_true rfl, Nat.le_of_ble_eq_true rfl⟩ hK hP hS hl.1 (rest := []) (Nat.le_of_ble_eq_true rfl) dX7_group8or12_215 h55 (fun H locs hP hS => ?_)
                    refine lv_istore (lv' := [(7, .int r10), (6, .int v11), (5, .int v10), (4, .int v9), (3, .int (zI b1)), (2, .int v1), (0, .ref (ad 0)), (1, .int (zI z1))]) hx hb dX7_group8or12_218 hl (by decide) rfl (fun ls hl => ?_)
                    refine lv_aload_n hx hb dX7_group8or12_220 rfl (lv_at hl 6 rfl) ?_
                    refine lv_iload hx hb dX7_group8or12_221 (lv_at hl 2 rfl) ?_
                    refine lv_aload_n hx hb dX7_group8or12_223 rfl (lv_at hl 6 rfl) ?_
                    refine lv_iload hx hb dX7_group8or12_224 (lv_at hl 1 rfl) ?_
                    obtain ⟨r11, S37, h56, hs⟩ := bd_e hs
                    refine kX7_getA C tM_X7_70 ⟨Nat.le_of_ble_eq_true rfl, Nat.le_of_ble_eq_true rfl⟩ ⟨Nat.le_of_ble_eq_true rfl, Nat.le_of_ble_eq_true rfl⟩ hK hP hS hl.1 (rest := [.int v10, .ref (ad 0)]) (Nat.le_of_ble_eq_true rfl) dX7_group8or12_226 h56 (fun H locs hP hS => ?_)
                    obtain ⟨S38, h57, hs⟩ := bv_e hs
                    refine kX7_setA C tM_X7_74 ⟨Nat.le_of_ble_eq_true rfl, Nat.le_of_ble_eq_true rfl⟩ ⟨Nat.le_of_ble_eq_true rfl, Nat.le_of_ble_eq_true rfl⟩ hK hP hS hl.1 (rest := []) (Nat.le_of_ble_eq_true rfl) dX7_group8or12_229 h57 (fun H locs hP hS => ?_)
                    refine lv_aload_n hx hb dX7_group8or12_232 rfl (lv_at hl 6 rfl) ?_
                    refine lv_iload hx hb dX7_group8or12_233 (lv_at hl 1 rfl) ?_
                    refine lv_iload hx hb dX7_group8or12_235 (lv_at hl 0 rfl) ?_
                    obtain ⟨S39, h58, hs⟩ := bv_e hs
                    refine kX7_setA C tM_X7_74 ⟨Nat.le_of_ble_eq_true rfl, Nat.le_of_ble_eq_true rfl⟩ ⟨Nat.le_of_ble_eq_true rfl, Nat.le_of_ble_eq_true rfl⟩ hK hP hS hl.1 (rest := []) (Nat.le_of_ble_eq_true rfl) dX7_group8or12_237 h58 (fun H locs hP hS => ?_)
                    refine lv_iconst (v := 1) hx hb dX7_group8or12_240 (by decide) ?_
                    exact u_zret (v := true) hx hb hr hlocks hP hS hs dX7_group8or12_241
              · have hs := if_t c27 hs
                refine lv_aload_n hx hb dX7_group8or12_130 rfl (lv_at hl 5 rfl) ?_
                refine gM_X7_d hx hb hT hown hK hP (hT _ tF_X7_13) dX7_group8or12_131 ?_
                refine lv_iload hx hb dX7_group8or12_134 (lv_at hl 1 rfl) ?_
                obtain ⟨h59, hs⟩ := gd_e hs
                refine lM_d hx hb hK hP (ixo_in h59) dX7_group8or12_136 ?_
                obtain ⟨v14, h60, hs⟩ := lt_e hs
                refine u_top h60 ?_
                refine lv_istore (lv' := [(7, .int v14), (6, .int v11), (5, .int v10), (4, .int v9), (3, .int (zI b1)), (2, .int v1), (0, .ref (ad 0)), (1, .int (zI z1))]) hx hb dX7_group8or12_137 hl (by decide) rfl (fun ls hl => ?_)
                refine lv_aload_n hx hb dX7_group8or12_139 rfl (lv_at hl 6 rfl) ?_
                refine gM_X7_d hx hb hT hown hK hP (hT _ tF_X7_13) dX7_group8or12_140 ?_
                refine lv_iload hx hb dX7_group8or12_143 (lv_at hl 2 rfl) ?_
                refine lv_iload hx hb dX7_group8or12_145 (lv_at hl 3 rfl) ?_
                refine lv_sipush (v := 320) hx hb dX7_group8or12_147 (by decide) ?_
                refine jn_e hs (fun K13 => ∀ (v15 : Int32) (S40 : St) (H : Heap) (locs : List Loc) (ls : Array Slot), lv_has ls 8 [(7, .int v14), (6, .int v11), (4, .int v9), (0, .ref (ad 0))] → va_P D vwCl (wM ad cI cB S40) H → va_S (AX 11 ad s.heap.size) s.heap H locs → K13 v15 S40 = some (ro, So) → W p l e rmX7_group8or12 s m ([.ref (ad 0), .int (zI z1)] : List Value).toArray below meth c H locs 0 0 (MQ below (uQ D (wM ad cI cB) (some (.int (zI ro)), So) (AX 11 ad s.heap.size)) ([.ref (ad 0), .int (zI z1)] : List Value).toArray s 0 0 (AX 11 ad s.heap.size)) (F0 m 169 ls [.int v15, .int v10, .ref (ad 2)])) ?_ (fun K13 J13 hs => ?_)
                · intro v15 S40 H locs ls hl hP hS hs
                  obtain ⟨h61, hs⟩ := gd_e hs
                  obtain ⟨S41, h62, hs⟩ := lt_e hs
                  refine sM_d hx hb hK hP hS (v := v15) (ixo_in h61) dX7_group8or12_169 h62 (fun H locs hP hS => ?_)
                  refine lv_iload hx hb dX7_group8or12_170 (lv_at hl 2 rfl) ?_
                  refine lv_sipush (v := 320) hx hb dX7_group8or12_172 (by decide) ?_
                  refine lv_icmp_ne (tgt := 190) hx hb dX7_group8or12_175 (by decide) (fun c32 => ?_) (fun c32 => ?_)
                  · have hs := if_f c32 hs
                    refine lv_aload_n hx hb dX7_group8or12_190 rfl (lv_at hl 3 rfl) ?_
                    refine lv_iload hx hb dX7_group8or12_191 (lv_at hl 1 rfl) ?_
                    refine lv_iload hx hb dX7_group8or12_193 (lv_at hl 0 rfl) ?_
                    obtain ⟨S42, h63, hs⟩ := bv_e hs
                    refine kX7_setA C tM_X7_74 ⟨Nat.le_of_ble_eq_true rfl, Nat.le_of_ble_eq_true rfl⟩ ⟨Nat.le_of_ble_eq_true rfl, Nat.le_of_ble_eq_true rfl⟩ hK hP hS hl.1 (rest := []) (Nat.le_of_ble_eq_true rfl) dX7_group8or12_195 h63 (fun H locs hP hS => ?_)
                    refine lv_iconst (v := 1) hx hb dX7_group8or12_198 (by decide) ?_
                    exact u_zret (v := true) hx hb hr hlocks hP hS hs dX7_group8or12_199
                  · have hs := if_t c32 hs
                    refine lv_aload_n hx hb dX7_group8or12_178 rfl (lv_at hl 3 rfl) ?_
                    refine gM_X7_d hx hb hT hown hK hP (hT _ tF_X7_13) dX7_group8or12_179 ?_
                    refine lv_iload hx hb dX7_group8or12_182 (lv_at hl 1 rfl) ?_
                    refine lv_iload hx hb dX7_group8or12_184 (lv_at hl 0 rfl) ?_
                    obtain ⟨h64, hs⟩ := gd_e hs
                    obtain ⟨S43, h65, hs⟩ := lt_e hs
                    refine sM_d hx hb hK hP hS (v := v14) (ixo_in h64) dX7_group8or12_186 h65 (fun H locs hP hS => ?_)
                    refine lv_goto (tgt := 198) hx hb dX7_group8or12_187 (by decide) ?_
                    refine lv_iconst (v := 1) hx hb dX7_group8or12_198 (by decide) ?_
                    exact u_zret (v := true) hx hb hr hlocks hP hS hs dX7_group8or12_199
                ·
                  refine lv_icmp_ne (tgt := 163) hx hb dX7_group8or12_150 (by decide) (fun c33 => ?_) (fun c33 => ?_)
                  · have hs := if_f c33 hs
                    refine lv_aload_n hx hb dX7_group8or12_163 rfl (lv_at hl 6 rfl) ?_
                    refine lv_iload hx hb dX7_group8or12_164 (lv_at hl 1 rfl) ?_
                    obtain ⟨r12, S44, h66, hs⟩ := bd_e hs
                    refine kX7_getA C tM_X7_70 ⟨Nat.le_of_ble_eq_true rfl, Nat.le_of_ble_eq_true rfl⟩ ⟨Nat.le_of_ble_eq_true rfl, Nat.le_of_ble_eq_true rfl⟩ hK hP hS hl.1 (rest := [.int v10, .ref (ad 2)]) (Nat.le_of_ble_eq_true rfl) dX7_group8or12_166 h66 (fun H locs hP hS => ?_)
                    exact J13 r12 S44 _ _ _ (lv_sub hl [0, 1, 3, 6] rfl) hP hS hs
                  · have hs := if_t c33 hs
                    refine lv_aload_n hx hb dX7_group8or12_153 rfl (lv_at hl 6 rfl) ?_
                    refine gM_X7_d hx hb hT hown hK hP (hT _ tF_X7_13) dX7_group8or12_154 ?_
                    refine lv_iload hx hb dX7_group8or12_157 (lv_at hl 1 rfl) ?_
                    obtain ⟨h67, hs⟩ := gd_e hs
                    refine lM_d hx hb hK hP (ixo_in h67) dX7_group8or12_159 ?_
                    refine lv_goto (tgt := 169) hx hb dX7_group8or12_160 (by decide) ?_
                    exact J13 (S.2.2 1 v11.toNatClampNeg) S _ _ _ (lv_sub hl [0, 1, 3, 6] rfl) hP hS hs
        · have hs := if_t c18 hs
          refine lv_aload_n hx hb dX7_group8or12_65 rfl (lv_at hl 2 rfl) ?_
          refine lv_iload_n hx hb dX7_group8or12_66 rfl (lv_at hl 3 rfl) ?_
          refine jn_e hs (fun K14 => ∀ (b18 : Bool) (H : Heap) (locs : List Loc) (ls : Array Slot), lv_has ls 8 [] → va_P D vwCl (wM ad cI cB S) H → va_S (AX 11 ad s.heap.size) s.heap H locs → K14 b18 = some (ro, So) → W p l e rmX7_group8or12 s m ([.ref (ad 0), .int (zI z1)] : List Value).toArray below meth c H locs 0 0 (MQ below (uQ D (wM ad cI cB) (some (.int (zI ro)), So) (AX 11 ad s.heap.size)) ([.ref (ad 0), .int (zI z1)] : List Value).toArray s 0 0 (AX 11 ad s.heap.size)) (F0 m 75 ls [.int (zI b18), .ref (ad 0)])) ?_ (fun K14 J14 hs => ?_)
          · intro b18 H locs ls hl hP hS hs
            obtain ⟨b19, S45, h68, hs⟩ := bd_e hs
            refine kX7_decimal C tM_X7_288 ⟨Nat.le_of_ble_eq_true rfl, Nat.le_of_ble_eq_true rfl⟩ ⟨Nat.le_of_ble_eq_true rfl, Nat.le_of_ble_eq_true rfl⟩ hK hP hS hl.1 (rest := []) (Nat.le_of_ble_eq_true rfl) dX7_group8or12_75 h68 (fun H locs hP hS => ?_)
            exact u_zret (v := b19) hx hb hr hlocks hP hS hs dX7_group8or12_78
          ·
            refine lv_if_ne (tgt := 74) hx hb dX7_group8or12_67 (by decide) (fun c34 => ?_) (fun c34 => ?_)
            · have hs := if_f c34 hs
              refine lv_iconst (v := 0) hx hb dX7_group8or12_74 (by decide) ?_
              exact J14 false _ _ _ (lv_sub hl [] rfl) hP hS hs
            · have hs := if_t c34 hs
              refine lv_iconst (v := 1) hx hb dX7_group8or12_70 (by decide) ?_
              refine lv_goto (tgt := 75) hx hb dX7_group8or12_71 (by decide) ?_
              exact J14 true _ _ _ (lv_sub hl [] rfl) hP hS hs
    · have hs := if_t c1 hs
      refine lv_iload_n hx hb dX7_group8or12_32 rfl (lv_at hl 3 rfl) ?_
      refine lv_if_eq (tgt := 44) hx hb dX7_group8or12_33 (by decide) (fun c35 => ?_) (fun c35 => ?_)
      · have hs := if_t c35 hs
        refine lv_aload_n hx hb dX7_group8or12_44 rfl (lv_at hl 2 rfl) ?_
        refine lv_iload_n hx hb dX7_group8or12_45 rfl (lv_at hl 0 rfl) ?_
        obtain ⟨b20, S46, h69, hs⟩ := bd_e hs
        refine kX7_divide C tM_X7_285 ⟨Nat.le_of_ble_eq_true rfl, Nat.le_of_ble_eq_true rfl⟩ ⟨Nat.le_of_ble_eq_true rfl, Nat.le_of_ble_eq_true rfl⟩ hK hP hS hl.1 (rest := []) (Nat.le_of_ble_eq_true rfl) dX7_group8or12_46 h69 (fun H locs hP hS => ?_)
        exact u_zret (v := b20) hx hb hr hlocks hP hS hs dX7_group8or12_49
      · have hs := if_f c35 hs
        refine lv_aload_n hx hb dX7_group8or12_36 rfl (lv_at hl 2 rfl) ?_
        refine lv_iload_n hx hb dX7_group8or12_37 rfl (lv_at hl 0 rfl) ?_
        obtain ⟨b21, S47, h70, hs⟩ := bd_e hs
        refine kX7_multiply C tM_X7_282 ⟨Nat.le_of_ble_eq_true rfl, Nat.le_of_ble_eq_true rfl⟩ ⟨Nat.le_of_ble_eq_true rfl, Nat.le_of_ble_eq_true rfl⟩ hK hP hS hl.1 (rest := []) (Nat.le_of_ble_eq_true rfl) dX7_group8or12_38 h70 (fun H locs hP hS => ?_)
        refine lv_goto (tgt := 49) hx hb dX7_group8or12_41 (by decide) ?_
        exact u_zret (v := b21) hx hb hr hlocks hP hS hs dX7_group8or12_49
  ·
    refine lv_if_eq (tgt := 25) hx hb dX7_group8or12_18 (by decide) (fun c36 => ?_) (fun c36 => ?_)
    · have hs := if_t c36 hs
      refine lv_iconst (v := 0) hx hb dX7_group8or12_25 (by decide) ?_
      exact J1 false _ _ _ (lv_sub hl [0, 1, 2] rfl) hP hS hs
    · have hs := if_f c36 hs
      refine lv_iconst (v := 1) hx hb dX7_group8or12_21 (by decide) ?_
      refine lv_goto (tgt := 26) hx hb dX7_group8or12_22 (by decide) ?_
      exact J1 true _ _ _ (lv_sub hl [0, 1, 2] rfl) hP hS hs
theorem kX7_group8or12 {p : Program} {l : Launch} {e : Env} {R : Room} {s : State} {m : MethodId} {args : Array Value} {below : List Frame} {meth : Method} {c : Code} {H : Heap} {locs : List Loc} {cells slots : Nat} {Q : State → Prop} {cc : ByteArray} {pc nL : Nat} {ls : Array Slot} {rest : List Value} {D : va_G} {ad : Nat → Nat} {cI cB : ClassId} {en : Nat → Nat} {S : St} {own : String} {index : Nat} {z1 : Bool} {ro : Bool} {So : St} (C : CallFix p m c cc nL s args wG own) (hlk : Cond.methodLink own index yX7_group8or12 ∈ wG) (hR : rmX7_group8or12.frames + 1 ≤ R.frames ∧ 8 + (8 + 11) + rmX7_group8or12.locals ≤ R.locals) (hc : cells ≤ R.cells ∧ slots ≤ R.slots) (hK : KM D ad cI cB en s) (hP : va_P D vwCl (wM ad cI cB S) H) (hS : va_S (AX 11 ad s.heap.size) s.heap H locs) (hls : ls.size = nL) (hrest : (rest.map fun v => v.category).sum ≤ 8) (hd : decode cc pc = .ok (.invokevirtual index, 3)) (hs : fX7_group8or12 z1 S = some (ro, So)) (k : ∀ (H : Heap) (locs : List Loc), va_P D vwCl (wM ad cI cB So) H → va_S (AX 11 ad s.heap.size) s.heap H locs → W p l e R s m args below meth c H locs cells slots Q (F0 m (pc + 3) ls (.int (zI ro) :: rest))) : W p l e R s m args below meth c H locs cells slots Q (F0 m pc ls (.int (zI z1) :: .ref (ad 0) :: rest)) :=
  u_callV (n := 1) (mX7_group8or12 l D ad cI cB en S z1 ro So hs) C uK_M (wg_V hlk tI_X7_group8or12 tS_X7_group8or12 tN_X7 tK_X7_group8or12) rfl rfl rfl (by decide +kernel) hR rfl (va_recv hK.1 hP (ci := 6) (q0 := 0) rfl rfl) hK hP hS hls hrest hd hc rfl k
def fX7_sumPair (z1 : Bool) (S : St) : Option (Bool × St) :=
    (lt ((((S.1 5) >>> ((6 : Int32) &&& 31)) &&& 3) : Int32) fun v1 => (jn (fun (b1 : Bool) => (lt ((((S.1 5) >>> ((9 : Int32) &&& 31)) &&& 7) : Int32) fun v2 => (if v1 = 3 then (jn (fun (v7 : Int32) => (bd (fX7_fits ((S.1 5) &&& 63) 0 v7 S) fun b4 S25 => (if (zI b4) = 0 then (some (false, S25))
    else (bv (fX7_operand ((S25.1 5) &&& 63) v7 S25) fun S26 => (bd (fX7_take v7 S26) fun r14 S27 => (bd (fX7_extended r14 v7 S27) fun r15 S28 => (jn (fun (v8 : Int32) (S29 : St) => (bv (fX7_setA v2 v8 S29) fun S30 => (some (true, S30)))) fun K7 =>
    (if (zI z1) = 0 then (bd (fX7_getA v2 S28) fun r16 S31 => (K7 (r16 + r15) S31))
    else (bd (fX7_getA v2 S28) fun r17 S32 => (K7 (r17 - r15) S32)))))))))) fun K6 =>
    (if (zI b1) = 0 then (K6 2)
    else (K6 4)))
    else (bd (fX7_sizeOf v1 S) fun r1 S1 => (if (zI b1) = 0 then (jn (fun (v3 : Int32) => (bd (fX7_fits ((S1.1 5) &&& 63) v3 r1 S1) fun b2 S2 => (if (zI b2) = 0 then (some (false, S2))
    else (bv (fX7_operand ((S2.1 5) &&& 63) r1 S2) fun S3 => (bd (fX7_take r1 S3) fun r2 S4 => (jn (fun (v4 : Int32) (S5 : St) => (if (zI b1) = 0 then (if (S5.1 6) = 0 then (gd (ixo v2 8 = true) (bd (fX7_joined (S5.2.2 1 v2.toNatClampNeg) v4 r1 S5) fun r3 S6 => (gd (ixo v2 8 = true) (lt (sA S6 1 v2.toNatClampNeg r3) fun S7 => (some (true, S7))))))
    else (some (true, S5)))
    else (bv (fX7_give v4 r1 S5) fun S8 => (some (true, S8))))) fun K3 =>
    (if (zI b1) = 0 then (gd (ixo v2 8 = true) (bd (fX7_reckon (S4.2.2 1 v2.toNatClampNeg) r2 0 z1 r1 true false S4) fun r4 S9 => (K3 r4 S9)))
    else (gd (ixo v2 8 = true) (bd (fX7_reckon r2 (S4.2.2 1 v2.toNatClampNeg) 0 z1 r1 true false S4) fun r5 S10 => (K3 r5 S10)))))))))) fun K2 =>
    (if (zI b1) = 0 then (K2 0)
    else (K2 2)))
    else (if ((S1.1 5) &&& 48) = 0 then (bd (fX7_pair r1 S1) fun r10 S20 => (bd (fX7_take r1 S20) fun r11 S21 => (bd (fX7_x S21) fun r12 S22 => (bd (fX7_reckon r11 r10 r12 z1 r1 true true S22) fun r13 S23 => (bv (fX7_give r13 r1 S23) fun S24 => (some (true, S24)))))))
    else (jn (fun (v5 : Int32) => (bd (fX7_fits ((S1.1 5) &&& 63) v5 r1 S1) fun b3 S11 => (if (zI b3) = 0 then (some (false, S11))
    else (bv (fX7_operand ((S11.1 5) &&& 63) r1 S11) fun S12 => (bd (fX7_take r1 S12) fun r6 S13 => (jn (fun (v6 : Int32) (S14 : St) => (if (zI b1) = 0 then (if (S14.1 6) = 0 then (gd (ixo v2 8 = true) (bd (fX7_joined (S14.2.2 1 v2.toNatClampNeg) v6 r1 S14) fun r7 S15 => (gd (ixo v2 8 = true) (lt (sA S15 1 v2.toNatClampNeg r7) fun S16 => (some (true, S16))))))
    else (some (true, S14)))
    else (bv (fX7_give v6 r1 S14) fun S17 => (some (true, S17))))) fun K5 =>
    (if (zI b1) = 0 then (gd (ixo v2 8 = true) (bd (fX7_reckon (S13.2.2 1 v2.toNatClampNeg) r6 0 z1 r1 true false S13) fun r8 S18 => (K5 r8 S18)))
    else (gd (ixo v2 8 = true) (bd (fX7_reckon r6 (S13.2.2 1 v2.toNatClampNeg) 0 z1 r1 true false S13) fun r9 S19 => (K5 r9 S19)))))))))) fun K4 =>
    (if (zI b1) = 0 then (K4 0)
    else (K4 2))))))))) fun K1 =>
    (if ((S.1 5) &&& 256) = 0 then (K1 false)
    else (K1 true))))
abbrev rmX7_sumPair : Room := { frames := 7, cells := 0, slots := 0, locals := 161 }
set_option maxRecDepth 100000 in
set_option maxHeartbeats 4000000 in
theorem mX7_sumPair (l : Launch) (D : va_G) (ad : Nat → Nat) (cI cB : ClassId) (en : Nat → Nat) (S : St) (z1 : Bool) (ro : Bool) (So : St) (hs : fX7_sumPair z1 S = some (ro, So)) : uM l yX7_sumPair (wg yX7_sumPair cX7_sumPair 8 (some .boolean)) rmX7_sumPair (KM D ad cI cB en) D (wM ad cI cB) (AX 11 ad) [.ref (ad 0), .int (zI z1)] S (some (.int (zI ro)), So) := by
  refine uM_start (by decide) rfl ?_
  intro p e s m below meth c hx hb hr hlocks hml hown hts hK hP
  have hT : ∀ w ∈ wG, w.before _ s = true := fun w h => hts w (List.mem_cons_of_mem _ h)
  have hS : va_S (AX 11 ad s.heap.size) s.heap s.heap [] := va_S.rf
  have hown : s.vm.findClass RX7 = some m.cls := hown
  have C : CallFix p m c cX7_sumPair 8 s _ wG RX7 := ⟨hx, hb, hml, hown, hT⟩
  have hl := lv_entry ([.ref (ad 0), .int (zI z1)]) (n := 8) (Nat.le_of_ble_eq_true rfl)
  rw [lg_entry_eq]
  generalize (lg_sl ([.ref (ad 0), .int (zI z1)]) ++ List.replicate (8 - (lg_sl ([.ref (ad 0), .int (zI z1)])).length) Slot.unset).toArray = ls at hl ⊢
  have hl : lv_has ls 8 [(0, .ref (ad 0)), (1, .int (zI z1))] := hl
  unfold fX7_sumPair at hs
  refine lv_aload_n hx hb dX7_sumPair_0 rfl (lv_at hl 0 rfl) ?_
  refine gM_X7_op hx hb hT hown hK hP (hT _ tF_X7_174) dX7_sumPair_1 ?_
  refine lv_bipush (v := 6) hx hb dX7_sumPair_4 (by decide) ?_
  refine lv_ishr hx hb dX7_sumPair_6 ?_
  refine lv_iconst (v := 3) hx hb dX7_sumPair_7 (by decide) ?_
  refine lv_iand hx hb dX7_sumPair_8 ?_
  obtain ⟨v1, h1, hs⟩ := lt_e hs
  refine u_top h1 ?_
  refine lv_istore_n (lv' := [(2, .int v1), (0, .ref (ad 0)), (1, .int (zI z1))]) hx hb dX7_sumPair_9 rfl hl (by decide) rfl (fun ls hl => ?_)
  refine lv_aload_n hx hb dX7_sumPair_10 rfl (lv_at hl 1 rfl) ?_
  refine gM_X7_op hx hb hT hown hK hP (hT _ tF_X7_174) dX7_sumPair_11 ?_
  refine lv_sipush (v := 256) hx hb dX7_sumPair_14 (by decide) ?_
  refine lv_iand hx hb dX7_sumPair_17 ?_
  refine jn_e hs (fun K1 => ∀ (b1 : Bool) (H : Heap) (locs : List Loc) (ls : Array Slot), lv_has ls 8 [(2, .int v1), (0, .ref (ad 0)), (1, .int (zI z1))] → va_P D vwCl (wM ad cI cB S) H → va_S (AX 11 ad s.heap.size) s.heap H locs → K1 b1 = some (ro, So) → W p l e rmX7_sumPair s m ([.ref (ad 0), .int (zI z1)] : List Value).toArray below meth c H locs 0 0 (MQ below (uQ D (wM ad cI cB) (some (.int (zI ro)), So) (AX 11 ad s.heap.size)) ([.ref (ad 0), .int (zI z1)] : List Value).toArray s 0 0 (AX 11 ad s.heap.size)) (F0 m 26 ls [.int (zI b1)])) ?_ (fun K1 J1 hs => ?_)
  · intro b1 H locs ls hl hP hS hs
    refine lv_istore_n (lv' := [(3, .int (zI b1)), (2, .int v1), (0, .ref (ad 0)), (1, .int (zI z1))]) hx hb dX7_sumPair_26 rfl hl (by decide) rfl (fun ls hl => ?_)
    refine lv_aload_n hx hb dX7_sumPair_27 rfl (lv_at hl 2 rfl) ?_
    refine gM_X7_op hx hb hT hown hK hP (hT _ tF_X7_174) dX7_sumPair_28 ?_
    refine lv_bipush (v := 9) hx hb dX7_sumPair_31 (by decide) ?_
    refine lv_ishr hx hb dX7_sumPair_33 ?_
    refine lv_bipush (v := 7) hx hb dX7_sumPair_34 (by decide) ?_
    refine lv_iand hx hb dX7_sumPair_36 ?_
    obtain ⟨v2, h2, hs⟩ := lt_e hs
    refine u_top h2 ?_
    refine lv_istore (lv' := [(4, .int v2), (3, .int (zI b1)), (2, .int v1), (0, .ref (ad 0)), (1, .int (zI z1))]) hx hb dX7_sumPair_37 hl (by decide) rfl (fun ls hl => ?_)
    refine lv_iload_n hx hb dX7_sumPair_39 rfl (lv_at hl 2 rfl) ?_
    refine lv_iconst (v := 3) hx hb dX7_sumPair_40 (by decide) ?_
    refine lv_icmp_ne (tgt := 132) hx hb dX7_sumPair_41 (by decide) (fun c1 => ?_) (fun c1 => ?_)
    · have hs := if_f c1 hs
      refine lv_iload_n hx hb dX7_sumPair_132 rfl (lv_at hl 2 rfl) ?_
      obtain ⟨r1, S1, h3, hs⟩ := bd_e hs
      refine kX7_sizeOf C tM_X7_211 ⟨Nat.le_of_ble_eq_true rfl, Nat.le_of_ble_eq_true rfl⟩ ⟨Nat.le_of_ble_eq_true rfl, Nat.le_of_ble_eq_true rfl⟩ hK hP hS hl.1 (rest := []) (Nat.le_of_ble_eq_true rfl) dX7_sumPair_133 h3 (fun H locs hP hS => ?_)
      refine lv_istore (lv' := [(5, .int r1), (4, .int v2), (3, .int (zI b1)), (2, .int v1), (0, .ref (ad 0)), (1, .int (zI z1))]) hx hb dX7_sumPair_136 hl (by decide) rfl (fun ls hl => ?_)
      refine lv_iload_n hx hb dX7_sumPair_138 rfl (lv_at hl 2 rfl) ?_
      refine lv_if_eq (tgt := 193) hx hb dX7_sumPair_139 (by decide) (fun c2 => ?_) (fun c2 => ?_)
      · have hs := if_t c2 hs
        refine lv_aload_n hx hb dX7_sumPair_193 rfl (lv_at hl 4 rfl) ?_
        refine gM_X7_op hx hb hT hown hK hP (hT _ tF_X7_174) dX7_sumPair_194 ?_
        refine lv_bipush (v := 63) hx hb dX7_sumPair_197 (by decide) ?_
        refine lv_iand hx hb dX7_sumPair_199 ?_
        refine lv_iload_n hx hb dX7_sumPair_200 rfl (lv_at hl 2 rfl) ?_
        refine jn_e hs (fun K2 => ∀ (v3 : Int32) (H : Heap) (locs : List Loc) (ls : Array Slot), lv_has ls 8 [(5, .int r1), (4, .int v2), (3, .int (zI b1)), (0, .ref (ad 0)), (1, .int (zI z1))] → va_P D vwCl (wM ad cI cB S1) H → va_S (AX 11 ad s.heap.size) s.heap H locs → K2 v3 = some (ro, So) → W p l e rmX7_sumPair s m ([.ref (ad 0), .int (zI z1)] : List Value).toArray below meth c H locs 0 0 (MQ below (uQ D (wM ad cI cB) (some (.int (zI ro)), So) (AX 11 ad s.heap.size)) ([.ref (ad 0), .int (zI z1)] : List Value).toArray s 0 0 (AX 11 ad s.heap.size)) (F0 m 209 ls [.int v3, .int ((S1.1 5) &&& 63)])) ?_ (fun K2 J2 hs => ?_)
        · intro v3 H locs ls hl hP hS hs
          refine lv_iload hx hb dX7_sumPair_209 (lv_at hl 0 rfl) ?_
          obtain ⟨b2, S2, h4, hs⟩ := bd_e hs
          refine kX7_fits C tM_X7_188 ⟨Nat.le_of_ble_eq_true rfl, Nat.le_of_ble_eq_true rfl⟩ ⟨Nat.le_of_ble_eq_true rfl, Nat.le_of_ble_eq_true rfl⟩ hK hP hS hl.1 (rest := []) (Nat.le_of_ble_eq_true rfl) dX7_sumPair_211 h4 (fun H locs hP hS => ?_)
          refine lv_if_ne (tgt := 219) hx hb dX7_sumPair_214 (by decide) (fun c3 => ?_) (fun c3 => ?_)
          · have hs := if_f c3 hs
            refine lv_aload_n hx hb dX7_sumPair_219 rfl (lv_at hl 3 rfl) ?_
            refine lv_aload_n hx hb dX7_sumPair_220 rfl (lv_at hl 3 rfl) ?_
            refine gM_X7_op hx hb hT hown hK hP (hT _ tF_X7_174) dX7_sumPair_221 ?_
            refine lv_bipush (v := 63) hx hb dX7_sumPair_224 (by decide) ?_
            refine lv_iand hx hb dX7_sumPair_226 ?_
            refine lv_iload hx hb dX7_sumPair_227 (lv_at hl 0 rfl) ?_
            obtain ⟨S3, h5, hs⟩ := bv_e hs
            refine kX7_operand C tM_X7_192 ⟨Nat.le_of_ble_eq_true rfl, Nat.le_of_ble_eq_true rfl⟩ ⟨Nat.le_of_ble_eq_true rfl, Nat.le_of_ble_eq_true rfl⟩ hK hP hS hl.1 (rest := []) (Nat.le_of_ble_eq_true rfl) dX7_sumPair_229 h5 (fun H locs hP hS => ?_)
            refine lv_aload_n hx hb dX7_sumPair_232 rfl (lv_at hl 3 rfl) ?_
            refine lv_iload hx hb dX7_sumPair_233 (lv_at hl 0 rfl) ?_
            obtain ⟨r2, S4, h6, hs⟩ := bd_e hs
            refine kX7_take C tM_X7_195 ⟨Nat.le_of_ble_eq_true rfl, Nat.le_of_ble_eq_true rfl⟩ ⟨Nat.le_of_ble_eq_true rfl, Nat.le_of_ble_eq_true rfl⟩ hK hP hS hl.1 (rest := []) (Nat.le_of_ble_eq_true rfl) dX7_sumPair_235 h6 (fun H locs hP hS => ?_)
            refine lv_istore (lv' := [(6, .int r2), (5, .int r1), (4, .int v2), (3, .int (zI b1)), (0, .ref (ad 0)), (1, .int (zI z1))]) hx hb dX7_sumPair_238 hl (by decide) rfl (fun ls hl => ?_)
            refine lv_iload_n hx hb dX7_sumPair_240 rfl (lv_at hl 3 rfl) ?_
            refine jn_e hs (fun K3 => ∀ (v4 : Int32) (S5 : St) (H : Heap) (locs : List Loc) (ls : Array Slot), lv_has ls 8 [(5, .int r1), (4, .int v2), (3, .int (zI b1)), (0, .ref (ad 0))] → va_P D vwCl (wM ad cI cB S5) H → va_S (AX 11 ad s.heap.size) s.heap H locs → K3 v4 S5 = some (ro, So) → W p l e rmX7_sumPair s m ([.ref (ad 0), .int (zI z1)] : List Value).toArray below meth c H locs 0 0 (MQ below (uQ D (wM ad cI cB) (some (.int (zI ro)), So) (AX 11 ad s.heap.size)) ([.ref (ad 0), .int (zI z1)] : List Value).toArray s 0 0 (AX 11 ad s.heap.size)) (F0 m 285 ls [.int v4])) ?_ (fun K3 J3 hs => ?_)
            · intro v4 S5 H locs ls hl hP hS hs
              refine lv_istore (lv' := [(7, .int v4), (5, .int r1), (4, .int v2), (3, .int (zI b1)), (0, .ref (ad 0))]) hx hb dX7_sumPair_285 hl (by decide) rfl (fun ls hl => ?_)
              refine lv_iload_n hx hb dX7_sumPair_287 rfl (lv_at hl 3 rfl) ?_
              refine lv_if_eq (tgt := 302) hx hb dX7_sumPair_288 (by decide) (fun c4 => ?_) (fun c4 => ?_)
              · have hs := if_t c4 hs
                refine lv_aload_n hx hb dX7_sumPair_302 rfl (lv_at hl 4 rfl) ?_
                refine gM_X7_trouble hx hb hT hown hK hP (hT _ tF_X7_100) dX7_sumPair_303 ?_
                refine lv_if_ne (tgt := 330) hx hb dX7_sumPair_306 (by decide) (fun c5 => ?_) (fun c5 => ?_)
                · have hs := if_f c5 hs
                  refine lv_iconst (v := 1) hx hb dX7_sumPair_330 (by decide) ?_
                  exact u_zret (v := true) hx hb hr hlocks hP hS hs dX7_sumPair_331
                · have hs := if_t c5 hs
                  refine lv_aload_n hx hb dX7_sumPair_309 rfl (lv_at hl 4 rfl) ?_
                  refine gM_X7_d hx hb hT hown hK hP (hT _ tF_X7_13) dX7_sumPair_310 ?_
                  refine lv_iload hx hb dX7_sumPair_313 (lv_at hl 2 rfl) ?_
                  refine lv_aload_n hx hb dX7_sumPair_315 rfl (lv_at hl 4 rfl) ?_
                  refine gM_X7_d hx hb hT hown hK hP (hT _ tF_X7_13) dX7_sumPair_316 ?_
                  refine lv_iload hx hb dX7_sumPair_319 (lv_at hl 2 rfl) ?_
                  obtain ⟨h7, hs⟩ := gd_e hs
                  refine lM_d hx hb hK hP (ixo_in h7) dX7_sumPair_321 ?_
                  refine lv_iload hx hb dX7_sumPair_322 (lv_at hl 0 rfl) ?_
                  refine lv_iload hx hb dX7_sumPair_324 (lv_at hl 1 rfl) ?_
                  obtain ⟨r3, S6, h8, hs⟩ := bd_e hs
                  refine kX7_joined C tM_X7_150 ⟨Nat.le_of_ble_eq_true rfl, Nat.le_of_ble_eq_true rfl⟩ ⟨Nat.le_of_ble_eq_true rfl, Nat.le_of_ble_eq_true rfl⟩ hK hP hS hl.1 (rest := [.int v2, .ref (ad 2)]) (Nat.le_of_ble_eq_true rfl) dX7_sumPair_326 h8 (fun H locs hP hS => ?_)
                  obtain ⟨h9, hs⟩ := gd_e hs
                  obtain ⟨S7, h10, hs⟩ := lt_e hs
                  refine sM_d hx hb hK hP hS (v := r3) (ixo_in h9) dX7_sumPair_329 h10 (fun H locs hP hS => ?_)
                  refine lv_iconst (v := 1) hx hb dX7_sumPair_330 (by decide) ?_
                  exact u_zret (v := true) hx hb hr hlocks hP hS hs dX7_sumPair_331
              · have hs := if_f c4 hs
                refine lv_aload_n hx hb dX7_sumPair_291 rfl (lv_at hl 4 rfl) ?_
                refine lv_iload hx hb dX7_sumPair_292 (lv_at hl 0 rfl) ?_
                refine lv_iload hx hb dX7_sumPair_294 (lv_at hl 1 rfl) ?_
                obtain ⟨S8, h11, hs⟩ := bv_e hs
                refine kX7_give C tM_X7_198 ⟨Nat.le_of_ble_eq_true rfl, Nat.le_of_ble_eq_true rfl⟩ ⟨Nat.le_of_ble_eq_true rfl, Nat.le_of_ble_eq_true rfl⟩ hK hP hS hl.1 (rest := []) (Nat.le_of_ble_eq_true rfl) dX7_sumPair_296 h11 (fun H locs hP hS => ?_)
                refine lv_goto (tgt := 330) hx hb dX7_sumPair_299 (by decide) ?_
                refine lv_iconst (v := 1) hx hb dX7_sumPair_330 (by decide) ?_
                exact u_zret (v := true) hx hb hr hlocks hP hS hs dX7_sumPair_331
            ·
              refine lv_if_eq (tgt := 266) hx hb dX7_sumPair_241 (by decide) (fun c6 => ?_) (fun c6 => ?_)
              · have hs := if_t c6 hs
                refine lv_aload_n hx hb dX7_sumPair_266 rfl (lv_at hl 4 rfl) ?_
                refine lv_aload_n hx hb dX7_sumPair_267 rfl (lv_at hl 4 rfl) ?_
                refine gM_X7_d hx hb hT hown hK hP (hT _ tF_X7_13) dX7_sumPair_268 ?_
                refine lv_iload hx hb dX7_sumPair_271 (lv_at hl 2 rfl) ?_
                obtain ⟨h12, hs⟩ := gd_e hs
                refine lM_d hx hb hK hP (ixo_in h12) dX7_sumPair_273 ?_
                refine lv_iload hx hb dX7_sumPair_274 (lv_at hl 0 rfl) ?_
                refine lv_iconst (v := 0) hx hb dX7_sumPair_276 (by decide) ?_
                refine lv_iload_n hx hb dX7_sumPair_277 rfl (lv_at hl 5 rfl) ?_
                refine lv_iload hx hb dX7_sumPair_278 (lv_at hl 1 rfl) ?_
                refine lv_iconst (v := 1) hx hb dX7_sumPair_280 (by decide) ?_
                refine lv_iconst (v := 0) hx hb dX7_sumPair_281 (by decide) ?_
                obtain ⟨r4, S9, h13, hs⟩ := bd_e hs
                refine kX7_reckon C tM_X7_167 ⟨Nat.le_of_ble_eq_true rfl, Nat.le_of_ble_eq_true rfl⟩ ⟨Nat.le_of_ble_eq_true rfl, Nat.le_of_ble_eq_true rfl⟩ hK hP hS hl.1 (rest := []) (Nat.le_of_ble_eq_true rfl) dX7_sumPair_282 h13 (fun H locs hP hS => ?_)
                exact J3 r4 S9 _ _ _ (lv_sub hl [1, 2, 3, 4] rfl) hP hS hs
              · have hs := if_f c6 hs
                refine lv_aload_n hx hb dX7_sumPair_244 rfl (lv_at hl 4 rfl) ?_
                refine lv_iload hx hb dX7_sumPair_245 (lv_at hl 0 rfl) ?_
                refine lv_aload_n hx hb dX7_sumPair_247 rfl (lv_at hl 4 rfl) ?_
                refine gM_X7_d hx hb hT hown hK hP (hT _ tF_X7_13) dX7_sumPair_248 ?_
                refine lv_iload hx hb dX7_sumPair_251 (lv_at hl 2 rfl) ?_
                obtain ⟨h14, hs⟩ := gd_e hs
                refine lM_d hx hb hK hP (ixo_in h14) dX7_sumPair_253 ?_
                refine lv_iconst (v := 0) hx hb dX7_sumPair_254 (by decide) ?_
                refine lv_iload_n hx hb dX7_sumPair_255 rfl (lv_at hl 5 rfl) ?_
                refine lv_iload hx hb dX7_sumPair_256 (lv_at hl 1 rfl) ?_
                refine lv_iconst (v := 1) hx hb dX7_sumPair_258 (by decide) ?_
                refine lv_iconst (v := 0) hx hb dX7_sumPair_259 (by decide) ?_
                obtain ⟨r5, S10, h15, hs⟩ := bd_e hs
                refine kX7_reckon C tM_X7_167 ⟨Nat.le_of_ble_eq_true rfl, Nat.le_of_ble_eq_true rfl⟩ ⟨Nat.le_of_ble_eq_true rfl, Nat.le_of_ble_eq_true rfl⟩ hK hP hS hl.1 (rest := []) (Nat.le_of_ble_eq_true rfl) dX7_sumPair_260 h15 (fun H locs hP hS => ?_)
                refine lv_goto (tgt := 285) hx hb dX7_sumPair_263 (by decide) ?_
                exact J3 r5 S10 _ _ _ (lv_sub hl [1, 2, 3, 4] rfl) hP hS hs
          · have hs := if_t c3 hs
            refine lv_iconst (v := 0) hx hb dX7_sumPair_217 (by decide) ?_
            exact u_zret (v := false) hx hb hr hlocks hP hS hs dX7_sumPair_218
        ·
          refine lv_if_eq (tgt := 208) hx hb dX7_sumPair_201 (by decide) (fun c7 => ?_) (fun c7 => ?_)
          · have hs := if_t c7 hs
            refine lv_iconst (v := 0) hx hb dX7_sumPair_208 (by decide) ?_
            exact J2 0 _ _ _ (lv_sub hl [0, 1, 2, 4, 5] rfl) hP hS hs
          · have hs := if_f c7 hs
            refine lv_iconst (v := 2) hx hb dX7_sumPair_204 (by decide) ?_
            refine lv_goto (tgt := 209) hx hb dX7_sumPair_205 (by decide) ?_
            exact J2 2 _ _ _ (lv_sub hl [0, 1, 2, 4, 5] rfl) hP hS hs
      · have hs := if_f c2 hs
        refine lv_aload_n hx hb dX7_sumPair_142 rfl (lv_at hl 4 rfl) ?_
        refine gM_X7_op hx hb hT hown hK hP (hT _ tF_X7_174) dX7_sumPair_143 ?_
        refine lv_bipush (v := 48) hx hb dX7_sumPair_146 (by decide) ?_
        refine lv_iand hx hb dX7_sumPair_148 ?_
        refine lv_if_ne (tgt := 193) hx hb dX7_sumPair_149 (by decide) (fun c8 => ?_) (fun c8 => ?_)
        · have hs := if_f c8 hs
          refine lv_aload_n hx hb dX7_sumPair_193 rfl (lv_at hl 4 rfl) ?_
          refine gM_X7_op hx hb hT hown hK hP (hT _ tF_X7_174) dX7_sumPair_194 ?_
          refine lv_bipush (v := 63) hx hb dX7_sumPair_197 (by decide) ?_
          refine lv_iand hx hb dX7_sumPair_199 ?_
          refine lv_iload_n hx hb dX7_sumPair_200 rfl (lv_at hl 2 rfl) ?_
          refine jn_e hs (fun K4 => ∀ (v5 : Int32) (H : Heap) (locs : List Loc) (ls : Array Slot), lv_has ls 8 [(5, .int r1), (4, .int v2), (3, .int (zI b1)), (0, .ref (ad 0)), (1, .int (zI z1))] → va_P D vwCl (wM ad cI cB S1) H → va_S (AX 11 ad s.heap.size) s.heap H locs → K4 v5 = some (ro, So) → W p l e rmX7_sumPair s m ([.ref (ad 0), .int (zI z1)] : List Value).toArray below meth c H locs 0 0 (MQ below (uQ D (wM ad cI cB) (some (.int (zI ro)), So) (AX 11 ad s.heap.size)) ([.ref (ad 0), .int (zI z1)] : List Value).toArray s 0 0 (AX 11 ad s.heap.size)) (F0 m 209 ls [.int v5, .int ((S1.1 5) &&& 63)])) ?_ (fun K4 J4 hs => ?_)
          · intro v5 H locs ls hl hP hS hs
            refine lv_iload hx hb dX7_sumPair_209 (lv_at hl 0 rfl) ?_
            obtain ⟨b3, S11, h16, hs⟩ := bd_e hs
            refine kX7_fits C tM_X7_188 ⟨Nat.le_of_ble_eq_true rfl, Nat.le_of_ble_eq_true rfl⟩ ⟨Nat.le_of_ble_eq_true rfl, Nat.le_of_ble_eq_true rfl⟩ hK hP hS hl.1 (rest := []) (Nat.le_of_ble_eq_true rfl) dX7_sumPair_211 h16 (fun H locs hP hS => ?_)
            refine lv_if_ne (tgt := 219) hx hb dX7_sumPair_214 (by decide) (fun c9 => ?_) (fun c9 => ?_)
            · have hs := if_f c9 hs
              refine lv_aload_n hx hb dX7_sumPair_219 rfl (lv_at hl 3 rfl) ?_
              refine lv_aload_n hx hb dX7_sumPair_220 rfl (lv_at hl 3 rfl) ?_
              refine gM_X7_op hx hb hT hown hK hP (hT _ tF_X7_174) dX7_sumPair_221 ?_
              refine lv_bipush (v := 63) hx hb dX7_sumPair_224 (by decide) ?_
              refine lv_iand hx hb dX7_sumPair_226 ?_
              refine lv_iload hx hb dX7_sumPair_227 (lv_at hl 0 rfl) ?_
              obtain ⟨S12, h17, hs⟩ := bv_e hs
              refine kX7_operand C tM_X7_192 ⟨Nat.le_of_ble_eq_true rfl, Nat.le_of_ble_eq_true rfl⟩ ⟨Nat.le_of_ble_eq_true rfl, Nat.le_of_ble_eq_true rfl⟩ hK hP hS hl.1 (rest := []) (Nat.le_of_ble_eq_true rfl) dX7_sumPair_229 h17 (fun H locs hP hS => ?_)
              refine lv_aload_n hx hb dX7_sumPair_232 rfl (lv_at hl 3 rfl) ?_
              refine lv_iload hx hb dX7_sumPair_233 (lv_at hl 0 rfl) ?_
              obtain ⟨r6, S13, h18, hs⟩ := bd_e hs
              refine kX7_take C tM_X7_195 ⟨Nat.le_of_ble_eq_true rfl, Nat.le_of_ble_eq_true rfl⟩ ⟨Nat.le_of_ble_eq_true rfl, Nat.le_of_ble_eq_true rfl⟩ hK hP hS hl.1 (rest := []) (Nat.le_of_ble_eq_true rfl) dX7_sumPair_235 h18 (fun H locs hP hS => ?_)
              refine lv_istore (lv' := [(6, .int r6), (5, .int r1), (4, .int v2), (3, .int (zI b1)), (0, .ref (ad 0)), (1, .int (zI z1))]) hx hb dX7_sumPair_238 hl (by decide) rfl (fun ls hl => ?_)
              refine lv_iload_n hx hb dX7_sumPair_240 rfl (lv_at hl 3 rfl) ?_
              refine jn_e hs (fun K5 => ∀ (v6 : Int32) (S14 : St) (H : Heap) (locs : List Loc) (ls : Array Slot), lv_has ls 8 [(5, .int r1), (4, .int v2), (3, .int (zI b1)), (0, .ref (ad 0))] → va_P D vwCl (wM ad cI cB S14) H → va_S (AX 11 ad s.heap.size) s.heap H locs → K5 v6 S14 = some (ro, So) → W p l e rmX7_sumPair s m ([.ref (ad 0), .int (zI z1)] : List Value).toArray below meth c H locs 0 0 (MQ below (uQ D (wM ad cI cB) (some (.int (zI ro)), So) (AX 11 ad s.heap.size)) ([.ref (ad 0), .int (zI z1)] : List Value).toArray s 0 0 (AX 11 ad s.heap.size)) (F0 m 285 ls [.int v6])) ?_ (fun K5 J5 hs => ?_)
              · intro v6 S14 H locs ls hl hP hS hs
                refine lv_istore (lv' := [(7, .int v6), (5, .int r1), (4, .int v2), (3, .int (zI b1)), (0, .ref (ad 0))]) hx hb dX7_sumPair_285 hl (by decide) rfl (fun ls hl => ?_)
                refine lv_iload_n hx hb dX7_sumPair_287 rfl (lv_at hl 3 rfl) ?_
                refine lv_if_eq (tgt := 302) hx hb dX7_sumPair_288 (by decide) (fun c10 => ?_) (fun c10 => ?_)
                · have hs := if_t c10 hs
                  refine lv_aload_n hx hb dX7_sumPair_302 rfl (lv_at hl 4 rfl) ?_
                  refine gM_X7_trouble hx hb hT hown hK hP (hT _ tF_X7_100) dX7_sumPair_303 ?_
                  refine lv_if_ne (tgt := 330) hx hb dX7_sumPair_306 (by decide) (fun c11 => ?_) (fun c11 => ?_)
                  · have hs := if_f c11 hs
                    refine lv_iconst (v := 1) hx hb dX7_sumPair_330 (by decide) ?_
                    exact u_zret (v := true) hx hb hr hlocks hP hS hs dX7_sumPair_331
                  · have hs := if_t c11 hs
                    refine lv_aload_n hx hb dX7_sumPair_309 rfl (lv_at hl 4 rfl) ?_
                    refine gM_X7_d hx hb hT hown hK hP (hT _ tF_X7_13) dX7_sumPair_310 ?_
                    refine lv_iload hx hb dX7_sumPair_313 (lv_at hl 2 rfl) ?_
                    refine lv_aload_n hx hb dX7_sumPair_315 rfl (lv_at hl 4 rfl) ?_
                    refine gM_X7_d hx hb hT hown hK hP (hT _ tF_X7_13) dX7_sumPair_316 ?_
                    refine lv_iload hx hb dX7_sumPair_319 (lv_at hl 2 rfl) ?_
                    obtain ⟨h19, hs⟩ := gd_e hs
                    refine lM_d hx hb hK hP (ixo_in h19) dX7_sumPair_321 ?_
                    refine lv_iload hx hb dX7_sumPair_322 (lv_at hl 0 rfl) ?_
                    refine lv_iload hx hb dX7_sumPair_324 (lv_at hl 1 rfl) ?_
                    obtain ⟨r7, S15, h20, hs⟩ := bd_e hs
                    refine kX7_joined C tM_X7_150 ⟨Nat.le_of_ble_eq_true rfl, Nat.le_of_ble_eq_true rfl⟩ ⟨Nat.le_of_ble_eq_true rfl, Nat.le_of_ble_eq_true rfl⟩ hK hP hS hl.1 (rest := [.int v2, .ref (ad 2)]) (Nat.le_of_ble_eq_true rfl) dX7_sumPair_326 h20 (fun H locs hP hS => ?_)
                    obtain ⟨h21, hs⟩ := gd_e hs
                    obtain ⟨S16, h22, hs⟩ := lt_e hs
                    refine sM_d hx hb hK hP hS (v := r7) (ixo_in h21) dX7_sumPair_329 h22 (fun H locs hP hS => ?_)
                    refine lv_iconst (v := 1) hx hb dX7_sumPair_330 (by decide) ?_
                    exact u_zret (v := true) hx hb hr hlocks hP hS hs dX7_sumPair_331
                · have hs := if_f c10 hs
                  refine lv_aload_n hx hb dX7_sumPair_291 rfl (lv_at hl 4 rfl) ?_
                  refine lv_iload hx hb dX7_sumPair_292 (lv_at hl 0 rfl) ?_
                  refine lv_iload hx hb dX7_sumPair_294 (lv_at hl 1 rfl) ?_
                  obtain ⟨S17, h23, hs⟩ := bv_e hs
                  refine kX7_give C tM_X7_198 ⟨Nat.le_of_ble_eq_true rfl, Nat.le_of_ble_eq_true rfl⟩ ⟨Nat.le_of_ble_eq_true rfl, Nat.le_of_ble_eq_true rfl⟩ hK hP hS hl.1 (rest := []) (Nat.le_of_ble_eq_true rfl) dX7_sumPair_296 h23 (fun H locs hP hS => ?_)
                  refine lv_goto (tgt := 330) hx hb dX7_sumPair_299 (by decide) ?_
                  refine lv_iconst (v := 1) hx hb dX7_sumPair_330 (by decide) ?_
                  exact u_zret (v := true) hx hb hr hlocks hP hS hs dX7_sumPair_331
              ·
                refine lv_if_eq (tgt := 266) hx hb dX7_sumPair_241 (by decide) (fun c12 => ?_) (fun c12 => ?_)
                · have hs := if_t c12 hs
                  refine lv_aload_n hx hb dX7_sumPair_266 rfl (lv_at hl 4 rfl) ?_
                  refine lv_aload_n hx hb dX7_sumPair_267 rfl (lv_at hl 4 rfl) ?_
                  refine gM_X7_d hx hb hT hown hK hP (hT _ tF_X7_13) dX7_sumPair_268 ?_
                  refine lv_iload hx hb dX7_sumPair_271 (lv_at hl 2 rfl) ?_
                  obtain ⟨h24, hs⟩ := gd_e hs
                  refine lM_d hx hb hK hP (ixo_in h24) dX7_sumPair_273 ?_
                  refine lv_iload hx hb dX7_sumPair_274 (lv_at hl 0 rfl) ?_
                  refine lv_iconst (v := 0) hx hb dX7_sumPair_276 (by decide) ?_
                  refine lv_iload_n hx hb dX7_sumPair_277 rfl (lv_at hl 5 rfl) ?_
                  refine lv_iload hx hb dX7_sumPair_278 (lv_at hl 1 rfl) ?_
                  refine lv_iconst (v := 1) hx hb dX7_sumPair_280 (by decide) ?_
                  refine lv_iconst (v := 0) hx hb dX7_sumPair_281 (by decide) ?_
                  obtain ⟨r8, S18, h25, hs⟩ := bd_e hs
                  refine kX7_reckon C tM_X7_167 ⟨Nat.le_of_ble_eq_true rfl, Nat.le_of_ble_eq_true rfl⟩ ⟨Nat.le_of_ble_eq_true rfl, Nat.le_of_ble_eq_true rfl⟩ hK hP hS hl.1 (rest := []) (Nat.le_of_ble_eq_true rfl) dX7_sumPair_282 h25 (fun H locs hP hS => ?_)
                  exact J5 r8 S18 _ _ _ (lv_sub hl [1, 2, 3, 4] rfl) hP hS hs
                · have hs := if_f c12 hs
                  refine lv_aload_n hx hb dX7_sumPair_244 rfl (lv_at hl 4 rfl) ?_
                  refine lv_iload hx hb dX7_sumPair_245 (lv_at hl 0 rfl) ?_
                  refine lv_aload_n hx hb dX7_sumPair_247 rfl (lv_at hl 4 rfl) ?_
                  refine gM_X7_d hx hb hT hown hK hP (hT _ tF_X7_13) dX7_sumPair_248 ?_
                  refine lv_iload hx hb dX7_sumPair_251 (lv_at hl 2 rfl) ?_
                  obtain ⟨h26, hs⟩ := gd_e hs
                  refine lM_d hx hb hK hP (ixo_in h26) dX7_sumPair_253 ?_
                  refine lv_iconst (v := 0) hx hb dX7_sumPair_254 (by decide) ?_
                  refine lv_iload_n hx hb dX7_sumPair_255 rfl (lv_at hl 5 rfl) ?_
                  refine lv_iload hx hb dX7_sumPair_256 (lv_at hl 1 rfl) ?_
                  refine lv_iconst (v := 1) hx hb dX7_sumPair_258 (by decide) ?_
                  refine lv_iconst (v := 0) hx hb dX7_sumPair_259 (by decide) ?_
                  obtain ⟨r9, S19, h27, hs⟩ := bd_e hs
                  refine kX7_reckon C tM_X7_167 ⟨Nat.le_of_ble_eq_true rfl, Nat.le_of_ble_eq_true rfl⟩ ⟨Nat.le_of_ble_eq_true rfl, Nat.le_of_ble_eq_true rfl⟩ hK hP hS hl.1 (rest := []) (Nat.le_of_ble_eq_true rfl) dX7_sumPair_260 h27 (fun H locs hP hS => ?_)
                  refine lv_goto (tgt := 285) hx hb dX7_sumPair_263 (by decide) ?_
                  exact J5 r9 S19 _ _ _ (lv_sub hl [1, 2, 3, 4] rfl) hP hS hs
            · have hs := if_t c9 hs
              refine lv_iconst (v := 0) hx hb dX7_sumPair_217 (by decide) ?_
              exact u_zret (v := false) hx hb hr hlocks hP hS hs dX7_sumPair_218
          ·
            refine lv_if_eq (tgt := 208) hx hb dX7_sumPair_201 (by decide) (fun c13 => ?_) (fun c13 => ?_)
            · have hs := if_t c13 hs
              refine lv_iconst (v := 0) hx hb dX7_sumPair_208 (by decide) ?_
              exact J4 0 _ _ _ (lv_sub hl [0, 1, 2, 4, 5] rfl) hP hS hs
            · have hs := if_f c13 hs
              refine lv_iconst (v := 2) hx hb dX7_sumPair_204 (by decide) ?_
              refine lv_goto (tgt := 209) hx hb dX7_sumPair_205 (by decide) ?_
              exact J4 2 _ _ _ (lv_sub hl [0, 1, 2, 4, 5] rfl) hP hS hs
        · have hs := if_t c8 hs
          refine lv_aload_n hx hb dX7_sumPair_152 rfl (lv_at hl 4 rfl) ?_
          refine lv_iload hx hb dX7_sumPair_153 (lv_at hl 0 rfl) ?_
          obtain ⟨r10, S20, h28, hs⟩ := bd_e hs
          refine kX7_pair C tM_X7_276 ⟨Nat.le_of_ble_eq_true rfl, Nat.le_of_ble_eq_true rfl⟩ ⟨Nat.le_of_ble_eq_true rfl, Nat.le_of_ble_eq_true rfl⟩ hK hP hS hl.1 (rest := []) (Nat.le_of_ble_eq_true rfl) dX7_sumPair_155 h28 (fun H locs hP hS => ?_)
          refine lv_istore (lv' := [(6, .int r10), (5, .int r1), (4, .int v2), (3, .int (zI b1)), (2, .int v1), (0, .ref (ad 0)), (1, .int (zI z1))]) hx hb dX7_sumPair_158 hl (by decide) rfl (fun ls hl => ?_)
          refine lv_aload_n hx hb dX7_sumPair_160 rfl (lv_at hl 5 rfl) ?_
          refine lv_iload hx hb dX7_sumPair_161 (lv_at hl 1 rfl) ?_
          obtain ⟨r11, S21, h29, hs⟩ := bd_e hs
          refine kX7_take C tM_X7_195 ⟨Nat.le_of_ble_eq_true rfl, Nat.le_of_ble_eq_true rfl⟩ ⟨Nat.le_of_ble_eq_true rfl, Nat.le_of_ble_eq_true rfl⟩ hK hP hS hl.1 (rest := []) (Nat.le_of_ble_eq_true rfl) dX7_sumPair_163 h29 (fun H locs hP hS => ?_)
          refine lv_istore (lv' := [(7, .int r11), (6, .int r10), (5, .int r1), (4, .int v2), (3, .int (zI b1)), (2, .int v1), (0, .ref (ad 0)), (1, .int (zI z1))]) hx hb dX7_sumPair_166 hl (by decide) rfl (fun ls hl => ?_)
          refine lv_aload_n hx hb dX7_sumPair_168 rfl (lv_at hl 6 rfl) ?_
          refine lv_aload_n hx hb dX7_sumPair_169 rfl (lv_at hl 6 rfl) ?_
          refine lv_iload hx hb dX7_sumPair_170 (lv_at hl 0 rfl) ?_
          refine lv_iload hx hb dX7_sumPair_172 (lv_at hl 1 rfl) ?_
          refine lv_aload_n hx hb dX7_sumPair_174 rfl (lv_at hl 6 rfl) ?_
          obtain ⟨r12, S22, h30, hs⟩ := bd_e hs
          refine kX7_x C tM_X7_171 ⟨Nat.le_of_ble_eq_true rfl, Nat.le_of_ble_eq_true rfl⟩ ⟨Nat.le_of_ble_eq_true rfl, Nat.le_of_ble_eq_true rfl⟩ hK hP hS hl.1 (rest := [.int r10, .int r11, .ref (ad 0), .ref (ad 0)]) (Nat.le_of_ble_eq_true rfl) dX7_sumPair_175 h30 (fun H locs hP hS => ?_)
          refine lv_iload_n hx hb dX7_sumPair_178 rfl (lv_at hl 7 rfl) ?_
          refine lv_iload hx hb dX7_sumPair_179 (lv_at hl 2 rfl) ?_
          refine lv_iconst (v := 1) hx hb dX7_sumPair_181 (by decide) ?_
          refine lv_iconst (v := 1) hx hb dX7_sumPair_182 (by decide) ?_
          obtain ⟨r13, S23, h31, hs⟩ := bd_e hs
          refine kX7_reckon C tM_X7_167 ⟨Nat.le_of_ble_eq_true rfl, Nat.le_of_ble_eq_true rfl⟩ ⟨Nat.le_of_ble_eq_true rfl, Nat.le_of_ble_eq_true rfl⟩ hK hP hS hl.1 (rest := [.ref (ad 0)]) (Nat.le_of_ble_eq_true rfl) dX7_sumPair_183 h31 (fun H locs hP hS => ?_)
          refine lv_iload hx hb dX7_sumPair_186 (lv_at hl 2 rfl) ?_
          obtain ⟨S24, h32, hs⟩ := bv_e hs
          refine kX7_give C tM_X7_198 ⟨Nat.le_of_ble_eq_true rfl, Nat.le_of_ble_eq_true rfl⟩ ⟨Nat.le_of_ble_eq_true rfl, Nat.le_of_ble_eq_true rfl⟩ hK hP hS hl.1 (rest := []) (Nat.le_of_ble_eq_true rfl) dX7_sumPair_188 h32 (fun H locs hP hS => ?_)
          refine lv_iconst (v := 1) hx hb dX7_sumPair_191 (by decide) ?_
          exact u_zret (v := true) hx hb hr hlocks hP hS hs dX7_sumPair_192
    · have hs := if_t c1 hs
      refine lv_iload_n hx hb dX7_sumPair_44 rfl (lv_at hl 1 rfl) ?_
      refine jn_e hs (fun K6 => ∀ (v7 : Int32) (H : Heap) (locs : List Loc) (ls : Array Slot), lv_has ls 8 [(4, .int v2), (0, .ref (ad 0)), (1, .int (zI z1))] → va_P D vwCl (wM ad cI cB S) H → va_S (AX 11 ad s.heap.size) s.heap H locs → K6 v7 = some (ro, So) → W p l e rmX7_sumPair s m ([.ref (ad 0), .int (zI z1)] : List Value).toArray below meth c H locs 0 0 (MQ below (uQ D (wM ad cI cB) (some (.int (zI ro)), So) (AX 11 ad s.heap.size)) ([.ref (ad 0), .int (zI z1)] : List Value).toArray s 0 0 (AX 11 ad s.heap.size)) (F0 m 53 ls [.int v7])) ?_ (fun K6 J6 hs => ?_)
      · intro v7 H locs ls hl hP hS hs
        refine lv_istore (lv' := [(5, .int v7), (4, .int v2), (0, .ref (ad 0)), (1, .int (zI z1))]) hx hb dX7_sumPair_53 hl (by decide) rfl (fun ls hl => ?_)
        refine lv_aload_n hx hb dX7_sumPair_55 rfl (lv_at hl 2 rfl) ?_
        refine gM_X7_op hx hb hT hown hK hP (hT _ tF_X7_174) dX7_sumPair_56 ?_
        refine lv_bipush (v := 63) hx hb dX7_sumPair_59 (by decide) ?_
        refine lv_iand hx hb dX7_sumPair_61 ?_
        refine lv_iconst (v := 0) hx hb dX7_sumPair_62 (by decide) ?_
        refine lv_iload hx hb dX7_sumPair_63 (lv_at hl 0 rfl) ?_
        obtain ⟨b4, S25, h33, hs⟩ := bd_e hs
        refine kX7_fits C tM_X7_188 ⟨Nat.le_of_ble_eq_true rfl, Nat.le_of_ble_eq_true rfl⟩ ⟨Nat.le_of_ble_eq_true rfl, Nat.le_of_ble_eq_true rfl⟩ hK hP hS hl.1 (rest := []) (Nat.le_of_ble_eq_true rfl) dX7_sumPair_65 h33 (fun H locs hP hS => ?_)
        refine lv_if_ne (tgt := 73) hx hb dX7_sumPair_68 (by decide) (fun c14 => ?_) (fun c14 => ?_)
        · have hs := if_f c14 hs
          refine lv_aload_n hx hb dX7_sumPair_73 rfl (lv_at hl 2 rfl) ?_
          refine lv_aload_n hx hb dX7_sumPair_74 rfl (lv_at hl 2 rfl) ?_
          refine gM_X7_op hx hb hT hown hK hP (hT _ tF_X7_174) dX7_sumPair_75 ?_
          refine lv_bipush (v := 63) hx hb dX7_sumPair_78 (by decide) ?_
          refine lv_iand hx hb dX7_sumPair_80 ?_
          refine lv_iload hx hb dX7_sumPair_81 (lv_at hl 0 rfl) ?_
          obtain ⟨S26, h34, hs⟩ := bv_e hs
          refine kX7_operand C tM_X7_192 ⟨Nat.le_of_ble_eq_true rfl, Nat.le_of_ble_eq_true rfl⟩ ⟨Nat.le_of_ble_eq_true rfl, Nat.le_of_ble_eq_true rfl⟩ hK hP hS hl.1 (rest := []) (Nat.le_of_ble_eq_true rfl) dX7_sumPair_83 h34 (fun H locs hP hS => ?_)
          refine lv_aload_n hx hb dX7_sumPair_86 rfl (lv_at hl 2 rfl) ?_
          refine lv_iload hx hb dX7_sumPair_87 (lv_at hl 0 rfl) ?_
          obtain ⟨r14, S27, h35, hs⟩ := bd_e hs
          refine kX7_take C tM_X7_195 ⟨Nat.le_of_ble_eq_true rfl, Nat.le_of_ble_eq_true rfl⟩ ⟨Nat.le_of_ble_eq_true rfl, Nat.le_of_ble_eq_true rfl⟩ hK hP hS hl.1 (rest := []) (Nat.le_of_ble_eq_true rfl) dX7_sumPair_89 h35 (fun H locs hP hS => ?_)
          refine lv_iload hx hb dX7_sumPair_92 (lv_at hl 0 rfl) ?_
          obtain ⟨r15, S28, h36, hs⟩ := bd_e hs
          refine kX7_extended C tM_X7_157 ⟨Nat.le_of_ble_eq_true rfl, Nat.le_of_ble_eq_true rfl⟩ ⟨Nat.le_of_ble_eq_true rfl, Nat.le_of_ble_eq_true rfl⟩ hK hP hS hl.1 (rest := []) (Nat.le_of_ble_eq_true rfl) dX7_sumPair_94 h36 (fun H locs hP hS => ?_)
          refine lv_istore (lv' := [(6, .int r15), (5, .int v7), (4, .int v2), (0, .ref (ad 0)), (1, .int (zI z1))]) hx hb dX7_sumPair_97 hl (by decide) rfl (fun ls hl => ?_)
          refine lv_aload_n hx hb dX7_sumPair_99 rfl (lv_at hl 3 rfl) ?_
          refine lv_iload hx hb dX7_sumPair_100 (lv_at hl 2 rfl) ?_
          refine lv_iload_n hx hb dX7_sumPair_102 rfl (lv_at hl 4 rfl) ?_
          refine jn_e hs (fun K7 => ∀ (v8 : Int32) (S29 : St) (H : Heap) (locs : List Loc) (ls : Array Slot), lv_has ls 8 [] → va_P D vwCl (wM ad cI cB S29) H → va_S (AX 11 ad s.heap.size) s.heap H locs → K7 v8 S29 = some (ro, So) → W p l e rmX7_sumPair s m ([.ref (ad 0), .int (zI z1)] : List Value).toArray below meth c H locs 0 0 (MQ below (uQ D (wM ad cI cB) (some (.int (zI ro)), So) (AX 11 ad s.heap.size)) ([.ref (ad 0), .int (zI z1)] : List Value).toArray s 0 0 (AX 11 ad s.heap.size)) (F0 m 127 ls [.int v8, .int v2, .ref (ad 0)])) ?_ (fun K7 J7 hs => ?_)
          · intro v8 S29 H locs ls hl hP hS hs
            obtain ⟨S30, h37, hs⟩ := bv_e hs
            refine kX7_setA C tM_X7_74 ⟨Nat.le_of_ble_eq_true rfl, Nat.le_of_ble_eq_true rfl⟩ ⟨Nat.le_of_ble_eq_true rfl, Nat.le_of_ble_eq_true rfl⟩ hK hP hS hl.1 (rest := []) (Nat.le_of_ble_eq_true rfl) dX7_sumPair_127 h37 (fun H locs hP hS => ?_)
            refine lv_iconst (v := 1) hx hb dX7_sumPair_130 (by decide) ?_
            exact u_zret (v := true) hx hb hr hlocks hP hS hs dX7_sumPair_131
          ·
            refine lv_if_eq (tgt := 118) hx hb dX7_sumPair_103 (by decide) (fun c15 => ?_) (fun c15 => ?_)
            · have hs := if_t c15 hs
              refine lv_aload_n hx hb dX7_sumPair_118 rfl (lv_at hl 3 rfl) ?_
              refine lv_iload hx hb dX7_sumPair_119 (lv_at hl 2 rfl) ?_
              obtain ⟨r16, S31, h38, hs⟩ := bd_e hs
              refine kX7_getA C tM_X7_70 ⟨Nat.le_of_ble_eq_true rfl, Nat.le_of_ble_eq_true rfl⟩ ⟨Nat.le_of_ble_eq_true rfl, Nat.le_of_ble_eq_true rfl⟩ hK hP hS hl.1 (rest := [.int v2, .ref (ad 0)]) (Nat.le_of_ble_eq_true rfl) dX7_sumPair_121 h38 (fun H locs hP hS => ?_)
              refine lv_iload hx hb dX7_sumPair_124 (lv_at hl 0 rfl) ?_
              refine lv_iadd hx hb dX7_sumPair_126 ?_
              exact J7 (r16 + r15) S31 _ _ _ (lv_sub hl [] rfl) hP hS hs
            · have hs := if_f c15 hs
              refine lv_aload_n hx hb dX7_sumPair_106 rfl (lv_at hl 3 rfl) ?_
              refine lv_iload hx hb dX7_sumPair_107 (lv_at hl 2 rfl) ?_
              obtain ⟨r17, S32, h39, hs⟩ := bd_e hs
              refine kX7_getA C tM_X7_70 ⟨Nat.le_of_ble_eq_true rfl, Nat.le_of_ble_eq_true rfl⟩ ⟨Nat.le_of_ble_eq_true rfl, Nat.le_of_ble_eq_true rfl⟩ hK hP hS hl.1 (rest := [.int v2, .ref (ad 0)]) (Nat.le_of_ble_eq_true rfl) dX7_sumPair_109 h39 (fun H locs hP hS => ?_)
              refine lv_iload hx hb dX7_sumPair_112 (lv_at hl 0 rfl) ?_
              refine lv_isub hx hb dX7_sumPair_114 ?_
              refine lv_goto (tgt := 127) hx hb dX7_sumPair_115 (by decide) ?_
              exact J7 (r17 - r15) S32 _ _ _ (lv_sub hl [] rfl) hP hS hs
        · have hs := if_t c14 hs
          refine lv_iconst (v := 0) hx hb dX7_sumPair_71 (by decide) ?_
          exact u_zret (v := false) hx hb hr hlocks hP hS hs dX7_sumPair_72
      ·
        refine lv_if_eq (tgt := 52) hx hb dX7_sumPair_45 (by decide) (fun c16 => ?_) (fun c16 => ?_)
        · have hs := if_t c16 hs
          refine lv_iconst (v := 2) hx hb dX7_sumPair_52 (by decide) ?_
          exact J6 2 _ _ _ (lv_sub hl [0, 3, 4] rfl) hP hS hs
        · have hs := if_f c16 hs
          refine lv_iconst (v := 4) hx hb dX7_sumPair_48 (by decide) ?_
          refine lv_goto (tgt := 53) hx hb dX7_sumPair_49 (by decide) ?_
          exact J6 4 _ _ _ (lv_sub hl [0, 3, 4] rfl) hP hS hs
  ·
    refine lv_if_eq (tgt := 25) hx hb dX7_sumPair_18 (by decide) (fun c17 => ?_) (fun c17 => ?_)
    · have hs := if_t c17 hs
      refine lv_iconst (v := 0) hx hb dX7_sumPair_25 (by decide) ?_
      exact J1 false _ _ _ (lv_sub hl [0, 1, 2] rfl) hP hS hs
    · have hs := if_f c17 hs
      refine lv_iconst (v := 1) hx hb dX7_sumPair_21 (by decide) ?_
      refine lv_goto (tgt := 26) hx hb dX7_sumPair_22 (by decide) ?_
      exact J1 true _ _ _ (lv_sub hl [0, 1, 2] rfl) hP hS hs
theorem kX7_sumPair {p : Program} {l : Launch} {e : Env} {R : Room} {s : State} {m : MethodId} {args : Array Value} {below : List Frame} {meth : Method} {c : Code} {H : Heap} {locs : List Loc} {cells slots : Nat} {Q : State → Prop} {cc : ByteArray} {pc nL : Nat} {ls : Array Slot} {rest : List Value} {D : va_G} {ad : Nat → Nat} {cI cB : ClassId} {en : Nat → Nat} {S : St} {own : String} {index : Nat} {z1 : Bool} {ro : Bool} {So : St} (C : CallFix p m c cc nL s args wG own) (hlk : Cond.methodLink own index yX7_sumPair ∈ wG) (hR : rmX7_sumPair.frames + 1 ≤ R.frames ∧ 8 + (8 + 11) + rmX7_sumPair.locals ≤ R.locals) (hc : cells ≤ R.cells ∧ slots ≤ R.slots) (hK : KM D ad cI cB en s) (hP : va_P D vwCl (wM ad cI cB S) H) (hS : va_S (AX 11 ad s.heap.size) s.heap H locs) (hls : ls.size = nL) (hrest : (rest.map fun v => v.category).sum ≤ 8) (hd : decode cc pc = .ok (.invokevirtual index, 3)) (hs : fX7_sumPair z1 S = some (ro, So)) (k : ∀ (H : Heap) (locs : List Loc), va_P D vwCl (wM ad cI cB So) H → va_S (AX 11 ad s.heap.size) s.heap H locs → W p l e R s m args below meth c H locs cells slots Q (F0 m (pc + 3) ls (.int (zI ro) :: rest))) : W p l e R s m args below meth c H locs cells slots Q (F0 m pc ls (.int (zI z1) :: .ref (ad 0) :: rest)) :=
  u_callV (n := 1) (mX7_sumPair l D ad cI cB en S z1 ro So hs) C uK_M (wg_V hlk tI_X7_sumPair tS_X7_sumPair tN_X7 tK_X7_sumPair) rfl rfl rfl (by decide +kernel) hR rfl (va_recv hK.1 hP (ci := 6) (q0 := 0) rfl rfl) hK hP hS hls hrest hd hc rfl k
