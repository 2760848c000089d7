def fX1_note (t1 : Nat) (x2 : Int32) (z3 : Bool) (z4 : Bool) (S : St) : Option St :=
    (gd (t1 < 3) (jn (fun (v1 : Int32) => (jn (fun (v2 : Int32) => (lt ((v1 ||| v2) : Int32) fun v3 => (jn (fun (v4 : Int32) => (lt ((v3 ||| v4) : Int32) fun v5 => (jn (fun (b1 : Bool) => (lt ((v5 ||| (zI b1)) : Int32) fun v6 => (lt (sI S 3 (((S.1 3) &&& (-16 : Int32)) ||| v6)) fun S1 => (some S1)))) fun K4 =>
    (if (zI z4) = 0 then (K4 false)
    else (K4 true))))) fun K3 =>
    (if (zI z3) = 0 then (K3 0)
    else (K3 2))))) fun K2 =>
    (if (x2 &&& (szM t1)) = 0 then (K2 4)
    else (K2 0)))) fun K1 =>
    (if (x2 &&& (szT t1)) = 0 then (K1 0)
    else (K1 8))))
abbrev rmX1_note : Room := { frames := 0, cells := 0, slots := 0, locals := 0 }
set_option maxRecDepth 100000 in
set_option maxHeartbeats 4000000 in
theorem mX1_note (l : Launch) (D : va_G) (ad : Nat → Nat) (cI cB : ClassId) (en : Nat → Nat) (S : St) (t1 : Nat) (x2 : Int32) (z3 : Bool) (z4 : Bool) (So : St) (hs : fX1_note t1 x2 z3 z4 S = some So) : uM l yX1_note (wg yX1_note cX1_note 6 none) rmX1_note (KB D ad cI cB en) D (wB ad cI cB) (AX 10 ad) [.ref (ad 5), .ref (en t1), .int x2, .int (zI z3), .int (zI z4)] S (none, So) := by
  refine uM_start (by decide) rfl ?_
  intro p e s m below meth c hx hb hr hlocks hml hown hts hK hP
  have hT : ∀ w ∈ wG, w.before _ s = true := fun w h => hts w (List.mem_cons_of_mem _ h)
  have hS : va_S (AX 10 ad s.heap.size) s.heap s.heap [] := va_S.rf
  have hown : s.vm.findClass RX1 = some m.cls := hown
  have C : CallFix p m c cX1_note 6 s _ wG RX1 := ⟨hx, hb, hml, hown, hT⟩
  have hl := lv_entry ([.ref (ad 5), .ref (en t1), .int x2, .int (zI z3), .int (zI z4)]) (n := 6) (Nat.le_of_ble_eq_true rfl)
  rw [lg_entry_eq]
  generalize (lg_sl ([.ref (ad 5), .ref (en t1), .int x2, .int (zI z3), .int (zI z4)]) ++ List.replicate (6 - (lg_sl ([.ref (ad 5), .ref (en t1), .int x2, .int (zI z3), .int (zI z4)])).length) Slot.unset).toArray = ls at hl ⊢
  have hl : lv_has ls 6 [(0, .ref (ad 5)), (1, .ref (en t1)), (2, .int x2), (3, .int (zI z3)), (4, .int (zI z4))] := hl
  unfold fX1_note at hs
  obtain ⟨ht1, hs⟩ := gd_e hs
  refine lv_iload_n hx hb dX1_note_0 rfl (lv_at hl 2 rfl) ?_
  refine lv_aload_n hx hb dX1_note_1 rfl (lv_at hl 1 rfl) ?_
  refine gE_top hx hb hown hK hS ht1 (hT _ tF_X1_15) dX1_note_2 ?_
  refine lv_iand hx hb dX1_note_5 ?_
  refine jn_e hs (fun K1 => ∀ (v1 : Int32) (H : Heap) (locs : List Loc) (ls : Array Slot), lv_has ls 6 [(0, .ref (ad 5)), (1, .ref (en t1)), (2, .int x2), (3, .int (zI z3)), (4, .int (zI z4))] → va_P D vwCl (wB ad cI cB S) H → va_S (AX 10 ad s.heap.size) s.heap H locs → K1 v1 = some So → W p l e rmX1_note s m ([.ref (ad 5), .ref (en t1), .int x2, .int (zI z3), .int (zI z4)] : List Value).toArray below meth c H locs 0 0 (MQ below (uQ D (wB ad cI cB) (none, So) (AX 10 ad s.heap.size)) ([.ref (ad 5), .ref (en t1), .int x2, .int (zI z3), .int (zI z4)] : List Value).toArray s 0 0 (AX 10 ad s.heap.size)) (F0 m 15 ls [.int v1])) ?_ (fun K1 J1 hs => ?_)
  · intro v1 H locs ls hl hP hS hs
    refine lv_istore (lv' := [(5, .int v1), (0, .ref (ad 5)), (1, .ref (en t1)), (2, .int x2), (3, .int (zI z3)), (4, .int (zI z4))]) hx hb dX1_note_15 hl (by decide) rfl (fun ls hl => ?_)
    refine lv_iload hx hb dX1_note_17 (lv_at hl 0 rfl) ?_
    refine lv_iload_n hx hb dX1_note_19 rfl (lv_at hl 3 rfl) ?_
    refine lv_aload_n hx hb dX1_note_20 rfl (lv_at hl 2 rfl) ?_
    refine gE_mask hx hb hown hK hS ht1 (hT _ tF_X1_21) dX1_note_21 ?_
    refine lv_iand hx hb dX1_note_24 ?_
    refine jn_e hs (fun K2 => ∀ (v2 : Int32) (H : Heap) (locs : List Loc) (ls : Array Slot), lv_has ls 6 [(0, .ref (ad 5)), (3, .int (zI z3)), (4, .int (zI z4))] → va_P D vwCl (wB ad cI cB S) H → va_S (AX 10 ad s.heap.size) s.heap H locs → K2 v2 = some So → W p l e rmX1_note s m ([.ref (ad 5), .ref (en t1), .int x2, .int (zI z3), .int (zI z4)] : List Value).toArray below meth c H locs 0 0 (MQ below (uQ D (wB ad cI cB) (none, So) (AX 10 ad s.heap.size)) ([.ref (ad 5), .ref (en t1), .int x2, .int (zI z3), .int (zI z4)] : List Value).toArray s 0 0 (AX 10 ad s.heap.size)) (F0 m 33 ls [.int v2, .int v1])) ?_ (fun K2 J2 hs => ?_)
    · intro v2 H locs ls hl hP hS hs
      refine lv_ior hx hb dX1_note_33 ?_
      obtain ⟨v3, h1, hs⟩ := lt_e hs
      refine u_top h1 ?_
      refine lv_istore (lv' := [(5, .int v3), (0, .ref (ad 5)), (3, .int (zI z3)), (4, .int (zI z4))]) hx hb dX1_note_34 hl (by decide) rfl (fun ls hl => ?_)
      refine lv_iload hx hb dX1_note_36 (lv_at hl 0 rfl) ?_
      refine lv_iload_n hx hb dX1_note_38 rfl (lv_at hl 2 rfl) ?_
      refine jn_e hs (fun K3 => ∀ (v4 : Int32) (H : Heap) (locs : List Loc) (ls : Array Slot), lv_has ls 6 [(0, .ref (ad 5)), (4, .int (zI z4))] → va_P D vwCl (wB ad cI cB S) H → va_S (AX 10 ad s.heap.size) s.heap H locs → K3 v4 = some So → W p l e rmX1_note s m ([.ref (ad 5), .ref (en t1), .int x2, .int (zI z3), .int (zI z4)] : List Value).toArray below meth c H locs 0 0 (MQ below (uQ D (wB ad cI cB) (none, So) (AX 10 ad s.heap.size)) ([.ref (ad 5), .ref (en t1), .int x2, .int (zI z3), .int (zI z4)] : List Value).toArray s 0 0 (AX 10 ad s.heap.size)) (F0 m 47 ls [.int v4, .int v3])) ?_ (fun K3 J3 hs => ?_)
      · intro v4 H locs ls hl hP hS hs
        refine lv_ior hx hb dX1_note_47 ?_
        obtain ⟨v5, h2, hs⟩ := lt_e hs
        refine u_top h2 ?_
        refine lv_istore (lv' := [(5, .int v5), (0, .ref (ad 5)), (4, .int (zI z4))]) hx hb dX1_note_48 hl (by decide) rfl (fun ls hl => ?_)
        refine lv_iload hx hb dX1_note_50 (lv_at hl 0 rfl) ?_
        refine lv_iload hx hb dX1_note_52 (lv_at hl 2 rfl) ?_
        refine jn_e hs (fun K4 => ∀ (b1 : Bool) (H : Heap) (locs : List Loc) (ls : Array Slot), lv_has ls 6 [(0, .ref (ad 5))] → va_P D vwCl (wB ad cI cB S) H → va_S (AX 10 ad s.heap.size) s.heap H locs → K4 b1 = some So → W p l e rmX1_note s m ([.ref (ad 5), .ref (en t1), .int x2, .int (zI z3), .int (zI z4)] : List Value).toArray below meth c H locs 0 0 (MQ below (uQ D (wB ad cI cB) (none, So) (AX 10 ad s.heap.size)) ([.ref (ad 5), .ref (en t1), .int x2, .int (zI z3), .int (zI z4)] : List Value).toArray s 0 0 (AX 10 ad s.heap.size)) (F0 m 62 ls [.int (zI b1), .int v5])) ?_ (fun K4 J4 hs => ?_)
        · intro b1 H locs ls hl hP hS hs
          refine lv_ior hx hb dX1_note_62 ?_
          obtain ⟨v6, h3, hs⟩ := lt_e hs
          refine u_top h3 ?_
          refine lv_istore (lv' := [(5, .int v6), (0, .ref (ad 5))]) hx hb dX1_note_63 hl (by decide) rfl (fun ls hl => ?_)
          refine lv_aload_n hx hb dX1_note_65 rfl (lv_at hl 1 rfl) ?_
          refine gB_X1_registers hx hb hT hown hK hP (hT _ tF_X1_9) dX1_note_66 ?_
          refine lv_aload_n hx hb dX1_note_69 rfl (lv_at hl 1 rfl) ?_
          refine gB_X1_registers hx hb hT hown hK hP (hT _ tF_X1_9) dX1_note_70 ?_
          refine gB_X4_sr hx hb hT hown hK hP (hT _ tF_X1_24) dX1_note_73 ?_
          refine lv_bipush (v := (-16 : Int32)) hx hb dX1_note_76 (by decide) ?_
          refine lv_iand hx hb dX1_note_78 ?_
          refine lv_iload hx hb dX1_note_79 (lv_at hl 0 rfl) ?_
          refine lv_ior hx hb dX1_note_81 ?_
          obtain ⟨S1, h4, hs⟩ := lt_e hs
          refine pB_X4_sr hx hb hT hown hK hP hS (hT _ tF_X1_24) dX1_note_82 (v := (((S.1 3) &&& (-16 : Int32)) ||| v6)) h4 (fun H locs hP hS => ?_)
          exact u_vret hx hb hr hlocks hP hS hs dX1_note_85
        ·
          refine lv_if_eq (tgt := 61) hx hb dX1_note_54 (by decide) (fun c1 => ?_) (fun c1 => ?_)
          · have hs := if_t c1 hs
            refine lv_iconst (v := 0) hx hb dX1_note_61 (by decide) ?_
            exact J4 false _ _ _ (lv_sub hl [1] rfl) hP hS hs
          · have hs := if_f c1 hs
            refine lv_iconst (v := 1) hx hb dX1_note_57 (by decide) ?_
            refine lv_goto (tgt := 62) hx hb dX1_note_58 (by decide) ?_
            exact J4 true _ _ _ (lv_sub hl [1] rfl) hP hS hs
      ·
        refine lv_if_eq (tgt := 46) hx hb dX1_note_39 (by decide) (fun c2 => ?_) (fun c2 => ?_)
        · have hs := if_t c2 hs
          refine lv_iconst (v := 0) hx hb dX1_note_46 (by decide) ?_
          exact J3 0 _ _ _ (lv_sub hl [1, 3] rfl) hP hS hs
        · have hs := if_f c2 hs
          refine lv_iconst (v := 2) hx hb dX1_note_42 (by decide) ?_
          refine lv_goto (tgt := 47) hx hb dX1_note_43 (by decide) ?_
          exact J3 2 _ _ _ (lv_sub hl [1, 3] rfl) hP hS hs
    ·
      refine lv_if_ne (tgt := 32) hx hb dX1_note_25 (by decide) (fun c3 => ?_) (fun c3 => ?_)
      · have hs := if_f c3 hs
        refine lv_iconst (v := 0) hx hb dX1_note_32 (by decide) ?_
        exact J2 0 _ _ _ (lv_sub hl [1, 4, 5] rfl) hP hS hs
      · have hs := if_t c3 hs
        refine lv_iconst (v := 4) hx hb dX1_note_28 (by decide) ?_
        refine lv_goto (tgt := 33) hx hb dX1_note_29 (by decide) ?_
        exact J2 4 _ _ _ (lv_sub hl [1, 4, 5] rfl) hP hS hs
  ·
    refine lv_if_eq (tgt := 14) hx hb dX1_note_6 (by decide) (fun c4 => ?_) (fun c4 => ?_)
    · have hs := if_t c4 hs
      refine lv_iconst (v := 0) hx hb dX1_note_14 (by decide) ?_
      exact J1 0 _ _ _ (lv_sub hl [0, 1, 2, 3, 4] rfl) hP hS hs
    · have hs := if_f c4 hs
      refine lv_bipush (v := 8) hx hb dX1_note_9 (by decide) ?_
      refine lv_goto (tgt := 15) hx hb dX1_note_11 (by decide) ?_
      exact J1 8 _ _ _ (lv_sub hl [0, 1, 2, 3, 4] rfl) hP hS hs
theorem kX1_note {p : Program} {l : Launch} {e : Env} {R : Room} {s : State} {m : MethodId} {args : Array Value} {below : List Frame} {meth : Method} {c : Code} {H : Heap} {locs : List Loc} {cells slots : Nat} {Q : State → Prop} {cc : ByteArray} {pc nL : Nat} {ls : Array Slot} {rest : List Value} {D : va_G} {ad : Nat → Nat} {cI cB : ClassId} {en : Nat → Nat} {S : St} {own : String} {index : Nat} {t1 : Nat} {x2 : Int32} {z3 : Bool} {z4 : Bool} {So : St} (C : CallFix p m c cc nL s args wG own) (hlk : Cond.methodLink own index yX1_note ∈ wG) (hR : rmX1_note.frames + 1 ≤ R.frames ∧ 8 + (6 + 11) + rmX1_note.locals ≤ R.locals) (hc : cells ≤ R.cells ∧ slots ≤ R.slots) (hK : KB D ad cI cB en s) (hP : va_P D vwCl (wB ad cI cB S) H) (hS : va_S (AX 10 ad s.heap.size) s.heap H locs) (hls : ls.size = nL) (hrest : (rest.map fun v => v.category).sum ≤ 8) (hd : decode cc pc = .ok (.invokevirtual index, 3)) (hs : fX1_note t1 x2 z3 z4 S = some So) (k : ∀ (H : Heap) (locs : List Loc), va_P D vwCl (wB ad cI cB So) H → va_S (AX 10 ad s.heap.size) s.heap H locs → W p l e R s m args below meth c H locs cells slots Q (F0 m (pc + 3) ls (rest))) : W p l e R s m args below meth c H locs cells slots Q (F0 m pc ls (.int (zI z4) :: .int (zI z3) :: .int x2 :: .ref (en t1) :: .ref (ad 5) :: rest)) :=
  u_callV (n := 4) (mX1_note l D ad cI cB en S t1 x2 z3 z4 So hs) C uK_B (wg_V hlk tI_X1_note tS_X1_note tN_X1 tK_X1_note) rfl rfl rfl (by decide +kernel) hR rfl (va_recv hK.1 hP (ci := 1) (q0 := 5) rfl rfl) hK hP hS hls hrest hd hc rfl k
def fX1_subtracted (t1 : Nat) (x2 : Int32) (x3 : Int32) (x4 : Int32) (S : St) : Option (Int32 × St) :=
    (gd (t1 < 3) (bd (fX5_unsigned t1 x2 S) fun w1 S1 => (bd (fX5_unsigned t1 x3 S1) fun w2 S2 => (lt (((w1 - w2) - (x4.toInt64)) : Int64) fun w3 => (lt (((w3.toInt32) &&& (szM t1)) : Int32) fun v1 => (jn (fun (b1 : Bool) => (jn (fun (b2 : Bool) => (bv (fX1_note t1 v1 b1 b2 S2) fun S3 => (some (v1, S3)))) fun K2 =>
    (if 0 ≤ (lg_cmp w3 0) then (K2 false)
    else (K2 true)))) fun K1 =>
    (if (((x2 ^^^ x3) &&& (x2 ^^^ v1)) &&& (szT t1)) = 0 then (K1 false)
    else (K1 true))))))))
abbrev rmX1_subtracted : Room := { frames := 1, cells := 0, slots := 0, locals := 25 }
set_option maxRecDepth 100000 in
set_option maxHeartbeats 4000000 in
theorem mX1_subtracted (l : Launch) (D : va_G) (ad : Nat → Nat) (cI cB : ClassId) (en : Nat → Nat) (S : St) (t1 : Nat) (x2 : Int32) (x3 : Int32) (x4 : Int32) (ro : Int32) (So : St) (hs : fX1_subtracted t1 x2 x3 x4 S = some (ro, So)) : uM l yX1_subtracted (wg yX1_subtracted cX1_subtracted 8 (some .int)) rmX1_subtracted (KB D ad cI cB en) D (wB ad cI cB) (AX 10 ad) [.ref (ad 5), .ref (en t1), .int x2, .int x3, .int x4] S (some (.int ro), So) := by
  refine uM_start (by decide) rfl ?_
  intro p e s m below meth c hx hb hr hlocks hml hown hts hK hP
  have hT : ∀ w ∈ wG, w.before _ s = true := fun w h => hts w (List.mem_cons_of_mem _ h)
  have hS : va_S (AX 10 ad s.heap.size) s.heap s.heap [] := va_S.rf
  have hown : s.vm.findClass RX1 = some m.cls := hown
  have C : CallFix p m c cX1_subtracted 8 s _ wG RX1 := ⟨hx, hb, hml, hown, hT⟩
  have hl := lv_entry ([.ref (ad 5), .ref (en t1), .int x2, .int x3, .int x4]) (n := 8) (Nat.le_of_ble_eq_true rfl)
  rw [lg_entry_eq]
  generalize (lg_sl ([.ref (ad 5), .ref (en t1), .int x2, .int x3, .int x4]) ++ List.replicate (8 - (lg_sl ([.ref (ad 5), .ref (en t1), .int x2, .int x3, .int x4])).length) Slot.unset).toArray = ls at hl ⊢
  have hl : lv_has ls 8 [(0, .ref (ad 5)), (1, .ref (en t1)), (2, .int x2), (3, .int x3), (4, .int x4)] := hl
  unfold fX1_subtracted at hs
  obtain ⟨ht1, hs⟩ := gd_e hs
  refine lv_aload_n hx hb dX1_subtracted_0 rfl (lv_at hl 1 rfl) ?_
  refine lv_iload_n hx hb dX1_subtracted_1 rfl (lv_at hl 2 rfl) ?_
  obtain ⟨w1, S1, h1, hs⟩ := bd_e hs
  refine kX5_unsigned C tM_X1_33 ⟨Nat.le_of_ble_eq_true rfl, Nat.le_of_ble_eq_true rfl⟩ ⟨Nat.le_of_ble_eq_true rfl, Nat.le_of_ble_eq_true rfl⟩ hK hP hS hl.1 (rest := []) (Nat.le_of_ble_eq_true rfl) dX1_subtracted_2 h1 (fun H locs hP hS => ?_)
  refine lv_aload_n hx hb dX1_subtracted_5 rfl (lv_at hl 1 rfl) ?_
  refine lv_iload_n hx hb dX1_subtracted_6 rfl (lv_at hl 3 rfl) ?_
  obtain ⟨w2, S2, h2, hs⟩ := bd_e hs
  refine kX5_unsigned C tM_X1_33 ⟨Nat.le_of_ble_eq_true rfl, Nat.le_of_ble_eq_true rfl⟩ ⟨Nat.le_of_ble_eq_true rfl, Nat.le_of_ble_eq_true rfl⟩ hK hP hS hl.1 (rest := [.long w1]) (Nat.le_of_ble_eq_true rfl) dX1_subtracted_7 h2 (fun H locs hP hS => ?_)
  refine lv_lsub hx hb dX1_subtracted_10 ?_
  refine lv_iload hx hb dX1_subtracted_11 (lv_at hl 4 rfl) ?_
  refine lv_i2l (v := (x4.toInt64)) hx hb dX1_subtracted_13 rfl ?_
  refine lv_lsub hx hb dX1_subtracted_14 ?_
  obtain ⟨w3, h3, hs⟩ := lt_e hs
  refine u_topl h3 ?_
  refine lv_lstore (lv' := [(5, .long w3), (0, .ref (ad 5)), (1, .ref (en t1)), (2, .int x2), (3, .int x3), (4, .int x4)]) hx hb dX1_subtracted_15 hl (by decide) rfl (fun ls hl => ?_)
  refine lv_lload hx hb dX1_subtracted_17 (lv_at hl 0 rfl) ?_
  refine lv_l2i (v := (w3.toInt32)) hx hb dX1_subtracted_19 rfl ?_
  refine lv_aload_n hx hb dX1_subtracted_20 rfl (lv_at hl 2 rfl) ?_
  refine gE_mask hx hb hown hK hS ht1 (hT _ tF_X1_21) dX1_subtracted_21 ?_
  refine lv_iand hx hb dX1_subtracted_24 ?_
  obtain ⟨v1, h4, hs⟩ := lt_e hs
  refine u_top h4 ?_
  refine lv_istore (lv' := [(7, .int v1), (5, .long w3), (0, .ref (ad 5)), (1, .ref (en t1)), (2, .int x2), (3, .int x3), (4, .int x4)]) hx hb dX1_subtracted_25 hl (by decide) rfl (fun ls hl => ?_)
  refine lv_aload_n hx hb dX1_subtracted_27 rfl (lv_at hl 2 rfl) ?_
  refine lv_aload_n hx hb dX1_subtracted_28 rfl (lv_at hl 3 rfl) ?_
  refine lv_iload hx hb dX1_subtracted_29 (lv_at hl 0 rfl) ?_
  refine lv_iload_n hx hb dX1_subtracted_31 rfl (lv_at hl 4 rfl) ?_
  refine lv_iload_n hx hb dX1_subtracted_32 rfl (lv_at hl 5 rfl) ?_
  refine lv_ixor hx hb dX1_subtracted_33 ?_
  refine lv_iload_n hx hb dX1_subtracted_34 rfl (lv_at hl 4 rfl) ?_
  refine lv_iload hx hb dX1_subtracted_35 (lv_at hl 0 rfl) ?_
  refine lv_ixor hx hb dX1_subtracted_37 ?_
  refine lv_iand hx hb dX1_subtracted_38 ?_
  refine lv_aload_n hx hb dX1_subtracted_39 rfl (lv_at hl 3 rfl) ?_
  refine gE_top hx hb hown hK hS ht1 (hT _ tF_X1_15) dX1_subtracted_40 ?_
  refine lv_iand hx hb dX1_subtracted_43 ?_
  refine jn_e hs (fun K1 => ∀ (b1 : Bool) (H : Heap) (locs : List Loc) (ls : Array Slot), lv_has ls 8 [(7, .int v1), (5, .long w3)] → va_P D vwCl (wB ad cI cB S2) H → va_S (AX 10 ad s.heap.size) s.heap H locs → K1 b1 = some (ro, So) → W p l e rmX1_subtracted s m ([.ref (ad 5), .ref (en t1), .int x2, .int x3, .int x4] : List Value).toArray below meth c H locs 0 0 (MQ below (uQ D (wB ad cI cB) (some (.int ro), So) (AX 10 ad s.heap.size)) ([.ref (ad 5), .ref (en t1), .int x2, .int x3, .int x4] : List Value).toArray s 0 0 (AX 10 ad s.heap.size)) (F0 m 52 ls [.int (zI b1), .int v1, .ref (en t1), .ref (ad 5)])) ?_ (fun K1 J1 hs => ?_)
  · intro b1 H locs ls hl hP hS hs
    refine lv_lload hx hb dX1_subtracted_52 (lv_at hl 1 rfl) ?_
    refine lv_lconst (v := 0) hx hb dX1_subtracted_54 (by decide) ?_
    refine W.lcmp hx hb dX1_subtracted_55 ?_
    refine jn_e hs (fun K2 => ∀ (b2 : Bool) (H : Heap) (locs : List Loc) (ls : Array Slot), lv_has ls 8 [(7, .int v1)] → va_P D vwCl (wB ad cI cB S2) H → va_S (AX 10 ad s.heap.size) s.heap H locs → K2 b2 = some (ro, So) → W p l e rmX1_subtracted s m ([.ref (ad 5), .ref (en t1), .int x2, .int x3, .int x4] : List Value).toArray below meth c H locs 0 0 (MQ below (uQ D (wB ad cI cB) (some (.int ro), So) (AX 10 ad s.heap.size)) ([.ref (ad 5), .ref (en t1), .int x2, .int x3, .int x4] : List Value).toArray s 0 0 (AX 10 ad s.heap.size)) (F0 m 64 ls [.int (zI b2), .int (zI b1), .int v1, .ref (en t1), .ref (ad 5)])) ?_ (fun K2 J2 hs => ?_)
    · intro b2 H locs ls hl hP hS hs
      obtain ⟨S3, h5, hs⟩ := bv_e hs
      refine kX1_note C tM_X1_29 ⟨Nat.le_of_ble_eq_true rfl, Nat.le_of_ble_eq_true rfl⟩ ⟨Nat.le_of_ble_eq_true rfl, Nat.le_of_ble_eq_true rfl⟩ hK hP hS hl.1 (rest := []) (Nat.le_of_ble_eq_true rfl) dX1_subtracted_64 h5 (fun H locs hP hS => ?_)
      refine lv_iload hx hb dX1_subtracted_67 (lv_at hl 0 rfl) ?_
      exact u_iret hx hb hr hlocks hP hS hs dX1_subtracted_69
    ·
      refine lv_if_ge (tgt := 63) hx hb dX1_subtracted_56 (by decide) (fun c1 => ?_) (fun c1 => ?_)
      · have hs := if_t c1 hs
        refine lv_iconst (v := 0) hx hb dX1_subtracted_63 (by decide) ?_
        exact J2 false _ _ _ (lv_sub hl [0] rfl) hP hS hs
      · have hs := if_f c1 hs
        refine lv_iconst (v := 1) hx hb dX1_subtracted_59 (by decide) ?_
        refine lv_goto (tgt := 64) hx hb dX1_subtracted_60 (by decide) ?_
        exact J2 true _ _ _ (lv_sub hl [0] rfl) hP hS hs
  ·
    refine lv_if_eq (tgt := 51) hx hb dX1_subtracted_44 (by decide) (fun c2 => ?_) (fun c2 => ?_)
    · have hs := if_t c2 hs
      refine lv_iconst (v := 0) hx hb dX1_subtracted_51 (by decide) ?_
      exact J1 false _ _ _ (lv_sub hl [0, 1] rfl) hP hS hs
    · have hs := if_f c2 hs
      refine lv_iconst (v := 1) hx hb dX1_subtracted_47 (by decide) ?_
      refine lv_goto (tgt := 52) hx hb dX1_subtracted_48 (by decide) ?_
      exact J1 true _ _ _ (lv_sub hl [0, 1] rfl) hP hS hs
theorem kX1_subtracted {p : Program} {l : Launch} {e : Env} {R : Room} {s : State} {m : MethodId} {args : Array Value} {below : List Frame} {meth : Method} {c : Code} {H : Heap} {locs : List Loc} {cells slots : Nat} {Q : State → Prop} {cc : ByteArray} {pc nL : Nat} {ls : Array Slot} {rest : List Value} {D : va_G} {ad : Nat → Nat} {cI cB : ClassId} {en : Nat → Nat} {S : St} {own : String} {index : Nat} {t1 : Nat} {x2 : Int32} {x3 : Int32} {x4 : Int32} {ro : Int32} {So : St} (C : CallFix p m c cc nL s args wG own) (hlk : Cond.methodLink own index yX1_subtracted ∈ wG) (hR : rmX1_subtracted.frames + 1 ≤ R.frames ∧ 8 + (8 + 11) + rmX1_subtracted.locals ≤ R.locals) (hc : cells ≤ R.cells ∧ slots ≤ R.slots) (hK : KB D ad cI cB en s) (hP : va_P D vwCl (wB ad cI cB S) H) (hS : va_S (AX 10 ad s.heap.size) s.heap H locs) (hls : ls.size = nL) (hrest : (rest.map fun v => v.category).sum ≤ 8) (hd : decode cc pc = .ok (.invokevirtual index, 3)) (hs : fX1_subtracted t1 x2 x3 x4 S = some (ro, So)) (k : ∀ (H : Heap) (locs : List Loc), va_P D vwCl (wB ad cI cB So) H → va_S (AX 10 ad s.heap.size) s.heap H locs → W p l e R s m args below meth c H locs cells slots Q (F0 m (pc + 3) ls (.int ro :: rest))) : W p l e R s m args below meth c H locs cells slots Q (F0 m pc ls (.int x4 :: .int x3 :: .int x2 :: .ref (en t1) :: .ref (ad 5) :: rest)) :=
  u_callV (n := 4) (mX1_subtracted l D ad cI cB en S t1 x2 x3 x4 ro So hs) C uK_B (wg_V hlk tI_X1_subtracted tS_X1_subtracted tN_X1 tK_X1_subtracted) rfl rfl rfl (by decide +kernel) hR rfl (va_recv hK.1 hP (ci := 1) (q0 := 5) rfl rfl) hK hP hS hls hrest hd hc rfl k
def fX1_compare (t1 : Nat) (x2 : Int32) (x3 : Int32) (S : St) : Option St :=
    (gd (t1 < 3) (bd (fX1_subtracted t1 x2 x3 0 S) fun r1 S1 => (some S1)))
abbrev rmX1_compare : Room := { frames := 2, cells := 0, slots := 0, locals := 52 }
set_option maxRecDepth 100000 in
set_option maxHeartbeats 4000000 in
theorem mX1_compare (l : Launch) (D : va_G) (ad : Nat → Nat) (cI cB : ClassId) (en : Nat → Nat) (S : St) (t1 : Nat) (x2 : Int32) (x3 : Int32) (So : St) (hs : fX1_compare t1 x2 x3 S = some So) : uM l yX1_compare (wg yX1_compare cX1_compare 4 none) rmX1_compare (KB D ad cI cB en) D (wB ad cI cB) (AX 10 ad) [.ref (ad 5), .ref (en t1), .int x2, .int x3] S (none, So) := by
  refine uM_start (by decide) rfl ?_
  intro p e s m below meth c hx hb hr hlocks hml hown hts hK hP
  have hT : ∀ w ∈ wG, w.before _ s = true := fun w h => hts w (List.mem_cons_of_mem _ h)
  have hS : va_S (AX 10 ad s.heap.size) s.heap s.heap [] := va_S.rf
  have hown : s.vm.findClass RX1 = some m.cls := hown
  have C : CallFix p m c cX1_compare 4 s _ wG RX1 := ⟨hx, hb, hml, hown, hT⟩
  have hl := lv_entry ([.ref (ad 5), .ref (en t1), .int x2, .int x3]) (n := 4) (Nat.le_of_ble_eq_true rfl)
  rw [lg_entry_eq]
  generalize (lg_sl ([.ref (ad 5), .ref (en t1), .int x2, .int x3]) ++ List.replicate (4 - (lg_sl ([.ref (ad 5), .ref (en t1), .int x2, .int x3])).length) Slot.unset).toArray = ls at hl ⊢
  have hl : lv_has ls 4 [(0, .ref (ad 5)), (1, .ref (en t1)), (2, .int x2), (3, .int x3)] := hl
  unfold fX1_compare at hs
  obtain ⟨ht1, hs⟩ := gd_e hs
  refine lv_aload_n hx hb dX1_compare_0 rfl (lv_at hl 0 rfl) ?_
  refine lv_aload_n hx hb dX1_compare_1 rfl (lv_at hl 1 rfl) ?_
  refine lv_iload_n hx hb dX1_compare_2 rfl (lv_at hl 2 rfl) ?_
  refine lv_iload_n hx hb dX1_compare_3 rfl (lv_at hl 3 rfl) ?_
  refine lv_iconst (v := 0) hx hb dX1_compare_4 (by decide) ?_
  obtain ⟨r1, S1, h1, hs⟩ := bd_e hs
  refine kX1_subtracted C tM_X1_45 ⟨Nat.le_of_ble_eq_true rfl, Nat.le_of_ble_eq_true rfl⟩ ⟨Nat.le_of_ble_eq_true rfl, Nat.le_of_ble_eq_true rfl⟩ hK hP hS hl.1 (rest := []) (Nat.le_of_ble_eq_true rfl) dX1_compare_5 h1 (fun H locs hP hS => ?_)
  refine lv_pop hx hb dX1_compare_8 rfl ?_
  exact u_vret hx hb hr hlocks hP hS hs dX1_compare_9
theorem kX1_compare {p : Program} {l : Launch} {e : Env} {R : Room} {s : State} {m : MethodId} {args : Array Value} {below : List Frame} {meth : Method} {c : Code} {H : Heap} {locs : List Loc} {cells slots : Nat} {Q : State → Prop} {cc : ByteArray} {pc nL : Nat} {ls : Array Slot} {rest : List Value} {D : va_G} {ad : Nat → Nat} {cI cB : ClassId} {en : Nat → Nat} {S : St} {own : String} {index : Nat} {t1 : Nat} {x2 : Int32} {x3 : Int32} {So : St} (C : CallFix p m c cc nL s args wG own) (hlk : Cond.methodLink own index yX1_compare ∈ wG) (hR : rmX1_compare.frames + 1 ≤ R.frames ∧ 8 + (4 + 11) + rmX1_compare.locals ≤ R.locals) (hc : cells ≤ R.cells ∧ slots ≤ R.slots) (hK : KB D ad cI cB en s) (hP : va_P D vwCl (wB ad cI cB S) H) (hS : va_S (AX 10 ad s.heap.size) s.heap H locs) (hls : ls.size = nL) (hrest : (rest.map fun v => v.category).sum ≤ 8) (hd : decode cc pc = .ok (.invokevirtual index, 3)) (hs : fX1_compare t1 x2 x3 S = some So) (k : ∀ (H : Heap) (locs : List Loc), va_P D vwCl (wB ad cI cB So) H → va_S (AX 10 ad s.heap.size) s.heap H locs → W p l e R s m args below meth c H locs cells slots Q (F0 m (pc + 3) ls (rest))) : W p l e R s m args below meth c H locs cells slots Q (F0 m pc ls (.int x3 :: .int x2 :: .ref (en t1) :: .ref (ad 5) :: rest)) :=
  u_callV (n := 3) (mX1_compare l D ad cI cB en S t1 x2 x3 So hs) C uK_B (wg_V hlk tI_X1_compare tS_X1_compare tN_X1 tK_X1_compare) rfl rfl rfl (by decide +kernel) hR rfl (va_recv hK.1 hP (ci := 1) (q0 := 5) rfl rfl) hK hP hS hls hrest hd hc rfl k
def fX1_logic (t1 : Nat) (x2 : Int32) (S : St) : Option (Int32 × St) :=
    (gd (t1 < 3) (bv (fX1_note t1 x2 false false S) fun S1 => (some ((x2 &&& (szM t1)), S1))))
abbrev rmX1_logic : Room := { frames := 1, cells := 0, slots := 0, locals := 25 }
set_option maxRecDepth 100000 in
set_option maxHeartbeats 4000000 in
theorem mX1_logic (l : Launch) (D : va_G) (ad : Nat → Nat) (cI cB : ClassId) (en : Nat → Nat) (S : St) (t1 : Nat) (x2 : Int32) (ro : Int32) (So : St) (hs : fX1_logic t1 x2 S = some (ro, So)) : uM l yX1_logic (wg yX1_logic cX1_logic 3 (some .int)) rmX1_logic (KB D ad cI cB en) D (wB ad cI cB) (AX 10 ad) [.ref (ad 5), .ref (en t1), .int x2] S (some (.int ro), So) := by
  refine uM_start (by decide) rfl ?_
  intro p e s m below meth c hx hb hr hlocks hml hown hts hK hP
  have hT : ∀ w ∈ wG, w.before _ s = true := fun w h => hts w (List.mem_cons_of_mem _ h)
  have hS : va_S (AX 10 ad s.heap.size) s.heap s.heap [] := va_S.rf
  have hown : s.vm.findClass RX1 = some m.cls := hown
  have C : CallFix p m c cX1_logic 3 s _ wG RX1 := ⟨hx, hb, hml, hown, hT⟩
  have hl := lv_entry ([.ref (ad 5), .ref (en t1), .int x2]) (n := 3) (Nat.le_of_ble_eq_true rfl)
  rw [lg_entry_eq]
  generalize (lg_sl ([.ref (ad 5), .ref (en t1), .int x2]) ++ List.replicate (3 - (lg_sl ([.ref (ad 5), .ref (en t1), .int x2])).length) Slot.unset).toArray = ls at hl ⊢
  have hl : lv_has ls 3 [(0, .ref (ad 5)), (1, .ref (en t1)), (2, .int x2)] := hl
  unfold fX1_logic at hs
  obtain ⟨ht1, hs⟩ := gd_e hs
  refine lv_aload_n hx hb dX1_logic_0 rfl (lv_at hl 0 rfl) ?_
  refine lv_aload_n hx hb dX1_logic_1 rfl (lv_at hl 1 rfl) ?_
  refine lv_iload_n hx hb dX1_logic_2 rfl (lv_at hl 2 rfl) ?_
  refine lv_iconst (v := 0) hx hb dX1_logic_3 (by decide) ?_
  refine lv_iconst (v := 0) hx hb dX1_logic_4 (by decide) ?_
  obtain ⟨S1, h1, hs⟩ := bv_e hs
  refine kX1_note C tM_X1_29 ⟨Nat.le_of_ble_eq_true rfl, Nat.le_of_ble_eq_true rfl⟩ ⟨Nat.le_of_ble_eq_true rfl, Nat.le_of_ble_eq_true rfl⟩ hK hP hS hl.1 (rest := []) (Nat.le_of_ble_eq_true rfl) dX1_logic_5 h1 (fun H locs hP hS => ?_)
  refine lv_iload_n hx hb dX1_logic_8 rfl (lv_at hl 2 rfl) ?_
  refine lv_aload_n hx hb dX1_logic_9 rfl (lv_at hl 1 rfl) ?_
  refine gE_mask hx hb hown hK hS ht1 (hT _ tF_X1_21) dX1_logic_10 ?_
  refine lv_iand hx hb dX1_logic_13 ?_
  exact u_iret hx hb hr hlocks hP hS hs dX1_logic_14
theorem kX1_logic {p : Program} {l : Launch} {e : Env} {R : Room} {s : State} {m : MethodId} {args : Array Value} {below : List Frame} {meth : Method} {c : Code} {H : Heap} {locs : List Loc} {cells slots : Nat} {Q : State → Prop} {cc : ByteArray} {pc nL : Nat} {ls : Array Slot} {rest : List Value} {D : va_G} {ad : Nat → Nat} {cI cB : ClassId} {en : Nat → Nat} {S : St} {own : String} {index : Nat} {t1 : Nat} {x2 : Int32} {ro : Int32} {So : St} (C : CallFix p m c cc nL s args wG own) (hlk : Cond.methodLink own index yX1_logic ∈ wG) (hR : rmX1_logic.frames + 1 ≤ R.frames ∧ 8 + (3 + 11) + rmX1_logic.locals ≤ R.locals) (hc : cells ≤ R.cells ∧ slots ≤ R.slots) (hK : KB D ad cI cB en s) (hP : va_P D vwCl (wB ad cI cB S) H) (hS : va_S (AX 10 ad s.heap.size) s.heap H locs) (hls : ls.size = nL) (hrest : (rest.map fun v => v.category).sum ≤ 8) (hd : decode cc pc = .ok (.invokevirtual index, 3)) (hs : fX1_logic t1 x2 S = some (ro, So)) (k : ∀ (H : Heap) (locs : List Loc), va_P D vwCl (wB ad cI cB So) H → va_S (AX 10 ad s.heap.size) s.heap H locs → W p l e R s m args below meth c H locs cells slots Q (F0 m (pc + 3) ls (.int ro :: rest))) : W p l e R s m args below meth c H locs cells slots Q (F0 m pc ls (.int x2 :: .ref (en t1) :: .ref (ad 5) :: rest)) :=
  u_callV (n := 2) (mX1_logic l D ad cI cB en S t1 x2 ro So hs) C uK_B (wg_V hlk tI_X1_logic tS_X1_logic tN_X1 tK_X1_logic) rfl rfl rfl (by decide +kernel) hR rfl (va_recv hK.1 hP (ci := 1) (q0 := 5) rfl rfl) hK hP hS hls hrest hd hc rfl k
def fX1_withCarryToX (x1 : Int32) (S : St) : Option (Int32 × St) :=
    (bd (fX4_has 1 S) fun b1 S1 => (bv (fX4_mark 16 b1 S1) fun S2 => (some (x1, S2))))
abbrev rmX1_withCarryToX : Room := { frames := 1, cells := 0, slots := 0, locals := 22 }
set_option maxRecDepth 100000 in
set_option maxHeartbeats 4000000 in
theorem mX1_withCarryToX (l : Launch) (D : va_G) (ad : Nat → Nat) (cI cB : ClassId) (en : Nat → Nat) (S : St) (x1 : Int32) (ro : Int32) (So : St) (hs : fX1_withCarryToX x1 S = some (ro, So)) : uM l yX1_withCarryToX (wg yX1_withCarryToX cX1_withCarryToX 2 (some .int)) rmX1_withCarryToX (KB D ad cI cB en) D (wB ad cI cB) (AX 10 ad) [.ref (ad 5), .int x1] S (some (.int ro), So) := by
  refine uM_start (by decide) rfl ?_
  intro p e s m below meth c hx hb hr hlocks hml hown hts hK hP
  have hT : ∀ w ∈ wG, w.before _ s = true := fun w h => hts w (List.mem_cons_of_mem _ h)
  have hS : va_S (AX 10 ad s.heap.size) s.heap s.heap [] := va_S.rf
  have hown : s.vm.findClass RX1 = some m.cls := hown
  have C : CallFix p m c cX1_withCarryToX 2 s _ wG RX1 := ⟨hx, hb, hml, hown, hT⟩
  have hl := lv_entry ([.ref (ad 5), .int x1]) (n := 2) (Nat.le_of_ble_eq_true rfl)
  rw [lg_entry_eq]
  generalize (lg_sl ([.ref (ad 5), .int x1]) ++ List.replicate (2 - (lg_sl ([.ref (ad 5), .int x1])).length) Slot.unset).toArray = ls at hl ⊢
  have hl : lv_has ls 2 [(0, .ref (ad 5)), (1, .int x1)] := hl
  unfold fX1_withCarryToX at hs
  refine lv_aload_n hx hb dX1_withCarryToX_0 rfl (lv_at hl 0 rfl) ?_
  refine gB_X1_registers hx hb hT hown hK hP (hT _ tF_X1_9) dX1_withCarryToX_1 ?_
  refine lv_bipush (v := 16) hx hb dX1_withCarryToX_4 (by decide) ?_
  refine lv_aload_n hx hb dX1_withCarryToX_6 rfl (lv_at hl 0 rfl) ?_
  refine gB_X1_registers hx hb hT hown hK hP (hT _ tF_X1_9) dX1_withCarryToX_7 ?_
  refine lv_iconst (v := 1) hx hb dX1_withCarryToX_10 (by decide) ?_
  obtain ⟨b1, S1, h1, hs⟩ := bd_e hs
  refine kX4_has C tM_X1_37 ⟨Nat.le_of_ble_eq_true rfl, Nat.le_of_ble_eq_true rfl⟩ ⟨Nat.le_of_ble_eq_true rfl, Nat.le_of_ble_eq_true rfl⟩ hK hP hS hl.1 (rest := [.int 16, .ref (ad 2)]) (Nat.le_of_ble_eq_true rfl) dX1_withCarryToX_11 h1 (fun H locs hP hS => ?_)
  obtain ⟨S2, h2, hs⟩ := bv_e hs
  refine kX4_mark C tM_X1_41 ⟨Nat.le_of_ble_eq_true rfl, Nat.le_of_ble_eq_true rfl⟩ ⟨Nat.le_of_ble_eq_true rfl, Nat.le_of_ble_eq_true rfl⟩ hK hP hS hl.1 (rest := []) (Nat.le_of_ble_eq_true rfl) dX1_withCarryToX_14 h2 (fun H locs hP hS => ?_)
  refine lv_iload_n hx hb dX1_withCarryToX_17 rfl (lv_at hl 1 rfl) ?_
  exact u_iret hx hb hr hlocks hP hS hs dX1_withCarryToX_18
theorem kX1_withCarryToX {p : Program} {l : Launch} {e : Env} {R : Room} {s : State} {m : MethodId} {args : Array Value} {below : List Frame} {meth : Method} {c : Code} {H : Heap} {locs : List Loc} {cells slots : Nat} {Q : State → Prop} {cc : ByteArray} {pc nL : Nat} {ls : Array Slot} {rest : List Value} {D : va_G} {ad : Nat → Nat} {cI cB : ClassId} {en : Nat → Nat} {S : St} {own : String} {index : Nat} {x1 : Int32} {ro : Int32} {So : St} (C : CallFix p m c cc nL s args wG own) (hlk : Cond.methodLink own index yX1_withCarryToX ∈ wG) (hR : rmX1_withCarryToX.frames + 1 ≤ R.frames ∧ 8 + (2 + 11) + rmX1_withCarryToX.locals ≤ R.locals) (hc : cells ≤ R.cells ∧ slots ≤ R.slots) (hK : KB D ad cI cB en s) (hP : va_P D vwCl (wB ad cI cB S) H) (hS : va_S (AX 10 ad s.heap.size) s.heap H locs) (hls : ls.size = nL) (hrest : (rest.map fun v => v.category).sum ≤ 8) (hd : decode cc pc = .ok (.invokevirtual index, 3)) (hs : fX1_withCarryToX x1 S = some (ro, So)) (k : ∀ (H : Heap) (locs : List Loc), va_P D vwCl (wB ad cI cB So) H → va_S (AX 10 ad s.heap.size) s.heap H locs → W p l e R s m args below meth c H locs cells slots Q (F0 m (pc + 3) ls (.int ro :: rest))) : W p l e R s m args below meth c H locs cells slots Q (F0 m pc ls (.int x1 :: .ref (ad 5) :: rest)) :=
  u_callV (n := 1) (mX1_withCarryToX l D ad cI cB en S x1 ro So hs) C uK_B (wg_V hlk tI_X1_withCarryToX tS_X1_withCarryToX tN_X1 tK_X1_withCarryToX) rfl rfl rfl (by decide +kernel) hR rfl (va_recv hK.1 hP (ci := 1) (q0 := 5) rfl rfl) hK hP hS hls hrest hd hc rfl k
def fX1_added (t1 : Nat) (x2 : Int32) (x3 : Int32) (x4 : Int32) (S : St) : Option (Int32 × St) :=
    (gd (t1 < 3) (bd (fX5_unsigned t1 x2 S) fun w1 S1 => (bd (fX5_unsigned t1 x3 S1) fun w2 S2 => (lt (((w1 + w2) + (x4.toInt64)) : Int64) fun w3 => (lt (((w3.toInt32) &&& (szM t1)) : Int32) fun v1 => (jn (fun (b1 : Bool) => (bd (fX5_unsigned t1 (-1 : Int32) S2) fun w4 S3 => (jn (fun (b2 : Bool) => (bv (fX1_note t1 v1 b1 b2 S3) fun S4 => (some (v1, S4)))) fun K2 =>
    (if (lg_cmp w3 w4) ≤ 0 then (K2 false)
    else (K2 true))))) fun K1 =>
    (if (((x2 ^^^ v1) &&& (x3 ^^^ v1)) &&& (szT t1)) = 0 then (K1 false)
    else (K1 true))))))))
abbrev rmX1_added : Room := { frames := 1, cells := 0, slots := 0, locals := 25 }
set_option maxRecDepth 100000 in
set_option maxHeartbeats 4000000 in
theorem mX1_added (l : Launch) (D : va_G) (ad : Nat → Nat) (cI cB : ClassId) (en : Nat → Nat) (S : St) (t1 : Nat) (x2 : Int32) (x3 : Int32) (x4 : Int32) (ro : Int32) (So : St) (hs : fX1_added t1 x2 x3 x4 S = some (ro, So)) : uM l yX1_added (wg yX1_added cX1_added 8 (some .int)) rmX1_added (KB D ad cI cB en) D (wB ad cI cB) (AX 10 ad) [.ref (ad 5), .ref (en t1), .int x2, .int x3, .int x4] S (some (.int ro), So) := by
  refine uM_start (by decide) rfl ?_
  intro p e s m below meth c hx hb hr hlocks hml hown hts hK hP
  have hT : ∀ w ∈ wG, w.before _ s = true := fun w h => hts w (List.mem_cons_of_mem _ h)
  have hS : va_S (AX 10 ad s.heap.size) s.heap s.heap [] := va_S.rf
  have hown : s.vm.findClass RX1 = some m.cls := hown
  have C : CallFix p m c cX1_added 8 s _ wG RX1 := ⟨hx, hb, hml, hown, hT⟩
  have hl := lv_entry ([.ref (ad 5), .ref (en t1), .int x2, .int x3, .int x4]) (n := 8) (Nat.le_of_ble_eq_true rfl)
  rw [lg_entry_eq]
  generalize (lg_sl ([.ref (ad 5), .ref (en t1), .int x2, .int x3, .int x4]) ++ List.replicate (8 - (lg_sl ([.ref (ad 5), .ref (en t1), .int x2, .int x3, .int x4])).length) Slot.unset).toArray = ls at hl ⊢
  have hl : lv_has ls 8 [(0, .ref (ad 5)), (1, .ref (en t1)), (2, .int x2), (3, .int x3), (4, .int x4)] := hl
  unfold fX1_added at hs
  obtain ⟨ht1, hs⟩ := gd_e hs
  refine lv_aload_n hx hb dX1_added_0 rfl (lv_at hl 1 rfl) ?_
  refine lv_iload_n hx hb dX1_added_1 rfl (lv_at hl 2 rfl) ?_
  obtain ⟨w1, S1, h1, hs⟩ := bd_e hs
  refine kX5_unsigned C tM_X1_33 ⟨Nat.le_of_ble_eq_true rfl, Nat.le_of_ble_eq_true rfl⟩ ⟨Nat.le_of_ble_eq_true rfl, Nat.le_of_ble_eq_true rfl⟩ hK hP hS hl.1 (rest := []) (Nat.le_of_ble_eq_true rfl) dX1_added_2 h1 (fun H locs hP hS => ?_)
  refine lv_aload_n hx hb dX1_added_5 rfl (lv_at hl 1 rfl) ?_
  refine lv_iload_n hx hb dX1_added_6 rfl (lv_at hl 3 rfl) ?_
  obtain ⟨w2, S2, h2, hs⟩ := bd_e hs
  refine kX5_unsigned C tM_X1_33 ⟨Nat.le_of_ble_eq_true rfl, Nat.le_of_ble_eq_true rfl⟩ ⟨Nat.le_of_ble_eq_true rfl, Nat.le_of_ble_eq_true rfl⟩ hK hP hS hl.1 (rest := [.long w1]) (Nat.le_of_ble_eq_true rfl) dX1_added_7 h2 (fun H locs hP hS => ?_)
  refine lv_ladd hx hb dX1_added_10 ?_
  refine lv_iload hx hb dX1_added_11 (lv_at hl 4 rfl) ?_
  refine lv_i2l (v := (x4.toInt64)) hx hb dX1_added_13 rfl ?_
  refine lv_ladd hx hb dX1_added_14 ?_
  obtain ⟨w3, h3, hs⟩ := lt_e hs
  refine u_topl h3 ?_
  refine lv_lstore (lv' := [(5, .long w3), (0, .ref (ad 5)), (1, .ref (en t1)), (2, .int x2), (3, .int x3), (4, .int x4)]) hx hb dX1_added_15 hl (by decide) rfl (fun ls hl => ?_)
  refine lv_lload hx hb dX1_added_17 (lv_at hl 0 rfl) ?_
  refine lv_l2i (v := (w3.toInt32)) hx hb dX1_added_19 rfl ?_
  refine lv_aload_n hx hb dX1_added_20 rfl (lv_at hl 2 rfl) ?_
  refine gE_mask hx hb hown hK hS ht1 (hT _ tF_X1_21) dX1_added_21 ?_
  refine lv_iand hx hb dX1_added_24 ?_
  obtain ⟨v1, h4, hs⟩ := lt_e hs
  refine u_top h4 ?_
  refine lv_istore (lv' := [(7, .int v1), (5, .long w3), (0, .ref (ad 5)), (1, .ref (en t1)), (2, .int x2), (3, .int x3), (4, .int x4)]) hx hb dX1_added_25 hl (by decide) rfl (fun ls hl => ?_)
  refine lv_aload_n hx hb dX1_added_27 rfl (lv_at hl 2 rfl) ?_
  refine lv_aload_n hx hb dX1_added_28 rfl (lv_at hl 3 rfl) ?_
  refine lv_iload hx hb dX1_added_29 (lv_at hl 0 rfl) ?_
  refine lv_iload_n hx hb dX1_added_31 rfl (lv_at hl 4 rfl) ?_
  refine lv_iload hx hb dX1_added_32 (lv_at hl 0 rfl) ?_
  refine lv_ixor hx hb dX1_added_34 ?_
  refine lv_iload_n hx hb dX1_added_35 rfl (lv_at hl 5 rfl) ?_
  refine lv_iload hx hb dX1_added_36 (lv_at hl 0 rfl) ?_
  refine lv_ixor hx hb dX1_added_38 ?_
  refine lv_iand hx hb dX1_added_39 ?_
  refine lv_aload_n hx hb dX1_added_40 rfl (lv_at hl 3 rfl) ?_
  refine gE_top hx hb hown hK hS ht1 (hT _ tF_X1_15) dX1_added_41 ?_
  refine lv_iand hx hb dX1_added_44 ?_
  refine jn_e hs (fun K1 => ∀ (b1 : Bool) (H : Heap) (locs : List Loc) (ls : Array Slot), lv_has ls 8 [(7, .int v1), (5, .long w3), (1, .ref (en t1))] → va_P D vwCl (wB ad cI cB S2) H → va_S (AX 10 ad s.heap.size) s.heap H locs → K1 b1 = some (ro, So) → W p l e rmX1_added s m ([.ref (ad 5), .ref (en t1), .int x2, .int x3, .int x4] : List Value).toArray below meth c H locs 0 0 (MQ below (uQ D (wB ad cI cB) (some (.int ro), So) (AX 10 ad s.heap.size)) ([.ref (ad 5), .ref (en t1), .int x2, .int x3, .int x4] : List Value).toArray s 0 0 (AX 10 ad s.heap.size)) (F0 m 53 ls [.int (zI b1), .int v1, .ref (en t1), .ref (ad 5)])) ?_ (fun K1 J1 hs => ?_)
  · intro b1 H locs ls hl hP hS hs
    refine lv_lload hx hb dX1_added_53 (lv_at hl 1 rfl) ?_
    refine lv_aload_n hx hb dX1_added_55 rfl (lv_at hl 2 rfl) ?_
    refine lv_iconst (v := (-1 : Int32)) hx hb dX1_added_56 (by decide) ?_
    obtain ⟨w4, S3, h5, hs⟩ := bd_e hs
    refine kX5_unsigned C tM_X1_33 ⟨Nat.le_of_ble_eq_true rfl, Nat.le_of_ble_eq_true rfl⟩ ⟨Nat.le_of_ble_eq_true rfl, Nat.le_of_ble_eq_true rfl⟩ hK hP hS hl.1 (rest := [.long w3, .int (zI b1), .int v1, .ref (en t1), .ref (ad 5)]) (Nat.le_of_ble_eq_true rfl) dX1_added_57 h5 (fun H locs hP hS => ?_)
    refine W.lcmp hx hb dX1_added_60 ?_
    refine jn_e hs (fun K2 => ∀ (b2 : Bool) (H : Heap) (locs : List Loc) (ls : Array Slot), lv_has ls 8 [(7, .int v1)] → va_P D vwCl (wB ad cI cB S3) H → va_S (AX 10 ad s.heap.size) s.heap H locs → K2 b2 = some (ro, So) → W p l e rmX1_added s m ([.ref (ad 5), .ref (en t1), .int x2, .int x3, .int x4] : List Value).toArray below meth c H locs 0 0 (MQ below (uQ D (wB ad cI cB) (some (.int ro), So) (AX 10 ad s.heap.size)) ([.ref (ad 5), .ref (en t1), .int x2, .int x3, .int x4] : List Value).toArray s 0 0 (AX 10 ad s.heap.size)) (F0 m 69 ls [.int (zI b2), .int (zI b1), .int v1, .ref (en t1), .ref (ad 5)])) ?_ (fun K2 J2 hs => ?_)
    · intro b2 H locs ls hl hP hS hs
      obtain ⟨S4, h6, hs⟩ := bv_e hs
      refine kX1_note C tM_X1_29 ⟨Nat.le_of_ble_eq_true rfl, Nat.le_of_ble_eq_true rfl⟩ ⟨Nat.le_of_ble_eq_true rfl, Nat.le_of_ble_eq_true rfl⟩ hK hP hS hl.1 (rest := []) (Nat.le_of_ble_eq_true rfl) dX1_added_69 h6 (fun H locs hP hS => ?_)
      refine lv_iload hx hb dX1_added_72 (lv_at hl 0 rfl) ?_
      exact u_iret hx hb hr hlocks hP hS hs dX1_added_74
    ·
      refine lv_if_le (tgt := 68) hx hb dX1_added_61 (by decide) (fun c1 => ?_) (fun c1 => ?_)
      · have hs := if_t c1 hs
        refine lv_iconst (v := 0) hx hb dX1_added_68 (by decide) ?_
        exact J2 false _ _ _ (lv_sub hl [0] rfl) hP hS hs
      · have hs := if_f c1 hs
        refine lv_iconst (v := 1) hx hb dX1_added_64 (by decide) ?_
        refine lv_goto (tgt := 69) hx hb dX1_added_65 (by decide) ?_
        exact J2 true _ _ _ (lv_sub hl [0] rfl) hP hS hs
  ·
    refine lv_if_eq (tgt := 52) hx hb dX1_added_45 (by decide) (fun c2 => ?_) (fun c2 => ?_)
    · have hs := if_t c2 hs
      refine lv_iconst (v := 0) hx hb dX1_added_52 (by decide) ?_
      exact J1 false _ _ _ (lv_sub hl [0, 1, 3] rfl) hP hS hs
    · have hs := if_f c2 hs
      refine lv_iconst (v := 1) hx hb dX1_added_48 (by decide) ?_
      refine lv_goto (tgt := 53) hx hb dX1_added_49 (by decide) ?_
      exact J1 true _ _ _ (lv_sub hl [0, 1, 3] rfl) hP hS hs
theorem kX1_added {p : Program} {l : Launch} {e : Env} {R : Room} {s : State} {m : MethodId} {args : Array Value} {below : List Frame} {meth : Method} {c : Code} {H : Heap} {locs : List Loc} {cells slots : Nat} {Q : State → Prop} {cc : ByteArray} {pc nL : Nat} {ls : Array Slot} {rest : List Value} {D : va_G} {ad : Nat → Nat} {cI cB : ClassId} {en : Nat → Nat} {S : St} {own : String} {index : Nat} {t1 : Nat} {x2 : Int32} {x3 : Int32} {x4 : Int32} {ro : Int32} {So : St} (C : CallFix p m c cc nL s args wG own) (hlk : Cond.methodLink own index yX1_added ∈ wG) (hR : rmX1_added.frames + 1 ≤ R.frames ∧ 8 + (8 + 11) + rmX1_added.locals ≤ R.locals) (hc : cells ≤ R.cells ∧ slots ≤ R.slots) (hK : KB D ad cI cB en s) (hP : va_P D vwCl (wB ad cI cB S) H) (hS : va_S (AX 10 ad s.heap.size) s.heap H locs) (hls : ls.size = nL) (hrest : (rest.map fun v => v.category).sum ≤ 8) (hd : decode cc pc = .ok (.invokevirtual index, 3)) (hs : fX1_added t1 x2 x3 x4 S = some (ro, So)) (k : ∀ (H : Heap) (locs : List Loc), va_P D vwCl (wB ad cI cB So) H → va_S (AX 10 ad s.heap.size) s.heap H locs → W p l e R s m args below meth c H locs cells slots Q (F0 m (pc + 3) ls (.int ro :: rest))) : W p l e R s m args below meth c H locs cells slots Q (F0 m pc ls (.int x4 :: .int x3 :: .int x2 :: .ref (en t1) :: .ref (ad 5) :: rest)) :=
  u_callV (n := 4) (mX1_added l D ad cI cB en S t1 x2 x3 x4 ro So hs) C uK_B (wg_V hlk tI_X1_added tS_X1_added tN_X1 tK_X1_added) rfl rfl rfl (by decide +kernel) hR rfl (va_recv hK.1 hP (ci := 1) (q0 := 5) rfl rfl) hK hP hS hls hrest hd hc rfl k
def fX1_joined (x1 : Int32) (t2 : Nat) (x3 : Int32) (x4 : Int32) (S : St) : Option (Int32 × St) :=
    (gd (t2 < 3) (if x1 = 0 then (bd (fX1_logic t2 (x3 ||| x4) S) fun r1 S1 => (some (r1, S1)))
    else (if x1 = 1 then (bd (fX1_logic t2 (x3 &&& x4) S) fun r2 S2 => (some (r2, S2)))
    else (if x1 = 2 then (bd (fX1_subtracted t2 x3 x4 0 S) fun r3 S3 => (bd (fX1_withCarryToX r3 S3) fun r4 S4 => (some (r4, S4))))
    else (if x1 = 3 then (bd (fX1_added t2 x3 x4 0 S) fun r5 S5 => (bd (fX1_withCarryToX r5 S5) fun r6 S6 => (some (r6, S6))))
    else (bd (fX1_logic t2 (x3 ^^^ x4) S) fun r7 S7 => (some (r7, S7))))))))
abbrev rmX1_joined : Room := { frames := 2, cells := 0, slots := 0, locals := 52 }
set_option maxRecDepth 100000 in
set_option maxHeartbeats 4000000 in
theorem mX1_joined (l : Launch) (D : va_G) (ad : Nat → Nat) (cI cB : ClassId) (en : Nat → Nat) (S : St) (x1 : Int32) (t2 : Nat) (x3 : Int32) (x4 : Int32) (ro : Int32) (So : St) (hs : fX1_joined x1 t2 x3 x4 S = some (ro, So)) : uM l yX1_joined (wg yX1_joined cX1_joined 5 (some .int)) rmX1_joined (KB D ad cI cB en) D (wB ad cI cB) (AX 10 ad) [.ref (ad 5), .int x1, .ref (en t2), .int x3, .int x4] S (some (.int ro), So) := by
  refine uM_start (by decide) rfl ?_
  intro p e s m below meth c hx hb hr hlocks hml hown hts hK hP
  have hT : ∀ w ∈ wG, w.before _ s = true := fun w h => hts w (List.mem_cons_of_mem _ h)
  have hS : va_S (AX 10 ad s.heap.size) s.heap s.heap [] := va_S.rf
  have hown : s.vm.findClass RX1 = some m.cls := hown
  have C : CallFix p m c cX1_joined 5 s _ wG RX1 := ⟨hx, hb, hml, hown, hT⟩
  have hl := lv_entry ([.ref (ad 5), .int x1, .ref (en t2), .int x3, .int x4]) (n := 5) (Nat.le_of_ble_eq_true rfl)
  rw [lg_entry_eq]
  generalize (lg_sl ([.ref (ad 5), .int x1, .ref (en t2), .int x3, .int x4]) ++ List.replicate (5 - (lg_sl ([.ref (ad 5), .int x1, .ref (en t2), .int x3, .int x4])).length) Slot.unset).toArray = ls at hl ⊢
  have hl : lv_has ls 5 [(0, .ref (ad 5)), (1, .int x1), (2, .ref (en t2)), (3, .int x3), (4, .int x4)] := hl
  unfold fX1_joined at hs
  obtain ⟨ht2, hs⟩ := gd_e hs
  refine lv_iload_n hx hb dX1_joined_0 rfl (lv_at hl 1 rfl) ?_
  by_cases c1 : x1 = 0
  · have hs := if_t c1 hs
    refine u_table (k := 0) (a := 0) (off := 31) (tgt := 32) hx hb dX1_joined_1 c1 (by decide) (by decide) (by decide) (by decide) (by decide) ?_
    refine lv_aload_n hx hb dX1_joined_32 rfl (lv_at hl 0 rfl) ?_
    refine lv_aload_n hx hb dX1_joined_33 rfl (lv_at hl 2 rfl) ?_
    refine lv_iload_n hx hb dX1_joined_34 rfl (lv_at hl 3 rfl) ?_
    refine lv_iload hx hb dX1_joined_35 (lv_at hl 4 rfl) ?_
    refine lv_ior hx hb dX1_joined_37 ?_
    obtain ⟨r1, S1, h1, hs⟩ := bd_e hs
    refine kX1_logic C tM_X1_49 ⟨Nat.le_of_ble_eq_true rfl, Nat.le_of_ble_eq_true rfl⟩ ⟨Nat.le_of_ble_eq_true rfl, Nat.le_of_ble_eq_true rfl⟩ hK hP hS hl.1 (rest := []) (Nat.le_of_ble_eq_true rfl) dX1_joined_38 h1 (fun H locs hP hS => ?_)
    exact u_iret hx hb hr hlocks hP hS hs dX1_joined_41
  have hs := if_f c1 hs
  by_cases c2 : x1 = 1
  · have hs := if_t c2 hs
    refine u_table (k := 1) (a := 1) (off := 41) (tgt := 42) hx hb dX1_joined_1 c2 (by decide) (by decide) (by decide) (by decide) (by decide) ?_
    refine lv_aload_n hx hb dX1_joined_42 rfl (lv_at hl 0 rfl) ?_
    refine lv_aload_n hx hb dX1_joined_43 rfl (lv_at hl 2 rfl) ?_
    refine lv_iload_n hx hb dX1_joined_44 rfl (lv_at hl 3 rfl) ?_
    refine lv_iload hx hb dX1_joined_45 (lv_at hl 4 rfl) ?_
    refine lv_iand hx hb dX1_joined_47 ?_
    obtain ⟨r2, S2, h2, hs⟩ := bd_e hs
    refine kX1_logic C tM_X1_49 ⟨Nat.le_of_ble_eq_true rfl, Nat.le_of_ble_eq_true rfl⟩ ⟨Nat.le_of_ble_eq_true rfl, Nat.le_of_ble_eq_true rfl⟩ hK hP hS hl.1 (rest := []) (Nat.le_of_ble_eq_true rfl) dX1_joined_48 h2 (fun H locs hP hS => ?_)
    exact u_iret hx hb hr hlocks hP hS hs dX1_joined_51
  have hs := if_f c2 hs
  by_cases c3 : x1 = 2
  · have hs := if_t c3 hs
    refine u_table (k := 2) (a := 2) (off := 51) (tgt := 52) hx hb dX1_joined_1 c3 (by decide) (by decide) (by decide) (by decide) (by decide) ?_
    refine lv_aload_n hx hb dX1_joined_52 rfl (lv_at hl 0 rfl) ?_
    refine lv_aload_n hx hb dX1_joined_53 rfl (lv_at hl 0 rfl) ?_
    refine lv_aload_n hx hb dX1_joined_54 rfl (lv_at hl 2 rfl) ?_
    refine lv_iload_n hx hb dX1_joined_55 rfl (lv_at hl 3 rfl) ?_
    refine lv_iload hx hb dX1_joined_56 (lv_at hl 4 rfl) ?_
    refine lv_iconst (v := 0) hx hb dX1_joined_58 (by decide) ?_
    obtain ⟨r3, S3, h3, hs⟩ := bd_e hs
    refine kX1_subtracted C tM_X1_45 ⟨Nat.le_of_ble_eq_true rfl, Nat.le_of_ble_eq_true rfl⟩ ⟨Nat.le_of_ble_eq_true rfl, Nat.le_of_ble_eq_true rfl⟩ hK hP hS hl.1 (rest := [.ref (ad 5)]) (Nat.le_of_ble_eq_true rfl) dX1_joined_59 h3 (fun H locs hP hS => ?_)
    obtain ⟨r4, S4, h4, hs⟩ := bd_e hs
    refine kX1_withCarryToX C tM_X1_53 ⟨Nat.le_of_ble_eq_true rfl, Nat.le_of_ble_eq_true rfl⟩ ⟨Nat.le_of_ble_eq_true rfl, Nat.le_of_ble_eq_true rfl⟩ hK hP hS hl.1 (rest := []) (Nat.le_of_ble_eq_true rfl) dX1_joined_62 h4 (fun H locs hP hS => ?_)
    exact u_iret hx hb hr hlocks hP hS hs dX1_joined_65
  have hs := if_f c3 hs
  by_cases c4 : x1 = 3
  · have hs := if_t c4 hs
    refine u_table (k := 3) (a := 3) (off := 65) (tgt := 66) hx hb dX1_joined_1 c4 (by decide) (by decide) (by decide) (by decide) (by decide) ?_
    refine lv_aload_n hx hb dX1_joined_66 rfl (lv_at hl 0 rfl) ?_
    refine lv_aload_n hx hb dX1_joined_67 rfl (lv_at hl 0 rfl) ?_
    refine lv_aload_n hx hb dX1_joined_68 rfl (lv_at hl 2 rfl) ?_
    refine lv_iload_n hx hb dX1_joined_69 rfl (lv_at hl 3 rfl) ?_
    refine lv_iload hx hb dX1_joined_70 (lv_at hl 4 rfl) ?_
    refine lv_iconst (v := 0) hx hb dX1_joined_72 (by decide) ?_
    obtain ⟨r5, S5, h5, hs⟩ := bd_e hs
    refine kX1_added C tM_X1_57 ⟨Nat.le_of_ble_eq_true rfl, Nat.le_of_ble_eq_true rfl⟩ ⟨Nat.le_of_ble_eq_true rfl, Nat.le_of_ble_eq_true rfl⟩ hK hP hS hl.1 (rest := [.ref (ad 5)]) (Nat.le_of_ble_eq_true rfl) dX1_joined_73 h5 (fun H locs hP hS => ?_)
    obtain ⟨r6, S6, h6, hs⟩ := bd_e hs
    refine kX1_withCarryToX C tM_X1_53 ⟨Nat.le_of_ble_eq_true rfl, Nat.le_of_ble_eq_true rfl⟩ ⟨Nat.le_of_ble_eq_true rfl, Nat.le_of_ble_eq_true rfl⟩ hK hP hS hl.1 (rest := []) (Nat.le_of_ble_eq_true rfl) dX1_joined_76 h6 (fun H locs hP hS => ?_)
    exact u_iret hx hb hr hlocks hP hS hs dX1_joined_79
  have hs := if_f c4 hs
  refine u_tableD (tgt := 80) hx hb dX1_joined_1 (fun hlo hhi => ?_) (by decide) ?_
  · have hz : (x1).toInt = 0 ∨ (x1).toInt = 1 ∨ (x1).toInt = 2 ∨ (x1).toInt = 3 := by omega
    rcases hz with hz | hz | hz | hz
    · exact absurd hz (lv_neT c1 (by decide))
    · exact absurd hz (lv_neT c2 (by decide))
    · exact absurd hz (lv_neT c3 (by decide))
    · exact absurd hz (lv_neT c4 (by decide))
  refine lv_aload_n hx hb dX1_joined_80 rfl (lv_at hl 0 rfl) ?_
  refine lv_aload_n hx hb dX1_joined_81 rfl (lv_at hl 2 rfl) ?_
  refine lv_iload_n hx hb dX1_joined_82 rfl (lv_at hl 3 rfl) ?_
  refine lv_iload hx hb dX1_joined_83 (lv_at hl 4 rfl) ?_
  refine lv_ixor hx hb dX1_joined_85 ?_
  obtain ⟨r7, S7, h7, hs⟩ := bd_e hs
  refine kX1_logic C tM_X1_49 ⟨Nat.le_of_ble_eq_true rfl, Nat.le_of_ble_eq_true rfl⟩ ⟨Nat.le_of_ble_eq_true rfl, Nat.le_of_ble_eq_true rfl⟩ hK hP hS hl.1 (rest := []) (Nat.le_of_ble_eq_true rfl) dX1_joined_86 h7 (fun H locs hP hS => ?_)
  exact u_iret hx hb hr hlocks hP hS hs dX1_joined_89
theorem kX1_joined {p : Program} {l : Launch} {e : Env} {R : Room} {s : State} {m : MethodId} {args : Array Value} {below : List Frame} {meth : Method} {c : Code} {H : Heap} {locs : List Loc} {cells slots : Nat} {Q : State → Prop} {cc : ByteArray} {pc nL : Nat} {ls : Array Slot} {rest : List Value} {D : va_G} {ad : Nat → Nat} {cI cB : ClassId} {en : Nat → Nat} {S : St} {own : String} {index : Nat} {x1 : Int32} {t2 : Nat} {x3 : Int32} {x4 : Int32} {ro : Int32} {So : St} (C : CallFix p m c cc nL s args wG own) (hlk : Cond.methodLink own index yX1_joined ∈ wG) (hR : rmX1_joined.frames + 1 ≤ R.frames ∧ 8 + (5 + 11) + rmX1_joined.locals ≤ R.locals) (hc : cells ≤ R.cells ∧ slots ≤ R.slots) (hK : KB D ad cI cB en s) (hP : va_P D vwCl (wB ad cI cB S) H) (hS : va_S (AX 10 ad s.heap.size) s.heap H locs) (hls : ls.size = nL) (hrest : (rest.map fun v => v.category).sum ≤ 8) (hd : decode cc pc = .ok (.invokevirtual index, 3)) (hs : fX1_joined x1 t2 x3 x4 S = some (ro, So)) (k : ∀ (H : Heap) (locs : List Loc), va_P D vwCl (wB ad cI cB So) H → va_S (AX 10 ad s.heap.size) s.heap H locs → W p l e R s m args below meth c H locs cells slots Q (F0 m (pc + 3) ls (.int ro :: rest))) : W p l e R s m args below meth c H locs cells slots Q (F0 m pc ls (.int x4 :: .int x3 :: .ref (en t2) :: .int x1 :: .ref (ad 5) :: rest)) :=
  u_callV (n := 4) (mX1_joined l D ad cI cB en S x1 t2 x3 x4 ro So hs) C uK_B (wg_V hlk tI_X1_joined tS_X1_joined tN_X1 tK_X1_joined) rfl rfl rfl (by decide +kernel) hR rfl (va_recv hK.1 hP (ci := 1) (q0 := 5) rfl rfl) hK hP hS hls hrest hd hc rfl k
def fX1_xAsNumber  (S : St) : Option (Int32 × St) :=
    (bd (fX4_has 16 S) fun b1 S1 => (if (zI b1) = 0 then (some (0, S1))
    else (some (1, S1))))
abbrev rmX1_xAsNumber : Room := { frames := 1, cells := 0, slots := 0, locals := 21 }
set_option maxRecDepth 100000 in
set_option maxHeartbeats 4000000 in
theorem mX1_xAsNumber (l : Launch) (D : va_G) (ad : Nat → Nat) (cI cB : ClassId) (en : Nat → Nat) (S : St)  (ro : Int32) (So : St) (hs : fX1_xAsNumber  S = some (ro, So)) : uM l yX1_xAsNumber (wg yX1_xAsNumber cX1_xAsNumber 1 (some .int)) rmX1_xAsNumber (KB D ad cI cB en) D (wB ad cI cB) (AX 10 ad) [.ref (ad 5)] S (some (.int ro), So) := by
  refine uM_start (by decide) rfl ?_
  intro p e s m below meth c hx hb hr hlocks hml hown hts hK hP
  have hT : ∀ w ∈ wG, w.before _ s = true := fun w h => hts w (List.mem_cons_of_mem _ h)
  have hS : va_S (AX 10 ad s.heap.size) s.heap s.heap [] := va_S.rf
  have hown : s.vm.findClass RX1 = some m.cls := hown
  have C : CallFix p m c cX1_xAsNumber 1 s _ wG RX1 := ⟨hx, hb, hml, hown, hT⟩
  have hl := lv_entry ([.ref (ad 5)]) (n := 1) (Nat.le_of_ble_eq_true rfl)
  rw [lg_entry_eq]
  generalize (lg_sl ([.ref (ad 5)]) ++ List.replicate (1 - (lg_sl ([.ref (ad 5)])).length) Slot.unset).toArray = ls at hl ⊢
  have hl : lv_has ls 1 [(0, .ref (ad 5))] := hl
  unfold fX1_xAsNumber at hs
  refine lv_aload_n hx hb dX1_xAsNumber_0 rfl (lv_at hl 0 rfl) ?_
  refine gB_X1_registers hx hb hT hown hK hP (hT _ tF_X1_9) dX1_xAsNumber_1 ?_
  refine lv_bipush (v := 16) hx hb dX1_xAsNumber_4 (by decide) ?_
  obtain ⟨b1, S1, h1, hs⟩ := bd_e hs
  refine kX4_has C tM_X1_37 ⟨Nat.le_of_ble_eq_true rfl, Nat.le_of_ble_eq_true rfl⟩ ⟨Nat.le_of_ble_eq_true rfl, Nat.le_of_ble_eq_true rfl⟩ hK hP hS hl.1 (rest := []) (Nat.le_of_ble_eq_true rfl) dX1_xAsNumber_6 h1 (fun H locs hP hS => ?_)
  refine lv_if_eq (tgt := 16) hx hb dX1_xAsNumber_9 (by decide) (fun c1 => ?_) (fun c1 => ?_)
  · have hs := if_t c1 hs
    refine lv_iconst (v := 0) hx hb dX1_xAsNumber_16 (by decide) ?_
    exact u_iret hx hb hr hlocks hP hS hs dX1_xAsNumber_17
  · have hs := if_f c1 hs
    refine lv_iconst (v := 1) hx hb dX1_xAsNumber_12 (by decide) ?_
    refine lv_goto (tgt := 17) hx hb dX1_xAsNumber_13 (by decide) ?_
    exact u_iret hx hb hr hlocks hP hS hs dX1_xAsNumber_17
theorem kX1_xAsNumber {p : Program} {l : Launch} {e : Env} {R : Room} {s : State} {m : MethodId} {args : Array Value} {below : List Frame} {meth : Method} {c : Code} {H : Heap} {locs : List Loc} {cells slots : Nat} {Q : State → Prop} {cc : ByteArray} {pc nL : Nat} {ls : Array Slot} {rest : List Value} {D : va_G} {ad : Nat → Nat} {cI cB : ClassId} {en : Nat → Nat} {S : St} {own : String} {index : Nat}  {ro : Int32} {So : St} (C : CallFix p m c cc nL s args wG own) (hlk : Cond.methodLink own index yX1_xAsNumber ∈ wG) (hR : rmX1_xAsNumber.frames + 1 ≤ R.frames ∧ 8 + (1 + 11) + rmX1_xAsNumber.locals ≤ R.locals) (hc : cells ≤ R.cells ∧ slots ≤ R.slots) (hK : KB D ad cI cB en s) (hP : va_P D vwCl (wB ad cI cB S) H) (hS : va_S (AX 10 ad s.heap.size) s.heap H locs) (hls : ls.size = nL) (hrest : (rest.map fun v => v.category).sum ≤ 8) (hd : decode cc pc = .ok (.invokevirtual index, 3)) (hs : fX1_xAsNumber  S = some (ro, So)) (k : ∀ (H : Heap) (locs : List Loc), va_P D vwCl (wB ad cI cB So) H → va_S (AX 10 ad s.heap.size) s.heap H locs → W p l e R s m args below meth c H locs cells slots Q (F0 m (pc + 3) ls (.int ro :: rest))) : W p l e R s m args below meth c H locs cells slots Q (F0 m pc ls (.ref (ad 5) :: rest)) :=
  u_callV (n := 0) (mX1_xAsNumber l D ad cI cB en S  ro So hs) C uK_B (wg_V hlk tI_X1_xAsNumber tS_X1_xAsNumber tN_X1 tK_X1_xAsNumber) rfl rfl rfl (by decide +kernel) hR rfl (va_recv hK.1 hP (ci := 1) (q0 := 5) rfl rfl) hK hP hS hls hrest hd hc rfl k
def fX1_decimal (x1 : Int32) (z2 : Bool) (S : St) : Option (Int32 × St) :=
    (lt ((x1 &&& 255) : Int32) fun v1 => (bv (fX4_mark 1 z2 S) fun S1 => (bv (fX4_mark 16 z2 S1) fun S2 => (if v1 = 0 then (some (v1, S2))
    else (bv (fX4_mark 4 false S2) fun S3 => (some (v1, S3)))))))
abbrev rmX1_decimal : Room := { frames := 1, cells := 0, slots := 0, locals := 22 }
set_option maxRecDepth 100000 in
set_option maxHeartbeats 4000000 in
theorem mX1_decimal (l : Launch) (D : va_G) (ad : Nat → Nat) (cI cB : ClassId) (en : Nat → Nat) (S : St) (x1 : Int32) (z2 : Bool) (ro : Int32) (So : St) (hs : fX1_decimal x1 z2 S = some (ro, So)) : uM l yX1_decimal (wg yX1_decimal cX1_decimal 4 (some .int)) rmX1_decimal (KB D ad cI cB en) D (wB ad cI cB) (AX 10 ad) [.ref (ad 5), .int x1, .int (zI z2)] S (some (.int ro), So) := by
  refine uM_start (by decide) rfl ?_
  intro p e s m below meth c hx hb hr hlocks hml hown hts hK hP
  have hT : ∀ w ∈ wG, w.before _ s = true := fun w h => hts w (List.mem_cons_of_mem _ h)
  have hS : va_S (AX 10 ad s.heap.size) s.heap s.heap [] := va_S.rf
  have hown : s.vm.findClass RX1 = some m.cls := hown
  have C : CallFix p m c cX1_decimal 4 s _ wG RX1 := ⟨hx, hb, hml, hown, hT⟩
  have hl := lv_entry ([.ref (ad 5), .int x1, .int (zI z2)]) (n := 4) (Nat.le_of_ble_eq_true rfl)
  rw [lg_entry_eq]
  generalize (lg_sl ([.ref (ad 5), .int x1, .int (zI z2)]) ++ List.replicate (4 - (lg_sl ([.ref (ad 5), .int x1, .int (zI z2)])).length) Slot.unset).toArray = ls at hl ⊢
  have hl : lv_has ls 4 [(0, .ref (ad 5)), (1, .int x1), (2, .int (zI z2))] := hl
  unfold fX1_decimal at hs
  refine lv_iload_n hx hb dX1_decimal_0 rfl (lv_at hl 1 rfl) ?_
  refine lv_sipush (v := 255) hx hb dX1_decimal_1 (by decide) ?_
  refine lv_iand hx hb dX1_decimal_4 ?_
  obtain ⟨v1, h1, hs⟩ := lt_e hs
  refine u_top h1 ?_
  refine lv_istore_n (lv' := [(3, .int v1), (0, .ref (ad 5)), (1, .int x1), (2, .int (zI z2))]) hx hb dX1_decimal_5 rfl hl (by decide) rfl (fun ls hl => ?_)
  refine lv_aload_n hx hb dX1_decimal_6 rfl (lv_at hl 1 rfl) ?_
  refine gB_X1_registers hx hb hT hown hK hP (hT _ tF_X1_9) dX1_decimal_7 ?_
  refine lv_iconst (v := 1) hx hb dX1_decimal_10 (by decide) ?_
  refine lv_iload_n hx hb dX1_decimal_11 rfl (lv_at hl 3 rfl) ?_
  obtain ⟨S1, h2, hs⟩ := bv_e hs
  refine kX4_mark C tM_X1_41 ⟨Nat.le_of_ble_eq_true rfl, Nat.le_of_ble_eq_true rfl⟩ ⟨Nat.le_of_ble_eq_true rfl, Nat.le_of_ble_eq_true rfl⟩ hK hP hS hl.1 (rest := []) (Nat.le_of_ble_eq_true rfl) dX1_decimal_12 h2 (fun H locs hP hS => ?_)
  refine lv_aload_n hx hb dX1_decimal_15 rfl (lv_at hl 1 rfl) ?_
  refine gB_X1_registers hx hb hT hown hK hP (hT _ tF_X1_9) dX1_decimal_16 ?_
  refine lv_bipush (v := 16) hx hb dX1_decimal_19 (by decide) ?_
  refine lv_iload_n hx hb dX1_decimal_21 rfl (lv_at hl 3 rfl) ?_
  obtain ⟨S2, h3, hs⟩ := bv_e hs
  refine kX4_mark C tM_X1_41 ⟨Nat.le_of_ble_eq_true rfl, Nat.le_of_ble_eq_true rfl⟩ ⟨Nat.le_of_ble_eq_true rfl, Nat.le_of_ble_eq_true rfl⟩ hK hP hS hl.1 (rest := []) (Nat.le_of_ble_eq_true rfl) dX1_decimal_22 h3 (fun H locs hP hS => ?_)
  refine lv_iload_n hx hb dX1_decimal_25 rfl (lv_at hl 0 rfl) ?_
  refine lv_if_eq (tgt := 38) hx hb dX1_decimal_26 (by decide) (fun c1 => ?_) (fun c1 => ?_)
  · have hs := if_t c1 hs
    refine lv_iload_n hx hb dX1_decimal_38 rfl (lv_at hl 0 rfl) ?_
    exact u_iret hx hb hr hlocks hP hS hs dX1_decimal_39
  · have hs := if_f c1 hs
    refine lv_aload_n hx hb dX1_decimal_29 rfl (lv_at hl 1 rfl) ?_
    refine gB_X1_registers hx hb hT hown hK hP (hT _ tF_X1_9) dX1_decimal_30 ?_
    refine lv_iconst (v := 4) hx hb dX1_decimal_33 (by decide) ?_
    refine lv_iconst (v := 0) hx hb dX1_decimal_34 (by decide) ?_
    obtain ⟨S3, h4, hs⟩ := bv_e hs
    refine kX4_mark C tM_X1_41 ⟨Nat.le_of_ble_eq_true rfl, Nat.le_of_ble_eq_true rfl⟩ ⟨Nat.le_of_ble_eq_true rfl, Nat.le_of_ble_eq_true rfl⟩ hK hP hS hl.1 (rest := []) (Nat.le_of_ble_eq_true rfl) dX1_decimal_35 h4 (fun H locs hP hS => ?_)
    refine lv_iload_n hx hb dX1_decimal_38 rfl (lv_at hl 0 rfl) ?_
    exact u_iret hx hb hr hlocks hP hS hs dX1_decimal_39
theorem kX1_decimal {p : Program} {l : Launch} {e : Env} {R : Room} {s : State} {m : MethodId} {args : Array Value} {below : List Frame} {meth : Method} {c : Code} {H : Heap} {locs : List Loc} {cells slots : Nat} {Q : State → Prop} {cc : ByteArray} {pc nL : Nat} {ls : Array Slot} {rest : List Value} {D : va_G} {ad : Nat → Nat} {cI cB : ClassId} {en : Nat → Nat} {S : St} {own : String} {index : Nat} {x1 : Int32} {z2 : Bool} {ro : Int32} {So : St} (C : CallFix p m c cc nL s args wG own) (hlk : Cond.methodLink own index yX1_decimal ∈ wG) (hR : rmX1_decimal.frames + 1 ≤ R.frames ∧ 8 + (4 + 11) + rmX1_decimal.locals ≤ R.locals) (hc : cells ≤ R.cells ∧ slots ≤ R.slots) (hK : KB D ad cI cB en s) (hP : va_P D vwCl (wB ad cI cB S) H) (hS : va_S (AX 10 ad s.heap.size) s.heap H locs) (hls : ls.size = nL) (hrest : (rest.map fun v => v.category).sum ≤ 8) (hd : decode cc pc = .ok (.invokevirtual index, 3)) (hs : fX1_decimal x1 z2 S = some (ro, So)) (k : ∀ (H : Heap) (locs : List Loc), va_P D vwCl (wB ad cI cB So) H → va_S (AX 10 ad s.heap.size) s.heap H locs → W p l e R s m args below meth c H locs cells slots Q (F0 m (pc + 3) ls (.int ro :: rest))) : W p l e R s m args below meth c H locs cells slots Q (F0 m pc ls (.int (zI z2) :: .int x1 :: .ref (ad 5) :: rest)) :=
  u_callV (n := 2) (mX1_decimal l D ad cI cB en S x1 z2 ro So hs) C uK_B (wg_V hlk tI_X1_decimal tS_X1_decimal tN_X1 tK_X1_decimal) rfl rfl rfl (by decide +kernel) hR rfl (va_recv hK.1 hP (ci := 1) (q0 := 5) rfl rfl) hK hP hS hls hrest hd hc rfl k
def fX1_decimalMinus (x1 : Int32) (x2 : Int32) (S : St) : Option (Int32 × St) :=
    (bd (fX1_xAsNumber S) fun r1 S1 => (lt ((((x1 &&& 15) - (x2 &&& 15)) - r1) : Int32) fun v1 => (jn (fun (v2 : Int32) => (lt ((v2 + ((x1 &&& 240) - (x2 &&& 240))) : Int32) fun v3 => (jn (fun (b1 : Bool) => (jn (fun (v4 : Int32) => (bd (fX1_decimal v4 b1 S1) fun r2 S2 => (some (r2, S2)))) fun K3 =>
    (if (zI b1) = 0 then (K3 v3)
    else (K3 (v3 - 96))))) fun K2 =>
    (if 0 ≤ v3 then (K2 false)
    else (K2 true))))) fun K1 =>
    (if 0 ≤ v1 then (K1 v1)
    else (lt (v1 + (-6)) fun v5 => (K1 v5))))))
abbrev rmX1_decimalMinus : Room := { frames := 2, cells := 0, slots := 0, locals := 45 }
set_option maxRecDepth 100000 in
set_option maxHeartbeats 4000000 in
theorem mX1_decimalMinus (l : Launch) (D : va_G) (ad : Nat → Nat) (cI cB : ClassId) (en : Nat → Nat) (S : St) (x1 : Int32) (x2 : Int32) (ro : Int32) (So : St) (hs : fX1_decimalMinus x1 x2 S = some (ro, So)) : uM l yX1_decimalMinus (wg yX1_decimalMinus cX1_decimalMinus 5 (some .int)) rmX1_decimalMinus (KB D ad cI cB en) D (wB ad cI cB) (AX 10 ad) [.ref (ad 5), .int x1, .int x2] S (some (.int ro), So) := by
  refine uM_start (by decide) rfl ?_
  intro p e s m below meth c hx hb hr hlocks hml hown hts hK hP
  have hT : ∀ w ∈ wG, w.before _ s = true := fun w h => hts w (List.mem_cons_of_mem _ h)
  have hS : va_S (AX 10 ad s.heap.size) s.heap s.heap [] := va_S.rf
  have hown : s.vm.findClass RX1 = some m.cls := hown
  have C : CallFix p m c cX1_decimalMinus 5 s _ wG RX1 := ⟨hx, hb, hml, hown, hT⟩
  have hl := lv_entry ([.ref (ad 5), .int x1, .int x2]) (n := 5) (Nat.le_of_ble_eq_true rfl)
  rw [lg_entry_eq]
  generalize (lg_sl ([.ref (ad 5), .int x1, .int x2]) ++ List.replicate (5 - (lg_sl ([.ref (ad 5), .int x1, .int x2])).length) Slot.unset).toArray = ls at hl ⊢
  have hl : lv_has ls 5 [(0, .ref (ad 5)), (1, .int x1), (2, .int x2)] := hl
  unfold fX1_decimalMinus at hs
  refine lv_iload_n hx hb dX1_decimalMinus_0 rfl (lv_at hl 1 rfl) ?_
  refine lv_bipush (v := 15) hx hb dX1_decimalMinus_1 (by decide) ?_
  refine lv_iand hx hb dX1_decimalMinus_3 ?_
  refine lv_iload_n hx hb dX1_decimalMinus_4 rfl (lv_at hl 2 rfl) ?_
  refine lv_bipush (v := 15) hx hb dX1_decimalMinus_5 (by decide) ?_
  refine lv_iand hx hb dX1_decimalMinus_7 ?_
  refine lv_isub hx hb dX1_decimalMinus_8 ?_
  refine lv_aload_n hx hb dX1_decimalMinus_9 rfl (lv_at hl 0 rfl) ?_
  obtain ⟨r1, S1, h1, hs⟩ := bd_e hs
  refine kX1_xAsNumber C tM_X1_60 ⟨Nat.le_of_ble_eq_true rfl, Nat.le_of_ble_eq_true rfl⟩ ⟨Nat.le_of_ble_eq_true rfl, Nat.le_of_ble_eq_true rfl⟩ hK hP hS hl.1 (rest := [.int ((x1 &&& 15) - (x2 &&& 15))]) (Nat.le_of_ble_eq_true rfl) dX1_decimalMinus_10 h1 (fun H locs hP hS => ?_)
  refine lv_isub hx hb dX1_decimalMinus_13 ?_
  obtain ⟨v1, h2, hs⟩ := lt_e hs
  refine u_top h2 ?_
  refine lv_istore_n (lv' := [(3, .int v1), (0, .ref (ad 5)), (1, .int x1), (2, .int x2)]) hx hb dX1_decimalMinus_14 rfl hl (by decide) rfl (fun ls hl => ?_)
  refine lv_iload_n hx hb dX1_decimalMinus_15 rfl (lv_at hl 0 rfl) ?_
  refine jn_e hs (fun K1 => ∀ (v2 : Int32) (H : Heap) (locs : List Loc) (ls : Array Slot), lv_has ls 5 [(3, .int v2), (0, .ref (ad 5)), (1, .int x1), (2, .int x2)] → va_P D vwCl (wB ad cI cB S1) H → va_S (AX 10 ad s.heap.size) s.heap H locs → K1 v2 = some (ro, So) → W p l e rmX1_decimalMinus s m ([.ref (ad 5), .int x1, .int x2] : List Value).toArray below meth c H locs 0 0 (MQ below (uQ D (wB ad cI cB) (some (.int ro), So) (AX 10 ad s.heap.size)) ([.ref (ad 5), .int x1, .int x2] : List Value).toArray s 0 0 (AX 10 ad s.heap.size)) (F0 m 22 ls [])) ?_ (fun K1 J1 hs => ?_)
  · intro v2 H locs ls hl hP hS hs
    refine lv_iload_n hx hb dX1_decimalMinus_22 rfl (lv_at hl 0 rfl) ?_
    refine lv_iload_n hx hb dX1_decimalMinus_23 rfl (lv_at hl 2 rfl) ?_
    refine lv_sipush (v := 240) hx hb dX1_decimalMinus_24 (by decide) ?_
    refine lv_iand hx hb dX1_decimalMinus_27 ?_
    refine lv_iload_n hx hb dX1_decimalMinus_28 rfl (lv_at hl 3 rfl) ?_
    refine lv_sipush (v := 240) hx hb dX1_decimalMinus_29 (by decide) ?_
    refine lv_iand hx hb dX1_decimalMinus_32 ?_
    refine lv_isub hx hb dX1_decimalMinus_33 ?_
    refine lv_iadd hx hb dX1_decimalMinus_34 ?_
    obtain ⟨v3, h3, hs⟩ := lt_e hs
    refine u_top h3 ?_
    refine lv_istore_n (lv' := [(3, .int v3), (0, .ref (ad 5)), (1, .int x1), (2, .int x2)]) hx hb dX1_decimalMinus_35 rfl hl (by decide) rfl (fun ls hl => ?_)
    refine lv_iload_n hx hb dX1_decimalMinus_36 rfl (lv_at hl 0 rfl) ?_
    refine jn_e hs (fun K2 => ∀ (b1 : Bool) (H : Heap) (locs : List Loc) (ls : Array Slot), lv_has ls 5 [(3, .int v3), (0, .ref (ad 5))] → va_P D vwCl (wB ad cI cB S1) H → va_S (AX 10 ad s.heap.size) s.heap H locs → K2 b1 = some (ro, So) → W p l e rmX1_decimalMinus s m ([.ref (ad 5), .int x1, .int x2] : List Value).toArray below meth c H locs 0 0 (MQ below (uQ D (wB ad cI cB) (some (.int ro), So) (AX 10 ad s.heap.size)) ([.ref (ad 5), .int x1, .int x2] : List Value).toArray s 0 0 (AX 10 ad s.heap.size)) (F0 m 45 ls [.int (zI b1)])) ?_ (fun K2 J2 hs => ?_)
    · intro b1 H locs ls hl hP hS hs
      refine lv_istore (lv' := [(4, .int (zI b1)), (3, .int v3), (0, .ref (ad 5))]) hx hb dX1_decimalMinus_45 hl (by decide) rfl (fun ls hl => ?_)
      refine lv_aload_n hx hb dX1_decimalMinus_47 rfl (lv_at hl 2 rfl) ?_
      refine lv_iload hx hb dX1_decimalMinus_48 (lv_at hl 0 rfl) ?_
      refine jn_e hs (fun K3 => ∀ (v4 : Int32) (H : Heap) (locs : List Loc) (ls : Array Slot), lv_has ls 5 [(4, .int (zI b1))] → va_P D vwCl (wB ad cI cB S1) H → va_S (AX 10 ad s.heap.size) s.heap H locs → K3 v4 = some (ro, So) → W p l e rmX1_decimalMinus s m ([.ref (ad 5), .int x1, .int x2] : List Value).toArray below meth c H locs 0 0 (MQ below (uQ D (wB ad cI cB) (some (.int ro), So) (AX 10 ad s.heap.size)) ([.ref (ad 5), .int x1, .int x2] : List Value).toArray s 0 0 (AX 10 ad s.heap.size)) (F0 m 61 ls [.int v4, .ref (ad 5)])) ?_ (fun K3 J3 hs => ?_)
      · intro v4 H locs ls hl hP hS hs
        refine lv_iload hx hb dX1_decimalMinus_61 (lv_at hl 0 rfl) ?_
        obtain ⟨r2, S2, h4, hs⟩ := bd_e hs
        refine kX1_decimal C tM_X1_64 ⟨Nat.le_of_ble_eq_true rfl, Nat.le_of_ble_eq_true rfl⟩ ⟨Nat.le_of_ble_eq_true rfl, Nat.le_of_ble_eq_true rfl⟩ hK hP hS hl.1 (rest := []) (Nat.le_of_ble_eq_true rfl) dX1_decimalMinus_63 h4 (fun H locs hP hS => ?_)
        exact u_iret hx hb hr hlocks hP hS hs dX1_decimalMinus_66
      ·
        refine lv_if_eq (tgt := 60) hx hb dX1_decimalMinus_50 (by decide) (fun c1 => ?_) (fun c1 => ?_)
        · have hs := if_t c1 hs
          refine lv_iload_n hx hb dX1_decimalMinus_60 rfl (lv_at hl 1 rfl) ?_
          exact J3 v3 _ _ _ (lv_sub hl [0] rfl) hP hS hs
        · have hs := if_f c1 hs
          refine lv_iload_n hx hb dX1_decimalMinus_53 rfl (lv_at hl 1 rfl) ?_
          refine lv_bipush (v := 96) hx hb dX1_decimalMinus_54 (by decide) ?_
          refine lv_isub hx hb dX1_decimalMinus_56 ?_
          refine lv_goto (tgt := 61) hx hb dX1_decimalMinus_57 (by decide) ?_
          exact J3 (v3 - 96) _ _ _ (lv_sub hl [0] rfl) hP hS hs
    ·
      refine lv_if_ge (tgt := 44) hx hb dX1_decimalMinus_37 (by decide) (fun c2 => ?_) (fun c2 => ?_)
      · have hs := if_t c2 hs
        refine lv_iconst (v := 0) hx hb dX1_decimalMinus_44 (by decide) ?_
        exact J2 false _ _ _ (lv_sub hl [0, 1] rfl) hP hS hs
      · have hs := if_f c2 hs
        refine lv_iconst (v := 1) hx hb dX1_decimalMinus_40 (by decide) ?_
        refine lv_goto (tgt := 45) hx hb dX1_decimalMinus_41 (by decide) ?_
        exact J2 true _ _ _ (lv_sub hl [0, 1] rfl) hP hS hs
  ·
    refine lv_if_ge (tgt := 22) hx hb dX1_decimalMinus_16 (by decide) (fun c3 => ?_) (fun c3 => ?_)
    · have hs := if_t c3 hs
      exact J1 v1 _ _ _ (lv_sub hl [0, 1, 2, 3] rfl) hP hS hs
    · have hs := if_f c3 hs
      obtain ⟨v5, h5, hs⟩ := lt_e hs
      refine lv_iinc (v := v5) (lv' := [(3, .int v5), (0, .ref (ad 5)), (1, .int x1), (2, .int x2)]) hx hb dX1_decimalMinus_19 hl (k := 0) rfl (by rw [h5]; rfl) (by decide) rfl (fun ls hl => ?_)
      exact J1 v5 _ _ _ (lv_sub hl [0, 1, 2, 3] rfl) hP hS hs
theorem kX1_decimalMinus {p : Program} {l : Launch} {e : Env} {R : Room} {s : State} {m : MethodId} {args : Array Value} {below : List Frame} {meth : Method} {c : Code} {H : Heap} {locs : List Loc} {cells slots : Nat} {Q : State → Prop} {cc : ByteArray} {pc nL : Nat} {ls : Array Slot} {rest : List Value} {D : va_G} {ad : Nat → Nat} {cI cB : ClassId} {en : Nat → Nat} {S : St} {own : String} {index : Nat} {x1 : Int32} {x2 : Int32} {ro : Int32} {So : St} (C : CallFix p m c cc nL s args wG own) (hlk : Cond.methodLink own index yX1_decimalMinus ∈ wG) (hR : rmX1_decimalMinus.frames + 1 ≤ R.frames ∧ 8 + (5 + 11) + rmX1_decimalMinus.locals ≤ R.locals) (hc : cells ≤ R.cells ∧ slots ≤ R.slots) (hK : KB D ad cI cB en s) (hP : va_P D vwCl (wB ad cI cB S) H) (hS : va_S (AX 10 ad s.heap.size) s.heap H locs) (hls : ls.size = nL) (hrest : (rest.map fun v => v.category).sum ≤ 8) (hd : decode cc pc = .ok (.invokevirtual index, 3)) (hs : fX1_decimalMinus x1 x2 S = some (ro, So)) (k : ∀ (H : Heap) (locs : List Loc), va_P D vwCl (wB ad cI cB So) H → va_S (AX 10 ad s.heap.size) s.heap H locs → W p l e R s m args below meth c H locs cells slots Q (F0 m (pc + 3) ls (.int ro :: rest))) : W p l e R s m args below meth c H locs cells slots Q (F0 m pc ls (.int x2 :: .int x1 :: .ref (ad 5) :: rest)) :=
  u_callV (n := 2) (mX1_decimalMinus l D ad cI cB en S x1 x2 ro So hs) C uK_B (wg_V hlk tI_X1_decimalMinus tS_X1_decimalMinus tN_X1 tK_X1_decimalMinus) rfl rfl rfl (by decide +kernel) hR rfl (va_recv hK.1 hP (ci := 1) (q0 := 5) rfl rfl) hK hP hS hls hrest hd hc rfl k
def fX1_joinedWithX (x1 : Int32) (t2 : Nat) (x3 : Int32) (x4 : Int32) (S : St) : Option (Int32 × St) :=
    (gd (t2 < 3) (bd (fX4_has 4 S) fun b1 S1 => (jn (fun (v1 : Int32) (S2 : St) => (jn (fun (b2 : Bool) => (bv (fX4_mark 4 b2 S2) fun S3 => (bd (fX1_withCarryToX v1 S3) fun r1 S4 => (some (r1, S4))))) fun K2 =>
    (if (zI b1) = 0 then (K2 false)
    else (if v1 = 0 then (K2 true)
    else (K2 false))))) fun K1 =>
    (if x1 = 2 then (bd (fX1_xAsNumber S1) fun r4 S7 => (bd (fX1_subtracted t2 x3 x4 r4 S7) fun r5 S8 => (K1 r5 S8)))
    else (bd (fX1_xAsNumber S1) fun r2 S5 => (bd (fX1_added t2 x3 x4 r2 S5) fun r3 S6 => (K1 r3 S6)))))))
abbrev rmX1_joinedWithX : Room := { frames := 2, cells := 0, slots := 0, locals := 52 }
set_option maxRecDepth 100000 in
set_option maxHeartbeats 4000000 in
theorem mX1_joinedWithX (l : Launch) (D : va_G) (ad : Nat → Nat) (cI cB : ClassId) (en : Nat → Nat) (S : St) (x1 : Int32) (t2 : Nat) (x3 : Int32) (x4 : Int32) (ro : Int32) (So : St) (hs : fX1_joinedWithX x1 t2 x3 x4 S = some (ro, So)) : uM l yX1_joinedWithX (wg yX1_joinedWithX cX1_joinedWithX 7 (some .int)) rmX1_joinedWithX (KB D ad cI cB en) D (wB ad cI cB) (AX 10 ad) [.ref (ad 5), .int x1, .ref (en t2), .int x3, .int x4] S (some (.int ro), So) := by
  refine uM_start (by decide) rfl ?_
  intro p e s m below meth c hx hb hr hlocks hml hown hts hK hP
  have hT : ∀ w ∈ wG, w.before _ s = true := fun w h => hts w (List.mem_cons_of_mem _ h)
  have hS : va_S (AX 10 ad s.heap.size) s.heap s.heap [] := va_S.rf
  have hown : s.vm.findClass RX1 = some m.cls := hown
  have C : CallFix p m c cX1_joinedWithX 7 s _ wG RX1 := ⟨hx, hb, hml, hown, hT⟩
  have hl := lv_entry ([.ref (ad 5), .int x1, .ref (en t2), .int x3, .int x4]) (n := 7) (Nat.le_of_ble_eq_true rfl)
  rw [lg_entry_eq]
  generalize (lg_sl ([.ref (ad 5), .int x1, .ref (en t2), .int x3, .int x4]) ++ List.replicate (7 - (lg_sl ([.ref (ad 5), .int x1, .ref (en t2), .int x3, .int x4])).length) Slot.unset).toArray = ls at hl ⊢
  have hl : lv_has ls 7 [(0, .ref (ad 5)), (1, .int x1), (2, .ref (en t2)), (3, .int x3), (4, .int x4)] := hl
  unfold fX1_joinedWithX at hs
  obtain ⟨ht2, hs⟩ := gd_e hs
  refine lv_aload_n hx hb dX1_joinedWithX_0 rfl (lv_at hl 0 rfl) ?_
  refine gB_X1_registers hx hb hT hown hK hP (hT _ tF_X1_9) dX1_joinedWithX_1 ?_
  refine lv_iconst (v := 4) hx hb dX1_joinedWithX_4 (by decide) ?_
  obtain ⟨b1, S1, h1, hs⟩ := bd_e hs
  refine kX4_has C tM_X1_37 ⟨Nat.le_of_ble_eq_true rfl, Nat.le_of_ble_eq_true rfl⟩ ⟨Nat.le_of_ble_eq_true rfl, Nat.le_of_ble_eq_true rfl⟩ hK hP hS hl.1 (rest := []) (Nat.le_of_ble_eq_true rfl) dX1_joinedWithX_5 h1 (fun H locs hP hS => ?_)
  refine lv_istore (lv' := [(5, .int (zI b1)), (0, .ref (ad 5)), (1, .int x1), (2, .ref (en t2)), (3, .int x3), (4, .int x4)]) hx hb dX1_joinedWithX_8 hl (by decide) rfl (fun ls hl => ?_)
  refine lv_iload_n hx hb dX1_joinedWithX_10 rfl (lv_at hl 2 rfl) ?_
  refine lv_iconst (v := 2) hx hb dX1_joinedWithX_11 (by decide) ?_
  refine jn_e hs (fun K1 => ∀ (v1 : Int32) (S2 : St) (H : Heap) (locs : List Loc) (ls : Array Slot), lv_has ls 7 [(5, .int (zI b1)), (0, .ref (ad 5))] → va_P D vwCl (wB ad cI cB S2) H → va_S (AX 10 ad s.heap.size) s.heap H locs → K1 v1 S2 = some (ro, So) → W p l e rmX1_joinedWithX s m ([.ref (ad 5), .int x1, .ref (en t2), .int x3, .int x4] : List Value).toArray below meth c H locs 0 0 (MQ below (uQ D (wB ad cI cB) (some (.int ro), So) (AX 10 ad s.heap.size)) ([.ref (ad 5), .int x1, .ref (en t2), .int x3, .int x4] : List Value).toArray s 0 0 (AX 10 ad s.heap.size)) (F0 m 42 ls [.int v1])) ?_ (fun K1 J1 hs => ?_)
  · intro v1 S2 H locs ls hl hP hS hs
    refine lv_istore (lv' := [(6, .int v1), (5, .int (zI b1)), (0, .ref (ad 5))]) hx hb dX1_joinedWithX_42 hl (by decide) rfl (fun ls hl => ?_)
    refine lv_aload_n hx hb dX1_joinedWithX_44 rfl (lv_at hl 2 rfl) ?_
    refine gB_X1_registers hx hb hT hown hK hP (hT _ tF_X1_9) dX1_joinedWithX_45 ?_
    refine lv_iconst (v := 4) hx hb dX1_joinedWithX_48 (by decide) ?_
    refine lv_iload hx hb dX1_joinedWithX_49 (lv_at hl 1 rfl) ?_
    refine jn_e hs (fun K2 => ∀ (b2 : Bool) (H : Heap) (locs : List Loc) (ls : Array Slot), lv_has ls 7 [(6, .int v1), (0, .ref (ad 5))] → va_P D vwCl (wB ad cI cB S2) H → va_S (AX 10 ad s.heap.size) s.heap H locs → K2 b2 = some (ro, So) → W p l e rmX1_joinedWithX s m ([.ref (ad 5), .int x1, .ref (en t2), .int x3, .int x4] : List Value).toArray below meth c H locs 0 0 (MQ below (uQ D (wB ad cI cB) (some (.int ro), So) (AX 10 ad s.heap.size)) ([.ref (ad 5), .int x1, .ref (en t2), .int x3, .int x4] : List Value).toArray s 0 0 (AX 10 ad s.heap.size)) (F0 m 64 ls [.int (zI b2), .int 4, .ref (ad 2)])) ?_ (fun K2 J2 hs => ?_)
    · intro b2 H locs ls hl hP hS hs
      obtain ⟨S3, h2, hs⟩ := bv_e hs
      refine kX4_mark C tM_X1_41 ⟨Nat.le_of_ble_eq_true rfl, Nat.le_of_ble_eq_true rfl⟩ ⟨Nat.le_of_ble_eq_true rfl, Nat.le_of_ble_eq_true rfl⟩ hK hP hS hl.1 (rest := []) (Nat.le_of_ble_eq_true rfl) dX1_joinedWithX_64 h2 (fun H locs hP hS => ?_)
      refine lv_aload_n hx hb dX1_joinedWithX_67 rfl (lv_at hl 1 rfl) ?_
      refine lv_iload hx hb dX1_joinedWithX_68 (lv_at hl 0 rfl) ?_
      obtain ⟨r1, S4, h3, hs⟩ := bd_e hs
      refine kX1_withCarryToX C tM_X1_53 ⟨Nat.le_of_ble_eq_true rfl, Nat.le_of_ble_eq_true rfl⟩ ⟨Nat.le_of_ble_eq_true rfl, Nat.le_of_ble_eq_true rfl⟩ hK hP hS hl.1 (rest := []) (Nat.le_of_ble_eq_true rfl) dX1_joinedWithX_70 h3 (fun H locs hP hS => ?_)
      exact u_iret hx hb hr hlocks hP hS hs dX1_joinedWithX_73
    ·
      refine lv_if_eq (tgt := 63) hx hb dX1_joinedWithX_51 (by decide) (fun c1 => ?_) (fun c1 => ?_)
      · have hs := if_t c1 hs
        refine lv_iconst (v := 0) hx hb dX1_joinedWithX_63 (by decide) ?_
        exact J2 false _ _ _ (lv_sub hl [0, 2] rfl) hP hS hs
      · have hs := if_f c1 hs
        refine lv_iload hx hb dX1_joinedWithX_54 (lv_at hl 0 rfl) ?_
        refine lv_if_ne (tgt := 63) hx hb dX1_joinedWithX_56 (by decide) (fun c2 => ?_) (fun c2 => ?_)
        · have hs := if_f c2 hs
          refine lv_iconst (v := 0) hx hb dX1_joinedWithX_63 (by decide) ?_
          exact J2 false _ _ _ (lv_sub hl [0, 2] rfl) hP hS hs
        · have hs := if_t c2 hs
          refine lv_iconst (v := 1) hx hb dX1_joinedWithX_59 (by decide) ?_
          refine lv_goto (tgt := 64) hx hb dX1_joinedWithX_60 (by decide) ?_
          exact J2 true _ _ _ (lv_sub hl [0, 2] rfl) hP hS hs
  ·
    refine lv_icmp_ne (tgt := 30) hx hb dX1_joinedWithX_12 (by decide) (fun c3 => ?_) (fun c3 => ?_)
    · have hs := if_f c3 hs
      refine lv_aload_n hx hb dX1_joinedWithX_30 rfl (lv_at hl 1 rfl) ?_
      refine lv_aload_n hx hb dX1_joinedWithX_31 rfl (lv_at hl 3 rfl) ?_
      refine lv_iload_n hx hb dX1_joinedWithX_32 rfl (lv_at hl 4 rfl) ?_
      refine lv_iload hx hb dX1_joinedWithX_33 (lv_at hl 5 rfl) ?_
      refine lv_aload_n hx hb dX1_joinedWithX_35 rfl (lv_at hl 1 rfl) ?_
      obtain ⟨r2, S5, h4, hs⟩ := bd_e hs
      refine kX1_xAsNumber C tM_X1_60 ⟨Nat.le_of_ble_eq_true rfl, Nat.le_of_ble_eq_true rfl⟩ ⟨Nat.le_of_ble_eq_true rfl, Nat.le_of_ble_eq_true rfl⟩ hK hP hS hl.1 (rest := [.int x4, .int x3, .ref (en t2), .ref (ad 5)]) (Nat.le_of_ble_eq_true rfl) dX1_joinedWithX_36 h4 (fun H locs hP hS => ?_)
      obtain ⟨r3, S6, h5, hs⟩ := bd_e hs
      refine kX1_added C tM_X1_57 ⟨Nat.le_of_ble_eq_true rfl, Nat.le_of_ble_eq_true rfl⟩ ⟨Nat.le_of_ble_eq_true rfl, Nat.le_of_ble_eq_true rfl⟩ hK hP hS hl.1 (rest := []) (Nat.le_of_ble_eq_true rfl) dX1_joinedWithX_39 h5 (fun H locs hP hS => ?_)
      exact J1 r3 S6 _ _ _ (lv_sub hl [0, 1] rfl) hP hS hs
    · have hs := if_t c3 hs
      refine lv_aload_n hx hb dX1_joinedWithX_15 rfl (lv_at hl 1 rfl) ?_
      refine lv_aload_n hx hb dX1_joinedWithX_16 rfl (lv_at hl 3 rfl) ?_
      refine lv_iload_n hx hb dX1_joinedWithX_17 rfl (lv_at hl 4 rfl) ?_
      refine lv_iload hx hb dX1_joinedWithX_18 (lv_at hl 5 rfl) ?_
      refine lv_aload_n hx hb dX1_joinedWithX_20 rfl (lv_at hl 1 rfl) ?_
      obtain ⟨r4, S7, h6, hs⟩ := bd_e hs
      refine kX1_xAsNumber C tM_X1_60 ⟨Nat.le_of_ble_eq_true rfl, Nat.le_of_ble_eq_true rfl⟩ ⟨Nat.le_of_ble_eq_true rfl, Nat.le_of_ble_eq_true rfl⟩ hK hP hS hl.1 (rest := [.int x4, .int x3, .ref (en t2), .ref (ad 5)]) (Nat.le_of_ble_eq_true rfl) dX1_joinedWithX_21 h6 (fun H locs hP hS => ?_)
      obtain ⟨r5, S8, h7, hs⟩ := bd_e hs
      refine kX1_subtracted C tM_X1_45 ⟨Nat.le_of_ble_eq_true rfl, Nat.le_of_ble_eq_true rfl⟩ ⟨Nat.le_of_ble_eq_true rfl, Nat.le_of_ble_eq_true rfl⟩ hK hP hS hl.1 (rest := []) (Nat.le_of_ble_eq_true rfl) dX1_joinedWithX_24 h7 (fun H locs hP hS => ?_)
      refine lv_goto (tgt := 42) hx hb dX1_joinedWithX_27 (by decide) ?_
      exact J1 r5 S8 _ _ _ (lv_sub hl [0, 1] rfl) hP hS hs
theorem kX1_joinedWithX {p : Program} {l : Launch} {e : Env} {R : Room} {s : State} {m : MethodId} {args : Array Value} {below : List Frame} {meth : Method} {c : Code} {H : Heap} {locs : List Loc} {cells slots : Nat} {Q : State → Prop} {cc : ByteArray} {pc nL : Nat} {ls : Array Slot} {rest : List Value} {D : va_G} {ad : Nat → Nat} {cI cB : ClassId} {en : Nat → Nat} {S : St} {own : String} {index : Nat} {x1 : Int32} {t2 : Nat} {x3 : Int32} {x4 : Int32} {ro : Int32} {So : St} (C : CallFix p m c cc nL s args wG own) (hlk : Cond.methodLink own index yX1_joinedWithX ∈ wG) (hR : rmX1_joinedWithX.frames + 1 ≤ R.frames ∧ 8 + (7 + 11) + rmX1_joinedWithX.locals ≤ R.locals) (hc : cells ≤ R.cells ∧ slots ≤ R.slots) (hK : KB D ad cI cB en s) (hP : va_P D vwCl (wB ad cI cB S) H) (hS : va_S (AX 10 ad s.heap.size) s.heap H locs) (hls : ls.size = nL) (hrest : (rest.map fun v => v.category).sum ≤ 8) (hd : decode cc pc = .ok (.invokevirtual index, 3)) (hs : fX1_joinedWithX x1 t2 x3 x4 S = some (ro, So)) (k : ∀ (H : Heap) (locs : List Loc), va_P D vwCl (wB ad cI cB So) H → va_S (AX 10 ad s.heap.size) s.heap H locs → W p l e R s m args below meth c H locs cells slots Q (F0 m (pc + 3) ls (.int ro :: rest))) : W p l e R s m args below meth c H locs cells slots Q (F0 m pc ls (.int x4 :: .int x3 :: .ref (en t2) :: .int x1 :: .ref (ad 5) :: rest)) :=
  u_callV (n := 4) (mX1_joinedWithX l D ad cI cB en S x1 t2 x3 x4 ro So hs) C uK_B (wg_V hlk tI_X1_joinedWithX tS_X1_joinedWithX tN_X1 tK_X1_joinedWithX) rfl rfl rfl (by decide +kernel) hR rfl (va_recv hK.1 hP (ci := 1) (q0 := 5) rfl rfl) hK hP hS hls hrest hd hc rfl k
def fX1_decimalPlus (x1 : Int32) (x2 : Int32) (S : St) : Option (Int32 × St) :=
    (bd (fX1_xAsNumber S) fun r1 S1 => (lt ((((x1 &&& 15) + (x2 &&& 15)) + r1) : Int32) fun v1 => (jn (fun (v2 : Int32) => (lt ((v2 + ((x1 &&& 240) + (x2 &&& 240))) : Int32) fun v3 => (jn (fun (b1 : Bool) => (jn (fun (v4 : Int32) => (bd (fX1_decimal v4 b1 S1) fun r2 S2 => (some (r2, S2)))) fun K3 =>
    (if (zI b1) = 0 then (K3 v3)
    else (K3 (v3 + 96))))) fun K2 =>
    (if v3 ≤ 159 then (K2 false)
    else (K2 true))))) fun K1 =>
    (if v1 ≤ 9 then (K1 v1)
    else (lt (v1 + 6) fun v5 => (K1 v5))))))
abbrev rmX1_decimalPlus : Room := { frames := 2, cells := 0, slots := 0, locals := 45 }
set_option maxRecDepth 100000 in
set_option maxHeartbeats 4000000 in
theorem mX1_decimalPlus (l : Launch) (D : va_G) (ad : Nat → Nat) (cI cB : ClassId) (en : Nat → Nat) (S : St) (x1 : Int32) (x2 : Int32) (ro : Int32) (So : St) (hs : fX1_decimalPlus x1 x2 S = some (ro, So)) : uM l yX1_decimalPlus (wg yX1_decimalPlus cX1_decimalPlus 5 (some .int)) rmX1_decimalPlus (KB D ad cI cB en) D (wB ad cI cB) (AX 10 ad) [.ref (ad 5), .int x1, .int x2] S (some (.int ro), So) := by
  refine uM_start (by decide) rfl ?_
  intro p e s m below meth c hx hb hr hlocks hml hown hts hK hP
  have hT : ∀ w ∈ wG, w.before _ s = true := fun w h => hts w (List.mem_cons_of_mem _ h)
  have hS : va_S (AX 10 ad s.heap.size) s.heap s.heap [] := va_S.rf
  have hown : s.vm.findClass RX1 = some m.cls := hown
  have C : CallFix p m c cX1_decimalPlus 5 s _ wG RX1 := ⟨hx, hb, hml, hown, hT⟩
  have hl := lv_entry ([.ref (ad 5), .int x1, .int x2]) (n := 5) (Nat.le_of_ble_eq_true rfl)
  rw [lg_entry_eq]
  generalize (lg_sl ([.ref (ad 5), .int x1, .int x2]) ++ List.replicate (5 - (lg_sl ([.ref (ad 5), .int x1, .int x2])).length) Slot.unset).toArray = ls at hl ⊢
  have hl : lv_has ls 5 [(0, .ref (ad 5)), (1, .int x1), (2, .int x2)] := hl
  unfold fX1_decimalPlus at hs
  refine lv_iload_n hx hb dX1_decimalPlus_0 rfl (lv_at hl 1 rfl) ?_
  refine lv_bipush (v := 15) hx hb dX1_decimalPlus_1 (by decide) ?_
  refine lv_iand hx hb dX1_decimalPlus_3 ?_
  refine lv_iload_n hx hb dX1_decimalPlus_4 rfl (lv_at hl 2 rfl) ?_
  refine lv_bipush (v := 15) hx hb dX1_decimalPlus_5 (by decide) ?_
  refine lv_iand hx hb dX1_decimalPlus_7 ?_
  refine lv_iadd hx hb dX1_decimalPlus_8 ?_
  refine lv_aload_n hx hb dX1_decimalPlus_9 rfl (lv_at hl 0 rfl) ?_
  obtain ⟨r1, S1, h1, hs⟩ := bd_e hs
  refine kX1_xAsNumber C tM_X1_60 ⟨Nat.le_of_ble_eq_true rfl, Nat.le_of_ble_eq_true rfl⟩ ⟨Nat.le_of_ble_eq_true rfl, Nat.le_of_ble_eq_true rfl⟩ hK hP hS hl.1 (rest := [.int ((x1 &&& 15) + (x2 &&& 15))]) (Nat.le_of_ble_eq_true rfl) dX1_decimalPlus_10 h1 (fun H locs hP hS => ?_)
  refine lv_iadd hx hb dX1_decimalPlus_13 ?_
  obtain ⟨v1, h2, hs⟩ := lt_e hs
  refine u_top h2 ?_
  refine lv_istore_n (lv' := [(3, .int v1), (0, .ref (ad 5)), (1, .int x1), (2, .int x2)]) hx hb dX1_decimalPlus_14 rfl hl (by decide) rfl (fun ls hl => ?_)
  refine lv_iload_n hx hb dX1_decimalPlus_15 rfl (lv_at hl 0 rfl) ?_
  refine lv_bipush (v := 9) hx hb dX1_decimalPlus_16 (by decide) ?_
  refine jn_e hs (fun K1 => ∀ (v2 : Int32) (H : Heap) (locs : List Loc) (ls : Array Slot), lv_has ls 5 [(3, .int v2), (0, .ref (ad 5)), (1, .int x1), (2, .int x2)] → va_P D vwCl (wB ad cI cB S1) H → va_S (AX 10 ad s.heap.size) s.heap H locs → K1 v2 = some (ro, So) → W p l e rmX1_decimalPlus s m ([.ref (ad 5), .int x1, .int x2] : List Value).toArray below meth c H locs 0 0 (MQ below (uQ D (wB ad cI cB) (some (.int ro), So) (AX 10 ad s.heap.size)) ([.ref (ad 5), .int x1, .int x2] : List Value).toArray s 0 0 (AX 10 ad s.heap.size)) (F0 m 24 ls [])) ?_ (fun K1 J1 hs => ?_)
  · intro v2 H locs ls hl hP hS hs
    refine lv_iload_n hx hb dX1_decimalPlus_24 rfl (lv_at hl 0 rfl) ?_
    refine lv_iload_n hx hb dX1_decimalPlus_25 rfl (lv_at hl 2 rfl) ?_
    refine lv_sipush (v := 240) hx hb dX1_decimalPlus_26 (by decide) ?_
    refine lv_iand hx hb dX1_decimalPlus_29 ?_
    refine lv_iload_n hx hb dX1_decimalPlus_30 rfl (lv_at hl 3 rfl) ?_
    refine lv_sipush (v := 240) hx hb dX1_decimalPlus_31 (by decide) ?_
    refine lv_iand hx hb dX1_decimalPlus_34 ?_
    refine lv_iadd hx hb dX1_decimalPlus_35 ?_
    refine lv_iadd hx hb dX1_decimalPlus_36 ?_
    obtain ⟨v3, h3, hs⟩ := lt_e hs
    refine u_top h3 ?_
    refine lv_istore_n (lv' := [(3, .int v3), (0, .ref (ad 5)), (1, .int x1), (2, .int x2)]) hx hb dX1_decimalPlus_37 rfl hl (by decide) rfl (fun ls hl => ?_)
    refine lv_iload_n hx hb dX1_decimalPlus_38 rfl (lv_at hl 0 rfl) ?_
    refine lv_sipush (v := 159) hx hb dX1_decimalPlus_39 (by decide) ?_
    refine jn_e hs (fun K2 => ∀ (b1 : Bool) (H : Heap) (locs : List Loc) (ls : Array Slot), lv_has ls 5 [(3, .int v3), (0, .ref (ad 5))] → va_P D vwCl (wB ad cI cB S1) H → va_S (AX 10 ad s.heap.size) s.heap H locs → K2 b1 = some (ro, So) → W p l e rmX1_decimalPlus s m ([.ref (ad 5), .int x1, .int x2] : List Value).toArray below meth c H locs 0 0 (MQ below (uQ D (wB ad cI cB) (some (.int ro), So) (AX 10 ad s.heap.size)) ([.ref (ad 5), .int x1, .int x2] : List Value).toArray s 0 0 (AX 10 ad s.heap.size)) (F0 m 50 ls [.int (zI b1)])) ?_ (fun K2 J2 hs => ?_)
    · intro b1 H locs ls hl hP hS hs
      refine lv_istore (lv' := [(4, .int (zI b1)), (3, .int v3), (0, .ref (ad 5))]) hx hb dX1_decimalPlus_50 hl (by decide) rfl (fun ls hl => ?_)
      refine lv_aload_n hx hb dX1_decimalPlus_52 rfl (lv_at hl 2 rfl) ?_
      refine lv_iload hx hb dX1_decimalPlus_53 (lv_at hl 0 rfl) ?_
      refine jn_e hs (fun K3 => ∀ (v4 : Int32) (H : Heap) (locs : List Loc) (ls : Array Slot), lv_has ls 5 [(4, .int (zI b1))] → va_P D vwCl (wB ad cI cB S1) H → va_S (AX 10 ad s.heap.size) s.heap H locs → K3 v4 = some (ro, So) → W p l e rmX1_decimalPlus s m ([.ref (ad 5), .int x1, .int x2] : List Value).toArray below meth c H locs 0 0 (MQ below (uQ D (wB ad cI cB) (some (.int ro), So) (AX 10 ad s.heap.size)) ([.ref (ad 5), .int x1, .int x2] : List Value).toArray s 0 0 (AX 10 ad s.heap.size)) (F0 m 66 ls [.int v4, .ref (ad 5)])) ?_ (fun K3 J3 hs => ?_)
      · intro v4 H locs ls hl hP hS hs
        refine lv_iload hx hb dX1_decimalPlus_66 (lv_at hl 0 rfl) ?_
        obtain ⟨r2, S2, h4, hs⟩ := bd_e hs
        refine kX1_decimal C tM_X1_64 ⟨Nat.le_of_ble_eq_true rfl, Nat.le_of_ble_eq_true rfl⟩ ⟨Nat.le_of_ble_eq_true rfl, Nat.le_of_ble_eq_true rfl⟩ hK hP hS hl.1 (rest := []) (Nat.le_of_ble_eq_true rfl) dX1_decimalPlus_68 h4 (fun H locs hP hS => ?_)
        exact u_iret hx hb hr hlocks hP hS hs dX1_decimalPlus_71
      ·
        refine lv_if_eq (tgt := 65) hx hb dX1_decimalPlus_55 (by decide) (fun c1 => ?_) (fun c1 => ?_)
        · have hs := if_t c1 hs
          refine lv_iload_n hx hb dX1_decimalPlus_65 rfl (lv_at hl 1 rfl) ?_
          exact J3 v3 _ _ _ (lv_sub hl [0] rfl) hP hS hs
        · have hs := if_f c1 hs
          refine lv_iload_n hx hb dX1_decimalPlus_58 rfl (lv_at hl 1 rfl) ?_
          refine lv_bipush (v := 96) hx hb dX1_decimalPlus_59 (by decide) ?_
          refine lv_iadd hx hb dX1_decimalPlus_61 ?_
          refine lv_goto (tgt := 66) hx hb dX1_decimalPlus_62 (by decide) ?_
          exact J3 (v3 + 96) _ _ _ (lv_sub hl [0] rfl) hP hS hs
    ·
      refine lv_icmp_le (tgt := 49) hx hb dX1_decimalPlus_42 (by decide) (fun c2 => ?_) (fun c2 => ?_)
      · have hs := if_t c2 hs
        refine lv_iconst (v := 0) hx hb dX1_decimalPlus_49 (by decide) ?_
        exact J2 false _ _ _ (lv_sub hl [0, 1] rfl) hP hS hs
      · have hs := if_f c2 hs
        refine lv_iconst (v := 1) hx hb dX1_decimalPlus_45 (by decide) ?_
        refine lv_goto (tgt := 50) hx hb dX1_decimalPlus_46 (by decide) ?_
        exact J2 true _ _ _ (lv_sub hl [0, 1] rfl) hP hS hs
  ·
    refine lv_icmp_le (tgt := 24) hx hb dX1_decimalPlus_18 (by decide) (fun c3 => ?_) (fun c3 => ?_)
    · have hs := if_t c3 hs
      exact J1 v1 _ _ _ (lv_sub hl [0, 1, 2, 3] rfl) hP hS hs
    · have hs := if_f c3 hs
      obtain ⟨v5, h5, hs⟩ := lt_e hs
      refine lv_iinc (v := v5) (lv' := [(3, .int v5), (0, .ref (ad 5)), (1, .int x1), (2, .int x2)]) hx hb dX1_decimalPlus_21 hl (k := 0) rfl (by rw [h5]; rfl) (by decide) rfl (fun ls hl => ?_)
      exact J1 v5 _ _ _ (lv_sub hl [0, 1, 2, 3] rfl) hP hS hs
theorem kX1_decimalPlus {p : Program} {l : Launch} {e : Env} {R : Room} {s : State} {m : MethodId} {args : Array Value} {below : List Frame} {meth : Method} {c : Code} {H : Heap} {locs : List Loc} {cells slots : Nat} {Q : State → Prop} {cc : ByteArray} {pc nL : Nat} {ls : Array Slot} {rest : List Value} {D : va_G} {ad : Nat → Nat} {cI cB : ClassId} {en : Nat → Nat} {S : St} {own : String} {index : Nat} {x1 : Int32} {x2 : Int32} {ro : Int32} {So : St} (C : CallFix p m c cc nL s args wG own) (hlk : Cond.methodLink own index yX1_decimalPlus ∈ wG) (hR : rmX1_decimalPlus.frames + 1 ≤ R.frames ∧ 8 + (5 + 11) + rmX1_decimalPlus.locals ≤ R.locals) (hc : cells ≤ R.cells ∧ slots ≤ R.slots) (hK : KB D ad cI cB en s) (hP : va_P D vwCl (wB ad cI cB S) H) (hS : va_S (AX 10 ad s.heap.size) s.heap H locs) (hls : ls.size = nL) (hrest : (rest.map fun v => v.category).sum ≤ 8) (hd : decode cc pc = .ok (.invokevirtual index, 3)) (hs : fX1_decimalPlus x1 x2 S = some (ro, So)) (k : ∀ (H : Heap) (locs : List Loc), va_P D vwCl (wB ad cI cB So) H → va_S (AX 10 ad s.heap.size) s.heap H locs → W p l e R s m args below meth c H locs cells slots Q (F0 m (pc + 3) ls (.int ro :: rest))) : W p l e R s m args below meth c H locs cells slots Q (F0 m pc ls (.int x2 :: .int x1 :: .ref (ad 5) :: rest)) :=
  u_callV (n := 2) (mX1_decimalPlus l D ad cI cB en S x1 x2 ro So hs) C uK_B (wg_V hlk tI_X1_decimalPlus tS_X1_decimalPlus tN_X1 tK_X1_decimalPlus) rfl rfl rfl (by decide +kernel) hR rfl (va_recv hK.1 hP (ci := 1) (q0 := 5) rfl rfl) hK hP hS hls hrest hd hc rfl k
def fX1_comingIn (x0 : Int32) (z1 : Bool) (z2 : Bool) (z3 : Bool) (S : St) : Option (Bool × St) :=
    (if x0 = 0 then (some (z3, S))
    else (if x0 = 1 then (some (false, S))
    else (if x0 = 2 then (some (z2, S))
    else (some (z1, S)))))
abbrev rmX1_comingIn : Room := { frames := 0, cells := 0, slots := 0, locals := 0 }
set_option maxRecDepth 100000 in
set_option maxHeartbeats 4000000 in
theorem mX1_comingIn (l : Launch) (D : va_G) (ad : Nat → Nat) (cI cB : ClassId) (en : Nat → Nat) (S : St) (x0 : Int32) (z1 : Bool) (z2 : Bool) (z3 : Bool) (ro : Bool) (So : St) (hs : fX1_comingIn x0 z1 z2 z3 S = some (ro, So)) : uM l yX1_comingIn (wg yX1_comingIn cX1_comingIn 4 (some .boolean)) rmX1_comingIn (KB D ad cI cB en) D (wB ad cI cB) (AX 10 ad) [.int x0, .int (zI z1), .int (zI z2), .int (zI z3)] S (some (.int (zI ro)), So) := by
  refine uM_start (by decide) rfl ?_
  intro p e s m below meth c hx hb hr hlocks hml hown hts hK hP
  have hT : ∀ w ∈ wG, w.before _ s = true := fun w h => hts w (List.mem_cons_of_mem _ h)
  have hS : va_S (AX 10 ad s.heap.size) s.heap s.heap [] := va_S.rf
  have hown : s.vm.findClass RX1 = some m.cls := hown
  have C : CallFix p m c cX1_comingIn 4 s _ wG RX1 := ⟨hx, hb, hml, hown, hT⟩
  have hl := lv_entry ([.int x0, .int (zI z1), .int (zI z2), .int (zI z3)]) (n := 4) (Nat.le_of_ble_eq_true rfl)
  rw [lg_entry_eq]
  generalize (lg_sl ([.int x0, .int (zI z1), .int (zI z2), .int (zI z3)]) ++ List.replicate (4 - (lg_sl ([.int x0, .int (zI z1), .int (zI z2), .int (zI z3)])).length) Slot.unset).toArray = ls at hl ⊢
  have hl : lv_has ls 4 [(0, .int x0), (1, .int (zI z1)), (2, .int (zI z2)), (3, .int (zI z3))] := hl
  unfold fX1_comingIn at hs
  refine lv_iload_n hx hb dX1_comingIn_0 rfl (lv_at hl 0 rfl) ?_
  by_cases c1 : x0 = 0
  · have hs := if_t c1 hs
    refine u_table (k := 0) (a := 0) (off := 27) (tgt := 28) hx hb dX1_comingIn_1 c1 (by decide) (by decide) (by decide) (by decide) (by decide) ?_
    refine lv_iload_n hx hb dX1_comingIn_28 rfl (lv_at hl 3 rfl) ?_
    exact u_zret (v := z3) hx hb hr hlocks hP hS hs dX1_comingIn_29
  have hs := if_f c1 hs
  by_cases c2 : x0 = 1
  · have hs := if_t c2 hs
    refine u_table (k := 1) (a := 1) (off := 29) (tgt := 30) hx hb dX1_comingIn_1 c2 (by decide) (by decide) (by decide) (by decide) (by decide) ?_
    refine lv_iconst (v := 0) hx hb dX1_comingIn_30 (by decide) ?_
    exact u_zret (v := false) hx hb hr hlocks hP hS hs dX1_comingIn_31
  have hs := if_f c2 hs
  by_cases c3 : x0 = 2
  · have hs := if_t c3 hs
    refine u_table (k := 2) (a := 2) (off := 31) (tgt := 32) hx hb dX1_comingIn_1 c3 (by decide) (by decide) (by decide) (by decide) (by decide) ?_
    refine lv_iload_n hx hb dX1_comingIn_32 rfl (lv_at hl 2 rfl) ?_
    exact u_zret (v := z2) hx hb hr hlocks hP hS hs dX1_comingIn_33
  have hs := if_f c3 hs
  refine u_tableD (tgt := 34) hx hb dX1_comingIn_1 (fun hlo hhi => ?_) (by decide) ?_
  · have hz : (x0).toInt = 0 ∨ (x0).toInt = 1 ∨ (x0).toInt = 2 := by omega
    rcases hz with hz | hz | hz
    · exact absurd hz (lv_neT c1 (by decide))
    · exact absurd hz (lv_neT c2 (by decide))
    · exact absurd hz (lv_neT c3 (by decide))
  refine lv_iload_n hx hb dX1_comingIn_34 rfl (lv_at hl 1 rfl) ?_
  exact u_zret (v := z1) hx hb hr hlocks hP hS hs dX1_comingIn_35
theorem kX1_comingIn {p : Program} {l : Launch} {e : Env} {R : Room} {s : State} {m : MethodId} {args : Array Value} {below : List Frame} {meth : Method} {c : Code} {H : Heap} {locs : List Loc} {cells slots : Nat} {Q : State → Prop} {cc : ByteArray} {pc nL : Nat} {ls : Array Slot} {rest : List Value} {D : va_G} {ad : Nat → Nat} {cI cB : ClassId} {en : Nat → Nat} {S : St} {own : String} {index : Nat} {x0 : Int32} {z1 : Bool} {z2 : Bool} {z3 : Bool} {ro : Bool} {So : St} (C : CallFix p m c cc nL s args wG own) (hlk : Cond.methodLink own index yX1_comingIn ∈ wG) (hR : rmX1_comingIn.frames + 1 ≤ R.frames ∧ 8 + (4 + 11) + rmX1_comingIn.locals ≤ R.locals) (hc : cells ≤ R.cells ∧ slots ≤ R.slots) (hK : KB D ad cI cB en s) (hP : va_P D vwCl (wB ad cI cB S) H) (hS : va_S (AX 10 ad s.heap.size) s.heap H locs) (hls : ls.size = nL) (hrest : (rest.map fun v => v.category).sum ≤ 8) (hd : decode cc pc = .ok (.invokestatic index, 3)) (hs : fX1_comingIn x0 z1 z2 z3 S = some (ro, So)) (k : ∀ (H : Heap) (locs : List Loc), va_P D vwCl (wB ad cI cB So) H → va_S (AX 10 ad s.heap.size) s.heap H locs → W p l e R s m args below meth c H locs cells slots Q (F0 m (pc + 3) ls (.int (zI ro) :: rest))) : W p l e R s m args below meth c H locs cells slots Q (F0 m pc ls (.int (zI z3) :: .int (zI z2) :: .int (zI z1) :: .int x0 :: rest)) :=
  u_callS (n := 4) (mX1_comingIn l D ad cI cB en S x0 z1 z2 z3 ro So hs) C uK_B (wg_S hlk tI_X1_comingIn tN_X1 tK_X1_comingIn) rfl rfl rfl (by decide +kernel) hR rfl hK hP hS hls hrest hd hc rfl k
def fX1_shifted_b1 (t1 : Nat) (x3 : Int32) (x4 : Int32) (z5 : Bool) (k1 : Int32 → Bool → Bool → Bool → Int32 → St → Option (Int32 × St)) (v2 : Int32) (b3 : Bool) (b4 : Bool) (b5 : Bool) (v3 : Int32) (S2 : St) : Option (Int32 × St) :=
    (if x3 ≤ v2 then (jn (fun (b6 : Bool) => (bv (fX1_note t1 v3 b6 b4 S2) fun S3 => (bv (fX4_mark 16 b5 S3) fun S4 => (some (v3, S4))))) fun K2 =>
    (if x4 = 0 then (if (zI z5) = 0 then (K2 false)
    else (if (zI b3) = 0 then (K2 false)
    else (K2 true)))
    else (K2 false)))
    else (jn (fun (v4 : Int32) => (jn (fun (b7 : Bool) => (jn (fun (b8 : Bool) => (bd (fX1_comingIn x4 b7 b5 b8 S2) fun b9 S5 => (jn (fun (v5 : Int32) => (jn (fun (b10 : Bool) => (lt ((b3 || b10) : Bool) fun b11 => (jn (fun (b12 : Bool) => (lt (v2 + 1) fun v6 => (k1 v6 b11 b7 b12 v5 S5))) fun K8 =>
    (if x4 = 3 then (K8 b5)
    else (K8 b7))))) fun K7 =>
    (if ((v3 ^^^ v5) &&& (szT t1)) = 0 then (K7 false)
    else (K7 true)))) fun K6 =>
    (if (zI z5) = 0 then (jn (fun (v7 : Int32) => (K6 ((ush v3 1) ||| v7))) fun K9 =>
    (if (zI b9) = 0 then (K9 0)
    else (K9 (szT t1))))
    else (jn (fun (b13 : Bool) => (K6 (((v3 <<< ((1 : Int32) &&& 31)) &&& (szM t1)) ||| (zI b13)))) fun K10 =>
    (if (zI b9) = 0 then (K10 false)
    else (K10 true))))))) fun K5 =>
    (if (zI z5) = 0 then (if (v3 &&& (szT t1)) = 0 then (K5 false)
    else (K5 true))
    else (K5 false)))) fun K4 =>
    (if (v3 &&& v4) = 0 then (K4 false)
    else (K4 true)))) fun K3 =>
    (if (zI z5) = 0 then (K3 1)
    else (K3 (szT t1)))))
def fX1_shifted_l1 (t1 : Nat) (x3 : Int32) (x4 : Int32) (z5 : Bool) : Nat → Int32 → Bool → Bool → Bool → Int32 → St → Option (Int32 × St)
  | 0 => fun _ _ _ _ _ _ => none
  | n + 1 => fX1_shifted_b1 t1 x3 x4 z5 (fX1_shifted_l1 t1 x3 x4 z5 n)
def fX1_shifted (t1 : Nat) (x2 : Int32) (x3 : Int32) (x4 : Int32) (z5 : Bool) (S : St) : Option (Int32 × St) :=
    (gd (t1 < 3) (lt ((x2 &&& (szM t1)) : Int32) fun v1 => (bd (fX4_has 16 S) fun b1 S1 => (jn (fun (b2 : Bool) => (fX1_shifted_l1 t1 x3 x4 z5 64 0 false b2 b1 v1 S1)) fun K1 =>
    (if x4 = 2 then (if (zI b1) = 0 then (K1 false)
    else (K1 true))
    else (K1 false))))))
abbrev rmX1_shifted : Room := { frames := 1, cells := 0, slots := 0, locals := 25 }
set_option maxRecDepth 100000 in
set_option maxHeartbeats 4000000 in
theorem mX1_shifted (l : Launch) (D : va_G) (ad : Nat → Nat) (cI cB : ClassId) (en : Nat → Nat) (S : St) (t1 : Nat) (x2 : Int32) (x3 : Int32) (x4 : Int32) (z5 : Bool) (ro : Int32) (So : St) (hs : fX1_shifted t1 x2 x3 x4 z5 S = some (ro, So)) : uM l yX1_shifted (wg yX1_shifted cX1_shifted 13 (some .int)) rmX1_shifted (KB D ad cI cB en) D (wB ad cI cB) (AX 10 ad) [.ref (ad 5), .ref (en t1), .int x2, .int x3, .int x4, .int (zI z5)] S (some (.int ro), So) := by
  refine uM_start (by decide) rfl ?_
  intro p e s m below meth c hx hb hr hlocks hml hown hts hK hP
  have hT : ∀ w ∈ wG, w.before _ s = true := fun w h => hts w (List.mem_cons_of_mem _ h)
  have hS : va_S (AX 10 ad s.heap.size) s.heap s.heap [] := va_S.rf
  have hown : s.vm.findClass RX1 = some m.cls := hown
  have C : CallFix p m c cX1_shifted 13 s _ wG RX1 := ⟨hx, hb, hml, hown, hT⟩
  have hl := lv_entry ([.ref (ad 5), .ref (en t1), .int x2, .int x3, .int x4, .int (zI z5)]) (n := 13) (Nat.le_of_ble_eq_true rfl)
  rw [lg_entry_eq]
  generalize (lg_sl ([.ref (ad 5), .ref (en t1), .int x2, .int x3, .int x4, .int (zI z5)]) ++ List.replicate (13 - (lg_sl ([.ref (ad 5), .ref (en t1), .int x2, .int x3, .int x4, .int (zI z5)])).length) Slot.unset).toArray = ls at hl ⊢
  have hl : lv_has ls 13 [(0, .ref (ad 5)), (1, .ref (en t1)), (2, .int x2), (3, .int x3), (4, .int x4), (5, .int (zI z5))] := hl
  unfold fX1_shifted at hs
  obtain ⟨ht1, hs⟩ := gd_e hs
  refine lv_iload_n hx hb dX1_shifted_0 rfl (lv_at hl 2 rfl) ?_
  refine lv_aload_n hx hb dX1_shifted_1 rfl (lv_at hl 1 rfl) ?_
  refine gE_mask hx hb hown hK hS ht1 (hT _ tF_X1_21) dX1_shifted_2 ?_
  refine lv_iand hx hb dX1_shifted_5 ?_
  obtain ⟨v1, h1, hs⟩ := lt_e hs
  refine u_top h1 ?_
  refine lv_istore (lv' := [(6, .int v1), (0, .ref (ad 5)), (1, .ref (en t1)), (2, .int x2), (3, .int x3), (4, .int x4), (5, .int (zI z5))]) hx hb dX1_shifted_6 hl (by decide) rfl (fun ls hl => ?_)
  refine lv_aload_n hx hb dX1_shifted_8 rfl (lv_at hl 1 rfl) ?_
  refine gB_X1_registers hx hb hT hown hK hP (hT _ tF_X1_9) dX1_shifted_9 ?_
  refine lv_bipush (v := 16) hx hb dX1_shifted_12 (by decide) ?_
  obtain ⟨b1, S1, h2, hs⟩ := bd_e hs
  refine kX4_has C tM_X1_37 ⟨Nat.le_of_ble_eq_true rfl, Nat.le_of_ble_eq_true rfl⟩ ⟨Nat.le_of_ble_eq_true rfl, Nat.le_of_ble_eq_true rfl⟩ hK hP hS hl.1 (rest := []) (Nat.le_of_ble_eq_true rfl) dX1_shifted_14 h2 (fun H locs hP hS => ?_)
  refine lv_istore (lv' := [(7, .int (zI b1)), (6, .int v1), (0, .ref (ad 5)), (1, .ref (en t1)), (2, .int x2), (3, .int x3), (4, .int x4), (5, .int (zI z5))]) hx hb dX1_shifted_17 hl (by decide) rfl (fun ls hl => ?_)
  refine lv_iload hx hb dX1_shifted_19 (lv_at hl 6 rfl) ?_
  refine lv_iconst (v := 2) hx hb dX1_shifted_21 (by decide) ?_
  refine jn_e hs (fun K1 => ∀ (b2 : Bool) (H : Heap) (locs : List Loc) (ls : Array Slot), lv_has ls 13 [(7, .int (zI b1)), (6, .int v1), (0, .ref (ad 5)), (1, .ref (en t1)), (3, .int x3), (4, .int x4), (5, .int (zI z5))] → va_P D vwCl (wB ad cI cB S1) H → va_S (AX 10 ad s.heap.size) s.heap H locs → K1 b2 = some (ro, So) → W p l e rmX1_shifted s m ([.ref (ad 5), .ref (en t1), .int x2, .int x3, .int x4, .int (zI z5)] : List Value).toArray below meth c H locs 0 0 (MQ below (uQ D (wB ad cI cB) (some (.int ro), So) (AX 10 ad s.heap.size)) ([.ref (ad 5), .ref (en t1), .int x2, .int x3, .int x4, .int (zI z5)] : List Value).toArray s 0 0 (AX 10 ad s.heap.size)) (F0 m 35 ls [.int (zI b2)])) ?_ (fun K1 J1 hs => ?_)
  · intro b2 H locs ls hl hP hS hs
    refine lv_istore (lv' := [(8, .int (zI b2)), (7, .int (zI b1)), (6, .int v1), (0, .ref (ad 5)), (1, .ref (en t1)), (3, .int x3), (4, .int x4), (5, .int (zI z5))]) hx hb dX1_shifted_35 hl (by decide) rfl (fun ls hl => ?_)
    refine lv_iconst (v := 0) hx hb dX1_shifted_37 (by decide) ?_
    refine lv_istore (lv' := [(9, .int 0), (8, .int (zI b2)), (7, .int (zI b1)), (6, .int v1), (0, .ref (ad 5)), (1, .ref (en t1)), (3, .int x3), (4, .int x4), (5, .int (zI z5))]) hx hb dX1_shifted_38 hl (by decide) rfl (fun ls hl => ?_)
    refine lv_iconst (v := 0) hx hb dX1_shifted_40 (by decide) ?_
    refine lv_istore (lv' := [(10, .int 0), (9, .int 0), (8, .int (zI b2)), (7, .int (zI b1)), (6, .int v1), (0, .ref (ad 5)), (1, .ref (en t1)), (3, .int x3), (4, .int x4), (5, .int (zI z5))]) hx hb dX1_shifted_41 hl (by decide) rfl (fun ls hl => ?_)
    have L1 : ∀ (n : Nat) (v2 : Int32) (b3 : Bool) (b4 : Bool) (b5 : Bool) (v3 : Int32) (S2 : St) (H : Heap) (locs : List Loc) (ls : Array Slot), lv_has ls 13 [(10, .int v2), (9, .int (zI b3)), (8, .int (zI b4)), (7, .int (zI b5)), (6, .int v3), (0, .ref (ad 5)), (1, .ref (en t1)), (3, .int x3), (4, .int x4), (5, .int (zI z5))] → va_P D vwCl (wB ad cI cB S2) H → va_S (AX 10 ad s.heap.size) s.heap H locs → fX1_shifted_l1 t1 x3 x4 z5 n v2 b3 b4 b5 v3 S2 = some (ro, So) → W p l e rmX1_shifted s m ([.ref (ad 5), .ref (en t1), .int x2, .int x3, .int x4, .int (zI z5)] : List Value).toArray below meth c H locs 0 0 (MQ below (uQ D (wB ad cI cB) (some (.int ro), So) (AX 10 ad s.heap.size)) ([.ref (ad 5), .ref (en t1), .int x2, .int x3, .int x4, .int (zI z5)] : List Value).toArray s 0 0 (AX 10 ad s.heap.size)) (F0 m 43 ls []) := by
      intro n
      induction n with
      | zero => intro v2 b3 b4 b5 v3 S2 H locs ls hl hP hS hs; cases hs
      | succ n ih =>
        intro v2 b3 b4 b5 v3 S2 H locs ls hl hP hS hs
        have hs : fX1_shifted_b1 t1 x3 x4 z5 (fX1_shifted_l1 t1 x3 x4 z5 n) v2 b3 b4 b5 v3 S2 = some (ro, So) := hs
        unfold fX1_shifted_b1 at hs
        refine lv_iload hx hb dX1_shifted_43 (lv_at hl 0 rfl) ?_
        refine lv_iload_n hx hb dX1_shifted_45 rfl (lv_at hl 7 rfl) ?_
        refine lv_icmp_ge (tgt := 202) hx hb dX1_shifted_46 (by decide) (fun c1 => ?_) (fun c1 => ?_)
        · have hs := if_t c1 hs
          refine lv_aload_n hx hb dX1_shifted_202 rfl (lv_at hl 5 rfl) ?_
          refine lv_aload_n hx hb dX1_shifted_203 rfl (lv_at hl 6 rfl) ?_
          refine lv_iload hx hb dX1_shifted_204 (lv_at hl 4 rfl) ?_
          refine lv_iload hx hb dX1_shifted_206 (lv_at hl 8 rfl) ?_
          refine jn_e hs (fun K2 => ∀ (b6 : Bool) (H : Heap) (locs : List Loc) (ls : Array Slot), lv_has ls 13 [(8, .int (zI b4)), (7, .int (zI b5)), (6, .int v3), (0, .ref (ad 5))] → va_P D vwCl (wB ad cI cB S2) H → va_S (AX 10 ad s.heap.size) s.heap H locs → K2 b6 = some (ro, So) → W p l e rmX1_shifted s m ([.ref (ad 5), .ref (en t1), .int x2, .int x3, .int x4, .int (zI z5)] : List Value).toArray below meth c H locs 0 0 (MQ below (uQ D (wB ad cI cB) (some (.int ro), So) (AX 10 ad s.heap.size)) ([.ref (ad 5), .ref (en t1), .int x2, .int x3, .int x4, .int (zI z5)] : List Value).toArray s 0 0 (AX 10 ad s.heap.size)) (F0 m 226 ls [.int (zI b6), .int v3, .ref (en t1), .ref (ad 5)])) ?_ (fun K2 J2 hs => ?_)
          · intro b6 H locs ls hl hP hS hs
            refine lv_iload hx hb dX1_shifted_226 (lv_at hl 0 rfl) ?_
            obtain ⟨S3, h3, hs⟩ := bv_e hs
            refine kX1_note C tM_X1_29 ⟨Nat.le_of_ble_eq_true rfl, Nat.le_of_ble_eq_true rfl⟩ ⟨Nat.le_of_ble_eq_true rfl, Nat.le_of_ble_eq_true rfl⟩ hK hP hS hl.1 (rest := []) (Nat.le_of_ble_eq_true rfl) dX1_shifted_228 h3 (fun H locs hP hS => ?_)
            refine lv_aload_n hx hb dX1_shifted_231 rfl (lv_at hl 3 rfl) ?_
            refine gB_X1_registers hx hb hT hown hK hP (hT _ tF_X1_9) dX1_shifted_232 ?_
            refine lv_bipush (v := 16) hx hb dX1_shifted_235 (by decide) ?_
            refine lv_iload hx hb dX1_shifted_237 (lv_at hl 1 rfl) ?_
            obtain ⟨S4, h4, hs⟩ := bv_e hs
            refine kX4_mark C tM_X1_41 ⟨Nat.le_of_ble_eq_true rfl, Nat.le_of_ble_eq_true rfl⟩ ⟨Nat.le_of_ble_eq_true rfl, Nat.le_of_ble_eq_true rfl⟩ hK hP hS hl.1 (rest := []) (Nat.le_of_ble_eq_true rfl) dX1_shifted_239 h4 (fun H locs hP hS => ?_)
            refine lv_iload hx hb dX1_shifted_242 (lv_at hl 2 rfl) ?_
            exact u_iret hx hb hr hlocks hP hS hs dX1_shifted_244
          ·
            refine lv_if_ne (tgt := 225) hx hb dX1_shifted_208 (by decide) (fun c2 => ?_) (fun c2 => ?_)
            · have hs := if_f c2 hs
              refine lv_iconst (v := 0) hx hb dX1_shifted_225 (by decide) ?_
              exact J2 false _ _ _ (lv_sub hl [2, 3, 4, 5] rfl) hP hS hs
            · have hs := if_t c2 hs
              refine lv_iload hx hb dX1_shifted_211 (lv_at hl 9 rfl) ?_
              refine lv_if_eq (tgt := 225) hx hb dX1_shifted_213 (by decide) (fun c3 => ?_) (fun c3 => ?_)
              · have hs := if_t c3 hs
                refine lv_iconst (v := 0) hx hb dX1_shifted_225 (by decide) ?_
                exact J2 false _ _ _ (lv_sub hl [2, 3, 4, 5] rfl) hP hS hs
              · have hs := if_f c3 hs
                refine lv_iload hx hb dX1_shifted_216 (lv_at hl 1 rfl) ?_
                refine lv_if_eq (tgt := 225) hx hb dX1_shifted_218 (by decide) (fun c4 => ?_) (fun c4 => ?_)
                · have hs := if_t c4 hs
                  refine lv_iconst (v := 0) hx hb dX1_shifted_225 (by decide) ?_
                  exact J2 false _ _ _ (lv_sub hl [2, 3, 4, 5] rfl) hP hS hs
                · have hs := if_f c4 hs
                  refine lv_iconst (v := 1) hx hb dX1_shifted_221 (by decide) ?_
                  refine lv_goto (tgt := 226) hx hb dX1_shifted_222 (by decide) ?_
                  exact J2 true _ _ _ (lv_sub hl [2, 3, 4, 5] rfl) hP hS hs
        · have hs := if_f c1 hs
          refine lv_iload hx hb dX1_shifted_49 (lv_at hl 4 rfl) ?_
          refine lv_iload hx hb dX1_shifted_51 (lv_at hl 9 rfl) ?_
          refine jn_e hs (fun K3 => ∀ (v4 : Int32) (H : Heap) (locs : List Loc) (ls : Array Slot), lv_has ls 13 [(10, .int v2), (9, .int (zI b3)), (7, .int (zI b5)), (6, .int v3), (0, .ref (ad 5)), (1, .ref (en t1)), (3, .int x3), (4, .int x4), (5, .int (zI z5))] → va_P D vwCl (wB ad cI cB S2) H → va_S (AX 10 ad s.heap.size) s.heap H locs → K3 v4 = some (ro, So) → W p l e rmX1_shifted s m ([.ref (ad 5), .ref (en t1), .int x2, .int x3, .int x4, .int (zI z5)] : List Value).toArray below meth c H locs 0 0 (MQ below (uQ D (wB ad cI cB) (some (.int ro), So) (AX 10 ad s.heap.size)) ([.ref (ad 5), .ref (en t1), .int x2, .int x3, .int x4, .int (zI z5)] : List Value).toArray s 0 0 (AX 10 ad s.heap.size)) (F0 m 64 ls [.int v4, .int v3])) ?_ (fun K3 J3 hs => ?_)
          · intro v4 H locs ls hl hP hS hs
            refine lv_iand hx hb dX1_shifted_64 ?_
            refine jn_e hs (fun K4 => ∀ (b7 : Bool) (H : Heap) (locs : List Loc) (ls : Array Slot), lv_has ls 13 [(10, .int v2), (9, .int (zI b3)), (7, .int (zI b5)), (6, .int v3), (0, .ref (ad 5)), (1, .ref (en t1)), (3, .int x3), (4, .int x4), (5, .int (zI z5))] → va_P D vwCl (wB ad cI cB S2) H → va_S (AX 10 ad s.heap.size) s.heap H locs → K4 b7 = some (ro, So) → W p l e rmX1_shifted s m ([.ref (ad 5), .ref (en t1), .int x2, .int x3, .int x4, .int (zI z5)] : List Value).toArray below meth c H locs 0 0 (MQ below (uQ D (wB ad cI cB) (some (.int ro), So) (AX 10 ad s.heap.size)) ([.ref (ad 5), .ref (en t1), .int x2, .int x3, .int x4, .int (zI z5)] : List Value).toArray s 0 0 (AX 10 ad s.heap.size)) (F0 m 73 ls [.int (zI b7)])) ?_ (fun K4 J4 hs => ?_)
            · intro b7 H locs ls hl hP hS hs
              refine lv_istore (lv' := [(8, .int (zI b7)), (10, .int v2), (9, .int (zI b3)), (7, .int (zI b5)), (6, .int v3), (0, .ref (ad 5)), (1, .ref (en t1)), (3, .int x3), (4, .int x4), (5, .int (zI z5))]) hx hb dX1_shifted_73 hl (by decide) rfl (fun ls hl => ?_)
              refine lv_iload hx hb dX1_shifted_75 (lv_at hl 8 rfl) ?_
              refine lv_iload hx hb dX1_shifted_77 (lv_at hl 0 rfl) ?_
              refine lv_iload hx hb dX1_shifted_79 (lv_at hl 3 rfl) ?_
              refine lv_iload hx hb dX1_shifted_81 (lv_at hl 9 rfl) ?_
              refine jn_e hs (fun K5 => ∀ (b8 : Bool) (H : Heap) (locs : List Loc) (ls : Array Slot), lv_has ls 13 [(8, .int (zI b7)), (10, .int v2), (9, .int (zI b3)), (7, .int (zI b5)), (6, .int v3), (0, .ref (ad 5)), (1, .ref (en t1)), (3, .int x3), (4, .int x4), (5, .int (zI z5))] → va_P D vwCl (wB ad cI cB S2) H → va_S (AX 10 ad s.heap.size) s.heap H locs → K5 b8 = some (ro, So) → W p l e rmX1_shifted s m ([.ref (ad 5), .ref (en t1), .int x2, .int x3, .int x4, .int (zI z5)] : List Value).toArray below meth c H locs 0 0 (MQ below (uQ D (wB ad cI cB) (some (.int ro), So) (AX 10 ad s.heap.size)) ([.ref (ad 5), .ref (en t1), .int x2, .int x3, .int x4, .int (zI z5)] : List Value).toArray s 0 0 (AX 10 ad s.heap.size)) (F0 m 101 ls [.int (zI b8), .int (zI b5), .int (zI b7), .int x4])) ?_ (fun K5 J5 hs => ?_)
              · intro b8 H locs ls hl hP hS hs
                obtain ⟨b9, S5, h5, hs⟩ := bd_e hs
                refine kX1_comingIn C tM_X1_68 ⟨Nat.le_of_ble_eq_true rfl, Nat.le_of_ble_eq_true rfl⟩ ⟨Nat.le_of_ble_eq_true rfl, Nat.le_of_ble_eq_true rfl⟩ hK hP hS hl.1 (rest := []) (Nat.le_of_ble_eq_true rfl) dX1_shifted_101 h5 (fun H locs hP hS => ?_)
                refine lv_istore (lv' := [(11, .int (zI b9)), (8, .int (zI b7)), (10, .int v2), (9, .int (zI b3)), (7, .int (zI b5)), (6, .int v3), (0, .ref (ad 5)), (1, .ref (en t1)), (3, .int x3), (4, .int x4), (5, .int (zI z5))]) hx hb dX1_shifted_104 hl (by decide) rfl (fun ls hl => ?_)
                refine lv_iload hx hb dX1_shifted_106 (lv_at hl 5 rfl) ?_
                refine lv_istore (lv' := [(12, .int v3), (11, .int (zI b9)), (8, .int (zI b7)), (10, .int v2), (9, .int (zI b3)), (7, .int (zI b5)), (6, .int v3), (0, .ref (ad 5)), (1, .ref (en t1)), (3, .int x3), (4, .int x4), (5, .int (zI z5))]) hx hb dX1_shifted_108 hl (by decide) rfl (fun ls hl => ?_)
                refine lv_iload hx hb dX1_shifted_110 (lv_at hl 11 rfl) ?_
                refine jn_e hs (fun K6 => ∀ (v5 : Int32) (H : Heap) (locs : List Loc) (ls : Array Slot), lv_has ls 13 [(12, .int v3), (8, .int (zI b7)), (10, .int v2), (9, .int (zI b3)), (7, .int (zI b5)), (0, .ref (ad 5)), (1, .ref (en t1)), (3, .int x3), (4, .int x4), (5, .int (zI z5))] → va_P D vwCl (wB ad cI cB S5) H → va_S (AX 10 ad s.heap.size) s.heap H locs → K6 v5 = some (ro, So) → W p l e rmX1_shifted s m ([.ref (ad 5), .ref (en t1), .int x2, .int x3, .int x4, .int (zI z5)] : List Value).toArray below meth c H locs 0 0 (MQ below (uQ D (wB ad cI cB) (some (.int ro), So) (AX 10 ad s.heap.size)) ([.ref (ad 5), .ref (en t1), .int x2, .int x3, .int x4, .int (zI z5)] : List Value).toArray s 0 0 (AX 10 ad s.heap.size)) (F0 m 156 ls [.int v5])) ?_ (fun K6 J6 hs => ?_)
                · intro v5 H locs ls hl hP hS hs
                  refine lv_istore (lv' := [(6, .int v5), (12, .int v3), (8, .int (zI b7)), (10, .int v2), (9, .int (zI b3)), (7, .int (zI b5)), (0, .ref (ad 5)), (1, .ref (en t1)), (3, .int x3), (4, .int x4), (5, .int (zI z5))]) hx hb dX1_shifted_156 hl (by decide) rfl (fun ls hl => ?_)
                  refine lv_iload hx hb dX1_shifted_158 (lv_at hl 4 rfl) ?_
                  refine lv_iload hx hb dX1_shifted_160 (lv_at hl 1 rfl) ?_
                  refine lv_iload hx hb dX1_shifted_162 (lv_at hl 0 rfl) ?_
                  refine lv_ixor hx hb dX1_shifted_164 ?_
                  refine lv_aload_n hx hb dX1_shifted_165 rfl (lv_at hl 7 rfl) ?_
                  refine gE_top hx hb hown hK hS ht1 (hT _ tF_X1_15) dX1_shifted_166 ?_
                  refine lv_iand hx hb dX1_shifted_169 ?_
                  refine jn_e hs (fun K7 => ∀ (b10 : Bool) (H : Heap) (locs : List Loc) (ls : Array Slot), lv_has ls 13 [(6, .int v5), (8, .int (zI b7)), (10, .int v2), (7, .int (zI b5)), (0, .ref (ad 5)), (1, .ref (en t1)), (3, .int x3), (4, .int x4), (5, .int (zI z5))] → va_P D vwCl (wB ad cI cB S5) H → va_S (AX 10 ad s.heap.size) s.heap H locs → K7 b10 = some (ro, So) → W p l e rmX1_shifted s m ([.ref (ad 5), .ref (en t1), .int x2, .int x3, .int x4, .int (zI z5)] : List Value).toArray below meth c H locs 0 0 (MQ below (uQ D (wB ad cI cB) (some (.int ro), So) (AX 10 ad s.heap.size)) ([.ref (ad 5), .ref (en t1), .int x2, .int x3, .int x4, .int (zI z5)] : List Value).toArray s 0 0 (AX 10 ad s.heap.size)) (F0 m 178 ls [.int (zI b10), .int (zI b3)])) ?_ (fun K7 J7 hs => ?_)
                  · intro b10 H locs ls hl hP hS hs
                    refine lv_ior hx hb dX1_shifted_178 ?_
                    refine u_st (st2 := [.int (zI (b3 || b10))]) (by rw [zI_or]) ?_
                    obtain ⟨b11, h6, hs⟩ := lt_e hs
                    refine u_topz h6 ?_
                    refine lv_istore (lv' := [(9, .int (zI b11)), (6, .int v5), (8, .int (zI b7)), (10, .int v2), (7, .int (zI b5)), (0, .ref (ad 5)), (1, .ref (en t1)), (3, .int x3), (4, .int x4), (5, .int (zI z5))]) hx hb dX1_shifted_179 hl (by decide) rfl (fun ls hl => ?_)
                    refine lv_iload hx hb dX1_shifted_181 (lv_at hl 8 rfl) ?_
                    refine lv_iconst (v := 3) hx hb dX1_shifted_183 (by decide) ?_
                    refine jn_e hs (fun K8 => ∀ (b12 : Bool) (H : Heap) (locs : List Loc) (ls : Array Slot), lv_has ls 13 [(9, .int (zI b11)), (6, .int v5), (8, .int (zI b7)), (10, .int v2), (0, .ref (ad 5)), (1, .ref (en t1)), (3, .int x3), (4, .int x4), (5, .int (zI z5))] → va_P D vwCl (wB ad cI cB S5) H → va_S (AX 10 ad s.heap.size) s.heap H locs → K8 b12 = some (ro, So) → W p l e rmX1_shifted s m ([.ref (ad 5), .ref (en t1), .int x2, .int x3, .int x4, .int (zI z5)] : List Value).toArray below meth c H locs 0 0 (MQ below (uQ D (wB ad cI cB) (some (.int ro), So) (AX 10 ad s.heap.size)) ([.ref (ad 5), .ref (en t1), .int x2, .int x3, .int x4, .int (zI z5)] : List Value).toArray s 0 0 (AX 10 ad s.heap.size)) (F0 m 194 ls [.int (zI b12)])) ?_ (fun K8 J8 hs => ?_)
                    · intro b12 H locs ls hl hP hS hs
                      refine lv_istore (lv' := [(7, .int (zI b12)), (9, .int (zI b11)), (6, .int v5), (8, .int (zI b7)), (10, .int v2), (0, .ref (ad 5)), (1, .ref (en t1)), (3, .int x3), (4, .int x4), (5, .int (zI z5))]) hx hb dX1_shifted_194 hl (by decide) rfl (fun ls hl => ?_)
                      obtain ⟨v6, h7, hs⟩ := lt_e hs
                      refine lv_iinc (v := v6) (lv' := [(10, .int v6), (7, .int (zI b12)), (9, .int (zI b11)), (6, .int v5), (8, .int (zI b7)), (0, .ref (ad 5)), (1, .ref (en t1)), (3, .int x3), (4, .int x4), (5, .int (zI z5))]) hx hb dX1_shifted_196 hl (k := 4) rfl (by rw [h7]; rfl) (by decide) rfl (fun ls hl => ?_)
                      refine lv_goto (tgt := 43) hx hb dX1_shifted_199 (by decide) ?_
                      exact ih v6 b11 b7 b12 v5 S5 _ _ _ (lv_sub hl [0, 2, 4, 1, 3, 5, 6, 7, 8, 9] rfl) hP hS hs
                    ·
                      refine lv_icmp_ne (tgt := 192) hx hb dX1_shifted_184 (by decide) (fun c5 => ?_) (fun c5 => ?_)
                      · have hs := if_f c5 hs
                        refine lv_iload hx hb dX1_shifted_192 (lv_at hl 2 rfl) ?_
                        exact J8 b7 _ _ _ (lv_sub hl [0, 1, 2, 3, 5, 6, 7, 8, 9] rfl) hP hS hs
                      · have hs := if_t c5 hs
                        refine lv_iload hx hb dX1_shifted_187 (lv_at hl 4 rfl) ?_
                        refine lv_goto (tgt := 194) hx hb dX1_shifted_189 (by decide) ?_
                        exact J8 b5 _ _ _ (lv_sub hl [0, 1, 2, 3, 5, 6, 7, 8, 9] rfl) hP hS hs
                  ·
                    refine lv_if_eq (tgt := 177) hx hb dX1_shifted_170 (by decide) (fun c6 => ?_) (fun c6 => ?_)
                    · have hs := if_t c6 hs
                      refine lv_iconst (v := 0) hx hb dX1_shifted_177 (by decide) ?_
                      exact J7 false _ _ _ (lv_sub hl [0, 2, 3, 5, 6, 7, 8, 9, 10] rfl) hP hS hs
                    · have hs := if_f c6 hs
                      refine lv_iconst (v := 1) hx hb dX1_shifted_173 (by decide) ?_
                      refine lv_goto (tgt := 178) hx hb dX1_shifted_174 (by decide) ?_
                      exact J7 true _ _ _ (lv_sub hl [0, 2, 3, 5, 6, 7, 8, 9, 10] rfl) hP hS hs
                ·
                  refine lv_if_eq (tgt := 138) hx hb dX1_shifted_112 (by decide) (fun c7 => ?_) (fun c7 => ?_)
                  · have hs := if_t c7 hs
                    refine lv_iload hx hb dX1_shifted_138 (lv_at hl 6 rfl) ?_
                    refine lv_iconst (v := 1) hx hb dX1_shifted_140 (by decide) ?_
                    refine lv_iushr (v := (ush v3 1)) hx hb dX1_shifted_141 rfl ?_
                    refine lv_iload hx hb dX1_shifted_142 (lv_at hl 1 rfl) ?_
                    refine jn_e hs (fun K9 => ∀ (v7 : Int32) (H : Heap) (locs : List Loc) (ls : Array Slot), lv_has ls 13 [(12, .int v3), (8, .int (zI b7)), (10, .int v2), (9, .int (zI b3)), (7, .int (zI b5)), (0, .ref (ad 5)), (1, .ref (en t1)), (3, .int x3), (4, .int x4), (5, .int (zI z5))] → va_P D vwCl (wB ad cI cB S5) H → va_S (AX 10 ad s.heap.size) s.heap H locs → K9 v7 = some (ro, So) → W p l e rmX1_shifted s m ([.ref (ad 5), .ref (en t1), .int x2, .int x3, .int x4, .int (zI z5)] : List Value).toArray below meth c H locs 0 0 (MQ below (uQ D (wB ad cI cB) (some (.int ro), So) (AX 10 ad s.heap.size)) ([.ref (ad 5), .ref (en t1), .int x2, .int x3, .int x4, .int (zI z5)] : List Value).toArray s 0 0 (AX 10 ad s.heap.size)) (F0 m 155 ls [.int v7, .int (ush v3 1)])) ?_ (fun K9 J9 hs => ?_)
                    · intro v7 H locs ls hl hP hS hs
                      refine lv_ior hx hb dX1_shifted_155 ?_
                      exact J6 ((ush v3 1) ||| v7) _ _ _ (lv_sub hl [0, 1, 2, 3, 4, 5, 6, 7, 8, 9] rfl) hP hS hs
                    ·
                      refine lv_if_eq (tgt := 154) hx hb dX1_shifted_144 (by decide) (fun c8 => ?_) (fun c8 => ?_)
                      · have hs := if_t c8 hs
                        refine lv_iconst (v := 0) hx hb dX1_shifted_154 (by decide) ?_
                        exact J9 0 _ _ _ (lv_sub hl [0, 2, 3, 4, 5, 7, 8, 9, 10, 11] rfl) hP hS hs
                      · have hs := if_f c8 hs
                        refine lv_aload_n hx hb dX1_shifted_147 rfl (lv_at hl 8 rfl) ?_
                        refine gE_top hx hb hown hK hS ht1 (hT _ tF_X1_15) dX1_shifted_148 ?_
                        refine lv_goto (tgt := 155) hx hb dX1_shifted_151 (by decide) ?_
                        exact J9 (szT t1) _ _ _ (lv_sub hl [0, 2, 3, 4, 5, 7, 8, 9, 10, 11] rfl) hP hS hs
                  · have hs := if_f c7 hs
                    refine lv_iload hx hb dX1_shifted_115 (lv_at hl 6 rfl) ?_
                    refine lv_iconst (v := 1) hx hb dX1_shifted_117 (by decide) ?_
                    refine lv_ishl hx hb dX1_shifted_118 ?_
                    refine lv_aload_n hx hb dX1_shifted_119 rfl (lv_at hl 8 rfl) ?_
                    refine gE_mask hx hb hown hK hS ht1 (hT _ tF_X1_21) dX1_shifted_120 ?_
                    refine lv_iand hx hb dX1_shifted_123 ?_
                    refine lv_iload hx hb dX1_shifted_124 (lv_at hl 1 rfl) ?_
                    refine jn_e hs (fun K10 => ∀ (b13 : Bool) (H : Heap) (locs : List Loc) (ls : Array Slot), lv_has ls 13 [(12, .int v3), (8, .int (zI b7)), (10, .int v2), (9, .int (zI b3)), (7, .int (zI b5)), (0, .ref (ad 5)), (1, .ref (en t1)), (3, .int x3), (4, .int x4), (5, .int (zI z5))] → va_P D vwCl (wB ad cI cB S5) H → va_S (AX 10 ad s.heap.size) s.heap H locs → K10 b13 = some (ro, So) → W p l e rmX1_shifted s m ([.ref (ad 5), .ref (en t1), .int x2, .int x3, .int x4, .int (zI z5)] : List Value).toArray below meth c H locs 0 0 (MQ below (uQ D (wB ad cI cB) (some (.int ro), So) (AX 10 ad s.heap.size)) ([.ref (ad 5), .ref (en t1), .int x2, .int x3, .int x4, .int (zI z5)] : List Value).toArray s 0 0 (AX 10 ad s.heap.size)) (F0 m 134 ls [.int (zI b13), .int ((v3 <<< ((1 : Int32) &&& 31)) &&& (szM t1))])) ?_ (fun K10 J10 hs => ?_)
                    · intro b13 H locs ls hl hP hS hs
                      refine lv_ior hx hb dX1_shifted_134 ?_
                      refine lv_goto (tgt := 156) hx hb dX1_shifted_135 (by decide) ?_
                      exact J6 (((v3 <<< ((1 : Int32) &&& 31)) &&& (szM t1)) ||| (zI b13)) _ _ _ (lv_sub hl [0, 1, 2, 3, 4, 5, 6, 7, 8, 9] rfl) hP hS hs
                    ·
                      refine lv_if_eq (tgt := 133) hx hb dX1_shifted_126 (by decide) (fun c9 => ?_) (fun c9 => ?_)
                      · have hs := if_t c9 hs
                        refine lv_iconst (v := 0) hx hb dX1_shifted_133 (by decide) ?_
                        exact J10 false _ _ _ (lv_sub hl [0, 2, 3, 4, 5, 7, 8, 9, 10, 11] rfl) hP hS hs
                      · have hs := if_f c9 hs
                        refine lv_iconst (v := 1) hx hb dX1_shifted_129 (by decide) ?_
                        refine lv_goto (tgt := 134) hx hb dX1_shifted_130 (by decide) ?_
                        exact J10 true _ _ _ (lv_sub hl [0, 2, 3, 4, 5, 7, 8, 9, 10, 11] rfl) hP hS hs
              ·
                refine lv_if_ne (tgt := 100) hx hb dX1_shifted_83 (by decide) (fun c10 => ?_) (fun c10 => ?_)
                · have hs := if_f c10 hs
                  refine lv_iconst (v := 0) hx hb dX1_shifted_100 (by decide) ?_
                  exact J5 false _ _ _ (lv_sub hl [0, 1, 2, 3, 4, 5, 6, 7, 8, 9] rfl) hP hS hs
                · have hs := if_t c10 hs
                  refine lv_iload hx hb dX1_shifted_86 (lv_at hl 4 rfl) ?_
                  refine lv_aload_n hx hb dX1_shifted_88 rfl (lv_at hl 6 rfl) ?_
                  refine gE_top hx hb hown hK hS ht1 (hT _ tF_X1_15) dX1_shifted_89 ?_
                  refine lv_iand hx hb dX1_shifted_92 ?_
                  refine lv_if_eq (tgt := 100) hx hb dX1_shifted_93 (by decide) (fun c11 => ?_) (fun c11 => ?_)
                  · have hs := if_t c11 hs
                    refine lv_iconst (v := 0) hx hb dX1_shifted_100 (by decide) ?_
                    exact J5 false _ _ _ (lv_sub hl [0, 1, 2, 3, 4, 5, 6, 7, 8, 9] rfl) hP hS hs
                  · have hs := if_f c11 hs
                    refine lv_iconst (v := 1) hx hb dX1_shifted_96 (by decide) ?_
                    refine lv_goto (tgt := 101) hx hb dX1_shifted_97 (by decide) ?_
                    exact J5 true _ _ _ (lv_sub hl [0, 1, 2, 3, 4, 5, 6, 7, 8, 9] rfl) hP hS hs
            ·
              refine lv_if_eq (tgt := 72) hx hb dX1_shifted_65 (by decide) (fun c12 => ?_) (fun c12 => ?_)
              · have hs := if_t c12 hs
                refine lv_iconst (v := 0) hx hb dX1_shifted_72 (by decide) ?_
                exact J4 false _ _ _ (lv_sub hl [0, 1, 2, 3, 4, 5, 6, 7, 8] rfl) hP hS hs
              · have hs := if_f c12 hs
                refine lv_iconst (v := 1) hx hb dX1_shifted_68 (by decide) ?_
                refine lv_goto (tgt := 73) hx hb dX1_shifted_69 (by decide) ?_
                exact J4 true _ _ _ (lv_sub hl [0, 1, 2, 3, 4, 5, 6, 7, 8] rfl) hP hS hs
          ·
            refine lv_if_eq (tgt := 63) hx hb dX1_shifted_53 (by decide) (fun c13 => ?_) (fun c13 => ?_)
            · have hs := if_t c13 hs
              refine lv_iconst (v := 1) hx hb dX1_shifted_63 (by decide) ?_
              exact J3 1 _ _ _ (lv_sub hl [0, 1, 3, 4, 5, 6, 7, 8, 9] rfl) hP hS hs
            · have hs := if_f c13 hs
              refine lv_aload_n hx hb dX1_shifted_56 rfl (lv_at hl 6 rfl) ?_
              refine gE_top hx hb hown hK hS ht1 (hT _ tF_X1_15) dX1_shifted_57 ?_
              refine lv_goto (tgt := 64) hx hb dX1_shifted_60 (by decide) ?_
              exact J3 (szT t1) _ _ _ (lv_sub hl [0, 1, 3, 4, 5, 6, 7, 8, 9] rfl) hP hS hs
    exact L1 64 0 false b2 b1 v1 S1 _ _ _ (lv_sub hl [0, 1, 2, 3, 4, 5, 6, 7, 8, 9] rfl) hP hS hs
  ·
    refine lv_icmp_ne (tgt := 34) hx hb dX1_shifted_22 (by decide) (fun c14 => ?_) (fun c14 => ?_)
    · have hs := if_f c14 hs
      refine lv_iconst (v := 0) hx hb dX1_shifted_34 (by decide) ?_
      exact J1 false _ _ _ (lv_sub hl [0, 1, 2, 3, 5, 6, 7] rfl) hP hS hs
    · have hs := if_t c14 hs
      refine lv_iload hx hb dX1_shifted_25 (lv_at hl 0 rfl) ?_
      refine lv_if_eq (tgt := 34) hx hb dX1_shifted_27 (by decide) (fun c15 => ?_) (fun c15 => ?_)
      · have hs := if_t c15 hs
        refine lv_iconst (v := 0) hx hb dX1_shifted_34 (by decide) ?_
        exact J1 false _ _ _ (lv_sub hl [0, 1, 2, 3, 5, 6, 7] rfl) hP hS hs
      · have hs := if_f c15 hs
        refine lv_iconst (v := 1) hx hb dX1_shifted_30 (by decide) ?_
        refine lv_goto (tgt := 35) hx hb dX1_shifted_31 (by decide) ?_
        exact J1 true _ _ _ (lv_sub hl [0, 1, 2, 3, 5, 6, 7] rfl) hP hS hs
theorem kX1_shifted {p : Program} {l : Launch} {e : Env} {R : Room} {s : State} {m : MethodId} {args : Array Value} {below : List Frame} {meth : Method} {c : Code} {H : Heap} {locs : List Loc} {cells slots : Nat} {Q : State → Prop} {cc : ByteArray} {pc nL : Nat} {ls : Array Slot} {rest : List Value} {D : va_G} {ad : Nat → Nat} {cI cB : ClassId} {en : Nat → Nat} {S : St} {own : String} {index : Nat} {t1 : Nat} {x2 : Int32} {x3 : Int32} {x4 : Int32} {z5 : Bool} {ro : Int32} {So : St} (C : CallFix p m c cc nL s args wG own) (hlk : Cond.methodLink own index yX1_shifted ∈ wG) (hR : rmX1_shifted.frames + 1 ≤ R.frames ∧ 8 + (13 + 11) + rmX1_shifted.locals ≤ R.locals) (hc : cells ≤ R.cells ∧ slots ≤ R.slots) (hK : KB D ad cI cB en s) (hP : va_P D vwCl (wB ad cI cB S) H) (hS : va_S (AX 10 ad s.heap.size) s.heap H locs) (hls : ls.size = nL) (hrest : (rest.map fun v => v.category).sum ≤ 8) (hd : decode cc pc = .ok (.invokevirtual index, 3)) (hs : fX1_shifted t1 x2 x3 x4 z5 S = some (ro, So)) (k : ∀ (H : Heap) (locs : List Loc), va_P D vwCl (wB ad cI cB So) H → va_S (AX 10 ad s.heap.size) s.heap H locs → W p l e R s m args below meth c H locs cells slots Q (F0 m (pc + 3) ls (.int ro :: rest))) : W p l e R s m args below meth c H locs cells slots Q (F0 m pc ls (.int (zI z5) :: .int x4 :: .int x3 :: .int x2 :: .ref (en t1) :: .ref (ad 5) :: rest)) :=
  u_callV (n := 5) (mX1_shifted l D ad cI cB en S t1 x2 x3 x4 z5 ro So hs) C uK_B (wg_V hlk tI_X1_shifted tS_X1_shifted tN_X1 tK_X1_shifted) rfl rfl rfl (by decide +kernel) hR rfl (va_recv hK.1 hP (ci := 1) (q0 := 5) rfl rfl) hK hP hS hls hrest hd hc rfl k
