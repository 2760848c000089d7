def fX7_indexed (x1 : Int32) (S : St) : Option (Int32 × St) :=
    (bd (fX7_extension S) fun r1 S1 => (lt (((r1 >>> ((12 : Int32) &&& 31)) &&& 7) : Int32) fun v1 => (jn (fun (v2 : Int32) (S2 : St) => (jn (fun (v3 : Int32) => (some (((x1 + (r1.toInt8.toInt32)) + v3), S2))) fun K2 =>
    (if (r1 &&& 2048) = 0 then (K2 (v2.toInt16.toInt32))
    else (K2 v2)))) fun K1 =>
    (if (r1 &&& 32768) = 0 then (gd (ixo v1 8 = true) (K1 (S1.2.2 1 v1.toNatClampNeg) S1))
    else (bd (fX7_getA v1 S1) fun r2 S3 => (K1 r2 S3))))))
abbrev rmX7_indexed : Room := { frames := 4, cells := 0, slots := 0, locals := 88 }
set_option maxRecDepth 100000 in
set_option maxHeartbeats 4000000 in
theorem mX7_indexed (l : Launch) (D : va_G) (ad : Nat → Nat) (cI cB : ClassId) (en : Nat → Nat) (S : St) (x1 : Int32) (ro : Int32) (So : St) (hs : fX7_indexed x1 S = some (ro, So)) : uM l yX7_indexed (wg yX7_indexed cX7_indexed 5 (some .int)) rmX7_indexed (KM D ad cI cB en) D (wM ad cI cB) (AX 11 ad) [.ref (ad 0), .int x1] S (some (.int ro), So) := by
  refine uM_start (by decide) rfl ?_
  intro p e s m below meth c hx hb hr hlocks hml hown hts hK hP
  have hT : ∀ w ∈ wG, w.before _ s = true := fun w h => hts w (List.mem_cons_of_mem _ h)
  have hS : va_S (AX 11 ad s.heap.size) s.heap s.heap [] := va_S.rf
  have hown : s.vm.findClass RX7 = some m.cls := hown
  have C : CallFix p m c cX7_indexed 5 s _ wG RX7 := ⟨hx, hb, hml, hown, hT⟩
  have hl := lv_entry ([.ref (ad 0), .int x1]) (n := 5) (Nat.le_of_ble_eq_true rfl)
  rw [lg_entry_eq]
  generalize (lg_sl ([.ref (ad 0), .int x1]) ++ List.replicate (5 - (lg_sl ([.ref (ad 0), .int x1])).length) Slot.unset).toArray = ls at hl ⊢
  have hl : lv_has ls 5 [(0, .ref (ad 0)), (1, .int x1)] := hl
  unfold fX7_indexed at hs
  refine lv_aload_n hx hb dX7_indexed_0 rfl (lv_at hl 0 rfl) ?_
  obtain ⟨r1, S1, h1, hs⟩ := bd_e hs
  refine kX7_extension C tM_X7_125 ⟨Nat.le_of_ble_eq_true rfl, Nat.le_of_ble_eq_true rfl⟩ ⟨Nat.le_of_ble_eq_true rfl, Nat.le_of_ble_eq_true rfl⟩ hK hP hS hl.1 (rest := []) (Nat.le_of_ble_eq_true rfl) dX7_indexed_1 h1 (fun H locs hP hS => ?_)
  refine lv_istore_n (lv' := [(2, .int r1), (0, .ref (ad 0)), (1, .int x1)]) hx hb dX7_indexed_4 rfl hl (by decide) rfl (fun ls hl => ?_)
  refine lv_iload_n hx hb dX7_indexed_5 rfl (lv_at hl 0 rfl) ?_
  refine lv_bipush (v := 12) hx hb dX7_indexed_6 (by decide) ?_
  refine lv_ishr hx hb dX7_indexed_8 ?_
  refine lv_bipush (v := 7) hx hb dX7_indexed_9 (by decide) ?_
  refine lv_iand hx hb dX7_indexed_11 ?_
  obtain ⟨v1, h2, hs⟩ := lt_e hs
  refine u_top h2 ?_
  refine lv_istore_n (lv' := [(3, .int v1), (2, .int r1), (0, .ref (ad 0)), (1, .int x1)]) hx hb dX7_indexed_12 rfl hl (by decide) rfl (fun ls hl => ?_)
  refine lv_iload_n hx hb dX7_indexed_13 rfl (lv_at hl 1 rfl) ?_
  refine lv_ldc (v := 32768) hx hb hown (hT _ tC_X7_128) dX7_indexed_14 ?_
  refine lv_iand hx hb dX7_indexed_16 ?_
  refine jn_e hs (fun K1 => ∀ (v2 : Int32) (S2 : St) (H : Heap) (locs : List Loc) (ls : Array Slot), lv_has ls 5 [(2, .int r1), (1, .int x1)] → va_P D vwCl (wM ad cI cB S2) H → va_S (AX 11 ad s.heap.size) s.heap H locs → K1 v2 S2 = some (ro, So) → W p l e rmX7_indexed s m ([.ref (ad 0), .int x1] : List Value).toArray below meth c H locs 0 0 (MQ below (uQ D (wM ad cI cB) (some (.int ro), So) (AX 11 ad s.heap.size)) ([.ref (ad 0), .int x1] : List Value).toArray s 0 0 (AX 11 ad s.heap.size)) (F0 m 34 ls [.int v2])) ?_ (fun K1 J1 hs => ?_)
  · intro v2 S2 H locs ls hl hP hS hs
    refine lv_istore (lv' := [(4, .int v2), (2, .int r1), (1, .int x1)]) hx hb dX7_indexed_34 hl (by decide) rfl (fun ls hl => ?_)
    refine lv_iload_n hx hb dX7_indexed_36 rfl (lv_at hl 1 rfl) ?_
    refine lv_sipush (v := 2048) hx hb dX7_indexed_37 (by decide) ?_
    refine lv_iand hx hb dX7_indexed_40 ?_
    refine jn_e hs (fun K2 => ∀ (v3 : Int32) (H : Heap) (locs : List Loc) (ls : Array Slot), lv_has ls 5 [(2, .int r1), (1, .int x1)] → va_P D vwCl (wM ad cI cB S2) H → va_S (AX 11 ad s.heap.size) s.heap H locs → K2 v3 = some (ro, So) → W p l e rmX7_indexed s m ([.ref (ad 0), .int x1] : List Value).toArray below meth c H locs 0 0 (MQ below (uQ D (wM ad cI cB) (some (.int ro), So) (AX 11 ad s.heap.size)) ([.ref (ad 0), .int x1] : List Value).toArray s 0 0 (AX 11 ad s.heap.size)) (F0 m 52 ls [.int v3])) ?_ (fun K2 J2 hs => ?_)
    · intro v3 H locs ls hl hP hS hs
      refine lv_istore (lv' := [(4, .int v3), (2, .int r1), (1, .int x1)]) hx hb dX7_indexed_52 hl (by decide) rfl (fun ls hl => ?_)
      refine lv_iload_n hx hb dX7_indexed_54 rfl (lv_at hl 2 rfl) ?_
      refine lv_iload_n hx hb dX7_indexed_55 rfl (lv_at hl 1 rfl) ?_
      refine lv_i2b (v := (r1.toInt8.toInt32)) hx hb dX7_indexed_56 rfl ?_
      refine lv_iadd hx hb dX7_indexed_57 ?_
      refine lv_iload hx hb dX7_indexed_58 (lv_at hl 0 rfl) ?_
      refine lv_iadd hx hb dX7_indexed_60 ?_
      exact u_iret hx hb hr hlocks hP hS hs dX7_indexed_61
    ·
      refine lv_if_eq (tgt := 49) hx hb dX7_indexed_41 (by decide) (fun c1 => ?_) (fun c1 => ?_)
      · have hs := if_t c1 hs
        refine lv_iload hx hb dX7_indexed_49 (lv_at hl 0 rfl) ?_
        refine lv_i2s (v := (v2.toInt16.toInt32)) hx hb dX7_indexed_51 rfl ?_
        exact J2 (v2.toInt16.toInt32) _ _ _ (lv_sub hl [1, 2] rfl) hP hS hs
      · have hs := if_f c1 hs
        refine lv_iload hx hb dX7_indexed_44 (lv_at hl 0 rfl) ?_
        refine lv_goto (tgt := 52) hx hb dX7_indexed_46 (by decide) ?_
        exact J2 v2 _ _ _ (lv_sub hl [1, 2] rfl) hP hS hs
  ·
    refine lv_if_eq (tgt := 28) hx hb dX7_indexed_17 (by decide) (fun c2 => ?_) (fun c2 => ?_)
    · have hs := if_t c2 hs
      refine lv_aload_n hx hb dX7_indexed_28 rfl (lv_at hl 2 rfl) ?_
      refine gM_X7_d hx hb hT hown hK hP (hT _ tF_X7_13) dX7_indexed_29 ?_
      refine lv_iload_n hx hb dX7_indexed_32 rfl (lv_at hl 0 rfl) ?_
      obtain ⟨h3, hs⟩ := gd_e hs
      refine lM_d hx hb hK hP (ixo_in h3) dX7_indexed_33 ?_
      exact J1 (S1.2.2 1 v1.toNatClampNeg) S1 _ _ _ (lv_sub hl [1, 3] rfl) hP hS hs
    · have hs := if_f c2 hs
      refine lv_aload_n hx hb dX7_indexed_20 rfl (lv_at hl 2 rfl) ?_
      refine lv_iload_n hx hb dX7_indexed_21 rfl (lv_at hl 0 rfl) ?_
      obtain ⟨r2, S3, h4, hs⟩ := bd_e hs
      refine kX7_getA C tM_X7_70 ⟨Nat.le_of_ble_eq_true rfl, Nat.le_of_ble_eq_true rfl⟩ ⟨Nat.le_of_ble_eq_true rfl, Nat.le_of_ble_eq_true rfl⟩ hK hP hS hl.1 (rest := []) (Nat.le_of_ble_eq_true rfl) dX7_indexed_22 h4 (fun H locs hP hS => ?_)
      refine lv_goto (tgt := 34) hx hb dX7_indexed_25 (by decide) ?_
      exact J1 r2 S3 _ _ _ (lv_sub hl [1, 3] rfl) hP hS hs
theorem kX7_indexed {p : Program} {l : Launch} {e : Env} {R : Room} {s : State} {m : MethodId} {args : Array Value} {below : List Frame} {meth : Method} {c : Code} {H : Heap} {locs : List Loc} {cells slots : Nat} {Q : State → Prop} {cc : ByteArray} {pc nL : Nat} {ls : Array Slot} {rest : List Value} {D : va_G} {ad : Nat → Nat} {cI cB : ClassId} {en : Nat → Nat} {S : St} {own : String} {index : Nat} {x1 : Int32} {ro : Int32} {So : St} (C : CallFix p m c cc nL s args wG own) (hlk : Cond.methodLink own index yX7_indexed ∈ wG) (hR : rmX7_indexed.frames + 1 ≤ R.frames ∧ 8 + (5 + 11) + rmX7_indexed.locals ≤ R.locals) (hc : cells ≤ R.cells ∧ slots ≤ R.slots) (hK : KM D ad cI cB en s) (hP : va_P D vwCl (wM ad cI cB S) H) (hS : va_S (AX 11 ad s.heap.size) s.heap H locs) (hls : ls.size = nL) (hrest : (rest.map fun v => v.category).sum ≤ 8) (hd : decode cc pc = .ok (.invokevirtual index, 3)) (hs : fX7_indexed x1 S = some (ro, So)) (k : ∀ (H : Heap) (locs : List Loc), va_P D vwCl (wM ad cI cB So) H → va_S (AX 11 ad s.heap.size) s.heap H locs → W p l e R s m args below meth c H locs cells slots Q (F0 m (pc + 3) ls (.int ro :: rest))) : W p l e R s m args below meth c H locs cells slots Q (F0 m pc ls (.int x1 :: .ref (ad 0) :: rest)) :=
  u_callV (n := 1) (mX7_indexed l D ad cI cB en S x1 ro So hs) C uK_M (wg_V hlk tI_X7_indexed tS_X7_indexed tN_X7 tK_X7_indexed) rfl rfl rfl (by decide +kernel) hR rfl (va_recv hK.1 hP (ci := 6) (q0 := 0) rfl rfl) hK hP hS hls hrest hd hc rfl k
def fX7_immediate (x1 : Int32) (S : St) : Option (Int32 × St) :=
    (bd (fX7_extension S) fun r1 S1 => (jn (fun (v1 : Int32) (S2 : St) => (if x1 = 1 then (some ((v1 &&& 255), S2))
    else (some (v1, S2)))) fun K1 =>
    (if x1 = 4 then (bd (fX7_extension S1) fun r2 S3 => (lt (((r1 <<< ((16 : Int32) &&& 31)) ||| r2) : Int32) fun v2 => (K1 v2 S3)))
    else (K1 r1 S1))))
abbrev rmX7_immediate : Room := { frames := 4, cells := 0, slots := 0, locals := 88 }
set_option maxRecDepth 100000 in
set_option maxHeartbeats 4000000 in
theorem mX7_immediate (l : Launch) (D : va_G) (ad : Nat → Nat) (cI cB : ClassId) (en : Nat → Nat) (S : St) (x1 : Int32) (ro : Int32) (So : St) (hs : fX7_immediate x1 S = some (ro, So)) : uM l yX7_immediate (wg yX7_immediate cX7_immediate 3 (some .int)) rmX7_immediate (KM D ad cI cB en) D (wM ad cI cB) (AX 11 ad) [.ref (ad 0), .int x1] S (some (.int ro), So) := by
  refine uM_start (by decide) rfl ?_
  intro p e s m below meth c hx hb hr hlocks hml hown hts hK hP
  have hT : ∀ w ∈ wG, w.before _ s = true := fun w h => hts w (List.mem_cons_of_mem _ h)
  have hS : va_S (AX 11 ad s.heap.size) s.heap s.heap [] := va_S.rf
  have hown : s.vm.findClass RX7 = some m.cls := hown
  have C : CallFix p m c cX7_immediate 3 s _ wG RX7 := ⟨hx, hb, hml, hown, hT⟩
  have hl := lv_entry ([.ref (ad 0), .int x1]) (n := 3) (Nat.le_of_ble_eq_true rfl)
  rw [lg_entry_eq]
  generalize (lg_sl ([.ref (ad 0), .int x1]) ++ List.replicate (3 - (lg_sl ([.ref (ad 0), .int x1])).length) Slot.unset).toArray = ls at hl ⊢
  have hl : lv_has ls 3 [(0, .ref (ad 0)), (1, .int x1)] := hl
  unfold fX7_immediate at hs
  refine lv_aload_n hx hb dX7_immediate_0 rfl (lv_at hl 0 rfl) ?_
  obtain ⟨r1, S1, h1, hs⟩ := bd_e hs
  refine kX7_extension C tM_X7_125 ⟨Nat.le_of_ble_eq_true rfl, Nat.le_of_ble_eq_true rfl⟩ ⟨Nat.le_of_ble_eq_true rfl, Nat.le_of_ble_eq_true rfl⟩ hK hP hS hl.1 (rest := []) (Nat.le_of_ble_eq_true rfl) dX7_immediate_1 h1 (fun H locs hP hS => ?_)
  refine lv_istore_n (lv' := [(2, .int r1), (0, .ref (ad 0)), (1, .int x1)]) hx hb dX7_immediate_4 rfl hl (by decide) rfl (fun ls hl => ?_)
  refine lv_iload_n hx hb dX7_immediate_5 rfl (lv_at hl 2 rfl) ?_
  refine lv_iconst (v := 4) hx hb dX7_immediate_6 (by decide) ?_
  refine jn_e hs (fun K1 => ∀ (v1 : Int32) (S2 : St) (H : Heap) (locs : List Loc) (ls : Array Slot), lv_has ls 3 [(2, .int v1), (1, .int x1)] → va_P D vwCl (wM ad cI cB S2) H → va_S (AX 11 ad s.heap.size) s.heap H locs → K1 v1 S2 = some (ro, So) → W p l e rmX7_immediate s m ([.ref (ad 0), .int x1] : List Value).toArray below meth c H locs 0 0 (MQ below (uQ D (wM ad cI cB) (some (.int ro), So) (AX 11 ad s.heap.size)) ([.ref (ad 0), .int x1] : List Value).toArray s 0 0 (AX 11 ad s.heap.size)) (F0 m 20 ls [])) ?_ (fun K1 J1 hs => ?_)
  · intro v1 S2 H locs ls hl hP hS hs
    refine lv_iload_n hx hb dX7_immediate_20 rfl (lv_at hl 1 rfl) ?_
    refine lv_iconst (v := 1) hx hb dX7_immediate_21 (by decide) ?_
    refine lv_icmp_ne (tgt := 33) hx hb dX7_immediate_22 (by decide) (fun c1 => ?_) (fun c1 => ?_)
    · have hs := if_f c1 hs
      refine lv_iload_n hx hb dX7_immediate_33 rfl (lv_at hl 0 rfl) ?_
      exact u_iret hx hb hr hlocks hP hS hs dX7_immediate_34
    · have hs := if_t c1 hs
      refine lv_iload_n hx hb dX7_immediate_25 rfl (lv_at hl 0 rfl) ?_
      refine lv_sipush (v := 255) hx hb dX7_immediate_26 (by decide) ?_
      refine lv_iand hx hb dX7_immediate_29 ?_
      refine lv_goto (tgt := 34) hx hb dX7_immediate_30 (by decide) ?_
      exact u_iret hx hb hr hlocks hP hS hs dX7_immediate_34
  ·
    refine lv_icmp_ne (tgt := 20) hx hb dX7_immediate_7 (by decide) (fun c2 => ?_) (fun c2 => ?_)
    · have hs := if_f c2 hs
      exact J1 r1 S1 _ _ _ (lv_sub hl [0, 2] rfl) hP hS hs
    · have hs := if_t c2 hs
      refine lv_iload_n hx hb dX7_immediate_10 rfl (lv_at hl 0 rfl) ?_
      refine lv_bipush (v := 16) hx hb dX7_immediate_11 (by decide) ?_
      refine lv_ishl hx hb dX7_immediate_13 ?_
      refine lv_aload_n hx hb dX7_immediate_14 rfl (lv_at hl 1 rfl) ?_
      obtain ⟨r2, S3, h2, hs⟩ := bd_e hs
      refine kX7_extension C tM_X7_125 ⟨Nat.le_of_ble_eq_true rfl, Nat.le_of_ble_eq_true rfl⟩ ⟨Nat.le_of_ble_eq_true rfl, Nat.le_of_ble_eq_true rfl⟩ hK hP hS hl.1 (rest := [.int (r1 <<< ((16 : Int32) &&& 31))]) (Nat.le_of_ble_eq_true rfl) dX7_immediate_15 h2 (fun H locs hP hS => ?_)
      refine lv_ior hx hb dX7_immediate_18 ?_
      obtain ⟨v2, h3, hs⟩ := lt_e hs
      refine u_top h3 ?_
      refine lv_istore_n (lv' := [(2, .int v2), (0, .ref (ad 0)), (1, .int x1)]) hx hb dX7_immediate_19 rfl hl (by decide) rfl (fun ls hl => ?_)
      exact J1 v2 S3 _ _ _ (lv_sub hl [0, 2] rfl) hP hS hs
theorem kX7_immediate {p : Program} {l : Launch} {e : Env} {R : Room} {s : State} {m : MethodId} {args : Array Value} {below : List Frame} {meth : Method} {c : Code} {H : Heap} {locs : List Loc} {cells slots : Nat} {Q : State → Prop} {cc : ByteArray} {pc nL : Nat} {ls : Array Slot} {rest : List Value} {D : va_G} {ad : Nat → Nat} {cI cB : ClassId} {en : Nat → Nat} {S : St} {own : String} {index : Nat} {x1 : Int32} {ro : Int32} {So : St} (C : CallFix p m c cc nL s args wG own) (hlk : Cond.methodLink own index yX7_immediate ∈ wG) (hR : rmX7_immediate.frames + 1 ≤ R.frames ∧ 8 + (3 + 11) + rmX7_immediate.locals ≤ R.locals) (hc : cells ≤ R.cells ∧ slots ≤ R.slots) (hK : KM D ad cI cB en s) (hP : va_P D vwCl (wM ad cI cB S) H) (hS : va_S (AX 11 ad s.heap.size) s.heap H locs) (hls : ls.size = nL) (hrest : (rest.map fun v => v.category).sum ≤ 8) (hd : decode cc pc = .ok (.invokevirtual index, 3)) (hs : fX7_immediate x1 S = some (ro, So)) (k : ∀ (H : Heap) (locs : List Loc), va_P D vwCl (wM ad cI cB So) H → va_S (AX 11 ad s.heap.size) s.heap H locs → W p l e R s m args below meth c H locs cells slots Q (F0 m (pc + 3) ls (.int ro :: rest))) : W p l e R s m args below meth c H locs cells slots Q (F0 m pc ls (.int x1 :: .ref (ad 0) :: rest)) :=
  u_callV (n := 1) (mX7_immediate l D ad cI cB en S x1 ro So hs) C uK_M (wg_V hlk tI_X7_immediate tS_X7_immediate tN_X7 tK_X7_immediate) rfl rfl rfl (by decide +kernel) hR rfl (va_recv hK.1 hP (ci := 6) (q0 := 0) rfl rfl) hK hP hS hls hrest hd hc rfl k
def fX7_operand (x1 : Int32) (x2 : Int32) (S : St) : Option St :=
    (lt (((x1 >>> ((3 : Int32) &&& 31)) &&& 7) : Int32) fun v1 => (lt ((x1 &&& 7) : Int32) fun v2 => (lt (sI S 13 v2) fun S1 => (jn (fun (v3 : Int32) => (lt (sI S1 12 v3) fun S2 => (jn (fun (v4 : Int32) => (if v1 = 2 then (bd (fX7_getA v2 S2) fun r41 S80 => (lt (sI S80 14 r41) fun S81 => (some S81)))
    else (if v1 = 3 then (bd (fX7_getA v2 S2) fun r40 S77 => (lt (sI S77 14 r40) fun S78 => (bv (fX7_setA v2 ((S78.1 14) + v4) S78) fun S79 => (some S79))))
    else (if v1 = 4 then (bd (fX7_getA v2 S2) fun r38 S73 => (bv (fX7_setA v2 (r38 - v4) S73) fun S74 => (bd (fX7_getA v2 S74) fun r39 S75 => (lt (sI S75 14 r39) fun S76 => (some S76)))))
    else (if v1 = 5 then (bd (fX7_getA v2 S2) fun r36 S70 => (bd (fX7_extension S70) fun r37 S71 => (lt (sI S71 14 (r36 + (r37.toInt16.toInt32))) fun S72 => (some S72))))
    else (if v1 = 6 then (bd (fX7_getA v2 S2) fun r34 S67 => (bd (fX7_indexed r34 S67) fun r35 S68 => (lt (sI S68 14 r35) fun S69 => (some S69))))
    else (if v1 = 7 then (if v2 = 0 then (bd (fX7_extension S2) fun r33 S65 => (lt (sI S65 14 (r33.toInt16.toInt32)) fun S66 => (some S66)))
    else (if v1 = 7 then (if v2 = 1 then (bd (fX7_extension S2) fun r31 S62 => (bd (fX7_extension S62) fun r32 S63 => (lt (sI S63 14 ((r31 <<< ((16 : Int32) &&& 31)) ||| r32)) fun S64 => (some S64))))
    else (if v1 = 7 then (if v2 = 2 then (lt ((S2.1 1) : Int32) fun v8 => (bd (fX7_extension S2) fun r30 S60 => (lt (sI S60 14 (v8 + (r30.toInt16.toInt32))) fun S61 => (some S61))))
    else (if v1 = 7 then (if v2 = 3 then (bd (fX7_indexed (S2.1 1) S2) fun r29 S58 => (lt (sI S58 14 r29) fun S59 => (some S59)))
    else (if v1 = 7 then (bd (fX7_immediate x2 S2) fun r28 S56 => (lt (sI S56 13 r28) fun S57 => (some S57)))
    else (some S2)))
    else (if v1 = 7 then (bd (fX7_immediate x2 S2) fun r27 S54 => (lt (sI S54 13 r27) fun S55 => (some S55)))
    else (some S2))))
    else (if v1 = 7 then (if v2 = 3 then (bd (fX7_indexed (S2.1 1) S2) fun r26 S52 => (lt (sI S52 14 r26) fun S53 => (some S53)))
    else (if v1 = 7 then (bd (fX7_immediate x2 S2) fun r25 S50 => (lt (sI S50 13 r25) fun S51 => (some S51)))
    else (some S2)))
    else (if v1 = 7 then (bd (fX7_immediate x2 S2) fun r24 S48 => (lt (sI S48 13 r24) fun S49 => (some S49)))
    else (some S2)))))
    else (if v1 = 7 then (if v2 = 2 then (lt ((S2.1 1) : Int32) fun v7 => (bd (fX7_extension S2) fun r23 S46 => (lt (sI S46 14 (v7 + (r23.toInt16.toInt32))) fun S47 => (some S47))))
    else (if v1 = 7 then (if v2 = 3 then (bd (fX7_indexed (S2.1 1) S2) fun r22 S44 => (lt (sI S44 14 r22) fun S45 => (some S45)))
    else (if v1 = 7 then (bd (fX7_immediate x2 S2) fun r21 S42 => (lt (sI S42 13 r21) fun S43 => (some S43)))
    else (some S2)))
    else (if v1 = 7 then (bd (fX7_immediate x2 S2) fun r20 S40 => (lt (sI S40 13 r20) fun S41 => (some S41)))
    else (some S2))))
    else (if v1 = 7 then (if v2 = 3 then (bd (fX7_indexed (S2.1 1) S2) fun r19 S38 => (lt (sI S38 14 r19) fun S39 => (some S39)))
    else (if v1 = 7 then (bd (fX7_immediate x2 S2) fun r18 S36 => (lt (sI S36 13 r18) fun S37 => (some S37)))
    else (some S2)))
    else (if v1 = 7 then (bd (fX7_immediate x2 S2) fun r17 S34 => (lt (sI S34 13 r17) fun S35 => (some S35)))
    else (some S2))))))
    else (if v1 = 7 then (if v2 = 1 then (bd (fX7_extension S2) fun r15 S31 => (bd (fX7_extension S31) fun r16 S32 => (lt (sI S32 14 ((r15 <<< ((16 : Int32) &&& 31)) ||| r16)) fun S33 => (some S33))))
    else (if v1 = 7 then (if v2 = 2 then (lt ((S2.1 1) : Int32) fun v6 => (bd (fX7_extension S2) fun r14 S29 => (lt (sI S29 14 (v6 + (r14.toInt16.toInt32))) fun S30 => (some S30))))
    else (if v1 = 7 then (if v2 = 3 then (bd (fX7_indexed (S2.1 1) S2) fun r13 S27 => (lt (sI S27 14 r13) fun S28 => (some S28)))
    else (if v1 = 7 then (bd (fX7_immediate x2 S2) fun r12 S25 => (lt (sI S25 13 r12) fun S26 => (some S26)))
    else (some S2)))
    else (if v1 = 7 then (bd (fX7_immediate x2 S2) fun r11 S23 => (lt (sI S23 13 r11) fun S24 => (some S24)))
    else (some S2))))
    else (if v1 = 7 then (if v2 = 3 then (bd (fX7_indexed (S2.1 1) S2) fun r10 S21 => (lt (sI S21 14 r10) fun S22 => (some S22)))
    else (if v1 = 7 then (bd (fX7_immediate x2 S2) fun r9 S19 => (lt (sI S19 13 r9) fun S20 => (some S20)))
    else (some S2)))
    else (if v1 = 7 then (bd (fX7_immediate x2 S2) fun r8 S17 => (lt (sI S17 13 r8) fun S18 => (some S18)))
    else (some S2)))))
    else (if v1 = 7 then (if v2 = 2 then (lt ((S2.1 1) : Int32) fun v5 => (bd (fX7_extension S2) fun r7 S15 => (lt (sI S15 14 (v5 + (r7.toInt16.toInt32))) fun S16 => (some S16))))
    else (if v1 = 7 then (if v2 = 3 then (bd (fX7_indexed (S2.1 1) S2) fun r6 S13 => (lt (sI S13 14 r6) fun S14 => (some S14)))
    else (if v1 = 7 then (bd (fX7_immediate x2 S2) fun r5 S11 => (lt (sI S11 13 r5) fun S12 => (some S12)))
    else (some S2)))
    else (if v1 = 7 then (bd (fX7_immediate x2 S2) fun r4 S9 => (lt (sI S9 13 r4) fun S10 => (some S10)))
    else (some S2))))
    else (if v1 = 7 then (if v2 = 3 then (bd (fX7_indexed (S2.1 1) S2) fun r3 S7 => (lt (sI S7 14 r3) fun S8 => (some S8)))
    else (if v1 = 7 then (bd (fX7_immediate x2 S2) fun r2 S5 => (lt (sI S5 13 r2) fun S6 => (some S6)))
    else (some S2)))
    else (if v1 = 7 then (bd (fX7_immediate x2 S2) fun r1 S3 => (lt (sI S3 13 r1) fun S4 => (some S4)))
    else (some S2)))))))))))) fun K2 =>
    (if x2 = 1 then (if v2 = 7 then (K2 2)
    else (K2 x2))
    else (K2 x2))))) fun K1 =>
    (if v1 = 0 then (K1 0)
    else (if v1 = 1 then (K1 1)
    else (if v1 = 7 then (if v2 = 4 then (K1 3)
    else (K1 2))
    else (K1 2))))))))
abbrev rmX7_operand : Room := { frames := 5, cells := 0, slots := 0, locals := 112 }
set_option maxRecDepth 100000 in
set_option maxHeartbeats 4000000 in
theorem mX7_operand (l : Launch) (D : va_G) (ad : Nat → Nat) (cI cB : ClassId) (en : Nat → Nat) (S : St) (x1 : Int32) (x2 : Int32) (So : St) (hs : fX7_operand x1 x2 S = some So) : uM l yX7_operand (wg yX7_operand cX7_operand 7 none) rmX7_operand (KM D ad cI cB en) D (wM ad cI cB) (AX 11 ad) [.ref (ad 0), .int x1, .int x2] S (none, So) := by
  refine uM_start (by decide) rfl ?_
  intro p e s m below meth c hx hb hr hlocks hml hown hts hK hP
  have hT : ∀ w ∈ wG, w.before _ s = true := fun w h => hts w (List.mem_cons_of_mem _ h)
  have hS : va_S (AX 11 ad s.heap.size) s.heap s.heap [] := va_S.rf
  have hown : s.vm.findClass RX7 = some m.cls := hown
  have C : CallFix p m c cX7_operand 7 s _ wG RX7 := ⟨hx, hb, hml, hown, hT⟩
  have hl := lv_entry ([.ref (ad 0), .int x1, .int x2]) (n := 7) (Nat.le_of_ble_eq_true rfl)
  rw [lg_entry_eq]
  generalize (lg_sl ([.ref (ad 0), .int x1, .int x2]) ++ List.replicate (7 - (lg_sl ([.ref (ad 0), .int x1, .int x2])).length) Slot.unset).toArray = ls at hl ⊢
  have hl : lv_has ls 7 [(0, .ref (ad 0)), (1, .int x1), (2, .int x2)] := hl
  unfold fX7_operand at hs
  refine lv_iload_n hx hb dX7_operand_0 rfl (lv_at hl 1 rfl) ?_
  refine lv_iconst (v := 3) hx hb dX7_operand_1 (by decide) ?_
  refine lv_ishr hx hb dX7_operand_2 ?_
  refine lv_bipush (v := 7) hx hb dX7_operand_3 (by decide) ?_
  refine lv_iand hx hb dX7_operand_5 ?_
  obtain ⟨v1, h1, hs⟩ := lt_e hs
  refine u_top h1 ?_
  refine lv_istore_n (lv' := [(3, .int v1), (0, .ref (ad 0)), (1, .int x1), (2, .int x2)]) hx hb dX7_operand_6 rfl hl (by decide) rfl (fun ls hl => ?_)
  refine lv_iload_n hx hb dX7_operand_7 rfl (lv_at hl 2 rfl) ?_
  refine lv_bipush (v := 7) hx hb dX7_operand_8 (by decide) ?_
  refine lv_iand hx hb dX7_operand_10 ?_
  obtain ⟨v2, h2, hs⟩ := lt_e hs
  refine u_top h2 ?_
  refine lv_istore (lv' := [(4, .int v2), (3, .int v1), (0, .ref (ad 0)), (1, .int x1), (2, .int x2)]) hx hb dX7_operand_11 hl (by decide) rfl (fun ls hl => ?_)
  refine lv_aload_n hx hb dX7_operand_13 rfl (lv_at hl 2 rfl) ?_
  refine lv_iload hx hb dX7_operand_14 (lv_at hl 0 rfl) ?_
  obtain ⟨S1, h3, hs⟩ := lt_e hs
  refine pM_X7_number hx hb hT hown hK hP hS (hT _ tF_X7_129) dX7_operand_16 (v := v2) h3 (fun H locs hP hS => ?_)
  refine lv_aload_n hx hb dX7_operand_19 rfl (lv_at hl 2 rfl) ?_
  refine lv_iload_n hx hb dX7_operand_20 rfl (lv_at hl 1 rfl) ?_
  refine jn_e hs (fun K1 => ∀ (v3 : Int32) (H : Heap) (locs : List Loc) (ls : Array Slot), lv_has ls 7 [(4, .int v2), (3, .int v1), (0, .ref (ad 0)), (2, .int x2)] → va_P D vwCl (wM ad cI cB S1) H → va_S (AX 11 ad s.heap.size) s.heap H locs → K1 v3 = some So → W p l e rmX7_operand s m ([.ref (ad 0), .int x1, .int x2] : List Value).toArray below meth c H locs 0 0 (MQ below (uQ D (wM ad cI cB) (none, So) (AX 11 ad s.heap.size)) ([.ref (ad 0), .int x1, .int x2] : List Value).toArray s 0 0 (AX 11 ad s.heap.size)) (F0 m 54 ls [.int v3, .ref (ad 0)])) ?_ (fun K1 J1 hs => ?_)
  · intro v3 H locs ls hl hP hS hs
    obtain ⟨S2, h4, hs⟩ := lt_e hs
    refine pM_X7_sort hx hb hT hown hK hP hS (hT _ tF_X7_132) dX7_operand_54 (v := v3) h4 (fun H locs hP hS => ?_)
    refine lv_iload_n hx hb dX7_operand_57 rfl (lv_at hl 3 rfl) ?_
    refine lv_iconst (v := 1) hx hb dX7_operand_58 (by decide) ?_
    refine jn_e hs (fun K2 => ∀ (v4 : Int32) (H : Heap) (locs : List Loc) (ls : Array Slot), lv_has ls 7 [(4, .int v2), (3, .int v1), (0, .ref (ad 0)), (2, .int x2)] → va_P D vwCl (wM ad cI cB S2) H → va_S (AX 11 ad s.heap.size) s.heap H locs → K2 v4 = some So → W p l e rmX7_operand s m ([.ref (ad 0), .int x1, .int x2] : List Value).toArray below meth c H locs 0 0 (MQ below (uQ D (wM ad cI cB) (none, So) (AX 11 ad s.heap.size)) ([.ref (ad 0), .int x1, .int x2] : List Value).toArray s 0 0 (AX 11 ad s.heap.size)) (F0 m 74 ls [.int v4])) ?_ (fun K2 J2 hs => ?_)
    · intro v4 H locs ls hl hP hS hs
      refine lv_istore (lv' := [(5, .int v4), (4, .int v2), (3, .int v1), (0, .ref (ad 0)), (2, .int x2)]) hx hb dX7_operand_74 hl (by decide) rfl (fun ls hl => ?_)
      refine lv_iload_n hx hb dX7_operand_76 rfl (lv_at hl 2 rfl) ?_
      refine lv_iconst (v := 2) hx hb dX7_operand_77 (by decide) ?_
      refine lv_icmp_ne (tgt := 94) hx hb dX7_operand_78 (by decide) (fun c1 => ?_) (fun c1 => ?_)
      · have hs := if_f c1 hs
        refine lv_iload_n hx hb dX7_operand_94 rfl (lv_at hl 2 rfl) ?_
        refine lv_iconst (v := 3) hx hb dX7_operand_95 (by decide) ?_
        refine lv_icmp_ne (tgt := 125) hx hb dX7_operand_96 (by decide) (fun c2 => ?_) (fun c2 => ?_)
        · have hs := if_f c2 hs
          refine lv_iload_n hx hb dX7_operand_125 rfl (lv_at hl 2 rfl) ?_
          refine lv_iconst (v := 4) hx hb dX7_operand_126 (by decide) ?_
          refine lv_icmp_ne (tgt := 158) hx hb dX7_operand_127 (by decide) (fun c3 => ?_) (fun c3 => ?_)
          · have hs := if_f c3 hs
            refine lv_iload_n hx hb dX7_operand_158 rfl (lv_at hl 2 rfl) ?_
            refine lv_iconst (v := 5) hx hb dX7_operand_159 (by decide) ?_
            refine lv_icmp_ne (tgt := 182) hx hb dX7_operand_160 (by decide) (fun c4 => ?_) (fun c4 => ?_)
            · have hs := if_f c4 hs
              refine lv_iload_n hx hb dX7_operand_182 rfl (lv_at hl 2 rfl) ?_
              refine lv_bipush (v := 6) hx hb dX7_operand_183 (by decide) ?_
              refine lv_icmp_ne (tgt := 205) hx hb dX7_operand_185 (by decide) (fun c5 => ?_) (fun c5 => ?_)
              · have hs := if_f c5 hs
                refine lv_iload_n hx hb dX7_operand_205 rfl (lv_at hl 2 rfl) ?_
                refine lv_bipush (v := 7) hx hb dX7_operand_206 (by decide) ?_
                refine lv_icmp_ne (tgt := 228) hx hb dX7_operand_208 (by decide) (fun c6 => ?_) (fun c6 => ?_)
                · have hs := if_f c6 hs
                  refine lv_iload_n hx hb dX7_operand_228 rfl (lv_at hl 2 rfl) ?_
                  refine lv_bipush (v := 7) hx hb dX7_operand_229 (by decide) ?_
                  refine lv_icmp_ne (tgt := 263) hx hb dX7_operand_231 (by decide) (fun c7 => ?_) (fun c7 => ?_)
                  · have hs := if_f c7 hs
                    refine lv_iload_n hx hb dX7_operand_263 rfl (lv_at hl 2 rfl) ?_
                    refine lv_bipush (v := 7) hx hb dX7_operand_264 (by decide) ?_
                    refine lv_icmp_ne (tgt := 296) hx hb dX7_operand_266 (by decide) (fun c8 => ?_) (fun c8 => ?_)
                    · have hs := if_f c8 hs
                      refine lv_iload_n hx hb dX7_operand_296 rfl (lv_at hl 2 rfl) ?_
                      refine lv_bipush (v := 7) hx hb dX7_operand_297 (by decide) ?_
                      refine lv_icmp_ne (tgt := 323) hx hb dX7_operand_299 (by decide) (fun c9 => ?_) (fun c9 => ?_)
                      · have hs := if_f c9 hs
                        refine lv_iload_n hx hb dX7_operand_323 rfl (lv_at hl 2 rfl) ?_
                        refine lv_bipush (v := 7) hx hb dX7_operand_324 (by decide) ?_
                        refine lv_icmp_ne (tgt := 338) hx hb dX7_operand_326 (by decide) (fun c10 => ?_) (fun c10 => ?_)
                        · have hs := if_f c10 hs
                          exact u_vret hx hb hr hlocks hP hS hs dX7_operand_338
                        · have hs := if_t c10 hs
                          refine lv_aload_n hx hb dX7_operand_329 rfl (lv_at hl 3 rfl) ?_
                          refine lv_aload_n hx hb dX7_operand_330 rfl (lv_at hl 3 rfl) ?_
                          refine lv_iload_n hx hb dX7_operand_331 rfl (lv_at hl 4 rfl) ?_
                          obtain ⟨r1, S3, h5, hs⟩ := bd_e hs
                          refine kX7_immediate C tM_X7_141 ⟨Nat.le_of_ble_eq_true rfl, Nat.le_of_ble_eq_true rfl⟩ ⟨Nat.le_of_ble_eq_true rfl, Nat.le_of_ble_eq_true rfl⟩ hK hP hS hl.1 (rest := [.ref (ad 0)]) (Nat.le_of_ble_eq_true rfl) dX7_operand_332 h5 (fun H locs hP hS => ?_)
                          obtain ⟨S4, h6, hs⟩ := lt_e hs
                          refine pM_X7_number hx hb hT hown hK hP hS (hT _ tF_X7_129) dX7_operand_335 (v := r1) h6 (fun H locs hP hS => ?_)
                          exact u_vret hx hb hr hlocks hP hS hs dX7_operand_338
                      · have hs := if_t c9 hs
                        refine lv_iload hx hb dX7_operand_302 (lv_at hl 1 rfl) ?_
                        refine lv_iconst (v := 3) hx hb dX7_operand_304 (by decide) ?_
                        refine lv_icmp_ne (tgt := 323) hx hb dX7_operand_305 (by decide) (fun c11 => ?_) (fun c11 => ?_)
                        · have hs := if_f c11 hs
                          refine lv_iload_n hx hb dX7_operand_323 rfl (lv_at hl 2 rfl) ?_
                          refine lv_bipush (v := 7) hx hb dX7_operand_324 (by decide) ?_
                          refine lv_icmp_ne (tgt := 338) hx hb dX7_operand_326 (by decide) (fun c12 => ?_) (fun c12 => ?_)
                          · have hs := if_f c12 hs
                            exact u_vret hx hb hr hlocks hP hS hs dX7_operand_338
                          · have hs := if_t c12 hs
                            refine lv_aload_n hx hb dX7_operand_329 rfl (lv_at hl 3 rfl) ?_
                            refine lv_aload_n hx hb dX7_operand_330 rfl (lv_at hl 3 rfl) ?_
                            refine lv_iload_n hx hb dX7_operand_331 rfl (lv_at hl 4 rfl) ?_
                            obtain ⟨r2, S5, h7, hs⟩ := bd_e hs
                            refine kX7_immediate C tM_X7_141 ⟨Nat.le_of_ble_eq_true rfl, Nat.le_of_ble_eq_true rfl⟩ ⟨Nat.le_of_ble_eq_true rfl, Nat.le_of_ble_eq_true rfl⟩ hK hP hS hl.1 (rest := [.ref (ad 0)]) (Nat.le_of_ble_eq_true rfl) dX7_operand_332 h7 (fun H locs hP hS => ?_)
                            obtain ⟨S6, h8, hs⟩ := lt_e hs
                            refine pM_X7_number hx hb hT hown hK hP hS (hT _ tF_X7_129) dX7_operand_335 (v := r2) h8 (fun H locs hP hS => ?_)
                            exact u_vret hx hb hr hlocks hP hS hs dX7_operand_338
                        · have hs := if_t c11 hs
                          refine lv_aload_n hx hb dX7_operand_308 rfl (lv_at hl 3 rfl) ?_
                          refine lv_aload_n hx hb dX7_operand_309 rfl (lv_at hl 3 rfl) ?_
                          refine lv_aload_n hx hb dX7_operand_310 rfl (lv_at hl 3 rfl) ?_
                          refine gM_X7_pc hx hb hT hown hK hP (hT _ tF_X7_47) dX7_operand_311 ?_
                          obtain ⟨r3, S7, h9, hs⟩ := bd_e hs
                          refine kX7_indexed C tM_X7_138 ⟨Nat.le_of_ble_eq_true rfl, Nat.le_of_ble_eq_true rfl⟩ ⟨Nat.le_of_ble_eq_true rfl, Nat.le_of_ble_eq_true rfl⟩ hK hP hS hl.1 (rest := [.ref (ad 0)]) (Nat.le_of_ble_eq_true rfl) dX7_operand_314 h9 (fun H locs hP hS => ?_)
                          obtain ⟨S8, h10, hs⟩ := lt_e hs
                          refine pM_X7_address hx hb hT hown hK hP hS (hT _ tF_X7_135) dX7_operand_317 (v := r3) h10 (fun H locs hP hS => ?_)
                          refine lv_goto (tgt := 338) hx hb dX7_operand_320 (by decide) ?_
                          exact u_vret hx hb hr hlocks hP hS hs dX7_operand_338
                    · have hs := if_t c8 hs
                      refine lv_iload hx hb dX7_operand_269 (lv_at hl 1 rfl) ?_
                      refine lv_iconst (v := 2) hx hb dX7_operand_271 (by decide) ?_
                      refine lv_icmp_ne (tgt := 296) hx hb dX7_operand_272 (by decide) (fun c13 => ?_) (fun c13 => ?_)
                      · have hs := if_f c13 hs
                        refine lv_iload_n hx hb dX7_operand_296 rfl (lv_at hl 2 rfl) ?_
                        refine lv_bipush (v := 7) hx hb dX7_operand_297 (by decide) ?_
                        refine lv_icmp_ne (tgt := 323) hx hb dX7_operand_299 (by decide) (fun c14 => ?_) (fun c14 => ?_)
                        · have hs := if_f c14 hs
                          refine lv_iload_n hx hb dX7_operand_323 rfl (lv_at hl 2 rfl) ?_
                          refine lv_bipush (v := 7) hx hb dX7_operand_324 (by decide) ?_
                          refine lv_icmp_ne (tgt := 338) hx hb dX7_operand_326 (by decide) (fun c15 => ?_) (fun c15 => ?_)
                          · have hs := if_f c15 hs
                            exact u_vret hx hb hr hlocks hP hS hs dX7_operand_338
                          · have hs := if_t c15 hs
                            refine lv_aload_n hx hb dX7_operand_329 rfl (lv_at hl 3 rfl) ?_
                            refine lv_aload_n hx hb dX7_operand_330 rfl (lv_at hl 3 rfl) ?_
                            refine lv_iload_n hx hb dX7_operand_331 rfl (lv_at hl 4 rfl) ?_
                            obtain ⟨r4, S9, h11, hs⟩ := bd_e hs
                            refine kX7_immediate C tM_X7_141 ⟨Nat.le_of_ble_eq_true rfl, Nat.le_of_ble_eq_true rfl⟩ ⟨Nat.le_of_ble_eq_true rfl, Nat.le_of_ble_eq_true rfl⟩ hK hP hS hl.1 (rest := [.ref (ad 0)]) (Nat.le_of_ble_eq_true rfl) dX7_operand_332 h11 (fun H locs hP hS => ?_)
                            obtain ⟨S10, h12, hs⟩ := lt_e hs
                            refine pM_X7_number hx hb hT hown hK hP hS (hT _ tF_X7_129) dX7_operand_335 (v := r4) h12 (fun H locs hP hS => ?_)
                            exact u_vret hx hb hr hlocks hP hS hs dX7_operand_338
                        · have hs := if_t c14 hs
                          refine lv_iload hx hb dX7_operand_302 (lv_at hl 1 rfl) ?_
                          refine lv_iconst (v := 3) hx hb dX7_operand_304 (by decide) ?_
                          refine lv_icmp_ne (tgt := 323) hx hb dX7_operand_305 (by decide) (fun c16 => ?_) (fun c16 => ?_)
                          · have hs := if_f c16 hs
                            refine lv_iload_n hx hb dX7_operand_323 rfl (lv_at hl 2 rfl) ?_
                            refine lv_bipush (v := 7) hx hb dX7_operand_324 (by decide) ?_
                            refine lv_icmp_ne (tgt := 338) hx hb dX7_operand_326 (by decide) (fun c17 => ?_) (fun c17 => ?_)
                            · have hs := if_f c17 hs
                              exact u_vret hx hb hr hlocks hP hS hs dX7_operand_338
                            · have hs := if_t c17 hs
                              refine lv_aload_n hx hb dX7_operand_329 rfl (lv_at hl 3 rfl) ?_
                              refine lv_aload_n hx hb dX7_operand_330 rfl (lv_at hl 3 rfl) ?_
                              refine lv_iload_n hx hb dX7_operand_331 rfl (lv_at hl 4 rfl) ?_
                              obtain ⟨r5, S11, h13, hs⟩ := bd_e hs
                              refine kX7_immediate C tM_X7_141 ⟨Nat.le_of_ble_eq_true rfl, Nat.le_of_ble_eq_true rfl⟩ ⟨Nat.le_of_ble_eq_true rfl, Nat.le_of_ble_eq_true rfl⟩ hK hP hS hl.1 (rest := [.ref (ad 0)]) (Nat.le_of_ble_eq_true rfl) dX7_operand_332 h13 (fun H locs hP hS => ?_)
                              obtain ⟨S12, h14, hs⟩ := lt_e hs
                              refine pM_X7_number hx hb hT hown hK hP hS (hT _ tF_X7_129) dX7_operand_335 (v := r5) h14 (fun H locs hP hS => ?_)
                              exact u_vret hx hb hr hlocks hP hS hs dX7_operand_338
                          · have hs := if_t c16 hs
                            refine lv_aload_n hx hb dX7_operand_308 rfl (lv_at hl 3 rfl) ?_
                            refine lv_aload_n hx hb dX7_operand_309 rfl (lv_at hl 3 rfl) ?_
                            refine lv_aload_n hx hb dX7_operand_310 rfl (lv_at hl 3 rfl) ?_
                            refine gM_X7_pc hx hb hT hown hK hP (hT _ tF_X7_47) dX7_operand_311 ?_
                            obtain ⟨r6, S13, h15, hs⟩ := bd_e hs
                            refine kX7_indexed C tM_X7_138 ⟨Nat.le_of_ble_eq_true rfl, Nat.le_of_ble_eq_true rfl⟩ ⟨Nat.le_of_ble_eq_true rfl, Nat.le_of_ble_eq_true rfl⟩ hK hP hS hl.1 (rest := [.ref (ad 0)]) (Nat.le_of_ble_eq_true rfl) dX7_operand_314 h15 (fun H locs hP hS => ?_)
                            obtain ⟨S14, h16, hs⟩ := lt_e hs
                            refine pM_X7_address hx hb hT hown hK hP hS (hT _ tF_X7_135) dX7_operand_317 (v := r6) h16 (fun H locs hP hS => ?_)
                            refine lv_goto (tgt := 338) hx hb dX7_operand_320 (by decide) ?_
                            exact u_vret hx hb hr hlocks hP hS hs dX7_operand_338
                      · have hs := if_t c13 hs
                        refine lv_aload_n hx hb dX7_operand_275 rfl (lv_at hl 3 rfl) ?_
                        refine gM_X7_pc hx hb hT hown hK hP (hT _ tF_X7_47) dX7_operand_276 ?_
                        obtain ⟨v5, h17, hs⟩ := lt_e hs
                        refine u_top h17 ?_
                        refine lv_istore (lv' := [(6, .int v5), (5, .int v4), (4, .int v2), (3, .int v1), (0, .ref (ad 0)), (2, .int x2)]) hx hb dX7_operand_279 hl (by decide) rfl (fun ls hl => ?_)
                        refine lv_aload_n hx hb dX7_operand_281 rfl (lv_at hl 4 rfl) ?_
                        refine lv_iload hx hb dX7_operand_282 (lv_at hl 0 rfl) ?_
                        refine lv_aload_n hx hb dX7_operand_284 rfl (lv_at hl 4 rfl) ?_
                        obtain ⟨r7, S15, h18, hs⟩ := bd_e hs
                        refine kX7_extension C tM_X7_125 ⟨Nat.le_of_ble_eq_true rfl, Nat.le_of_ble_eq_true rfl⟩ ⟨Nat.le_of_ble_eq_true rfl, Nat.le_of_ble_eq_true rfl⟩ hK hP hS hl.1 (rest := [.int v5, .ref (ad 0)]) (Nat.le_of_ble_eq_true rfl) dX7_operand_285 h18 (fun H locs hP hS => ?_)
                        refine lv_i2s (v := (r7.toInt16.toInt32)) hx hb dX7_operand_288 rfl ?_
                        refine lv_iadd hx hb dX7_operand_289 ?_
                        obtain ⟨S16, h19, hs⟩ := lt_e hs
                        refine pM_X7_address hx hb hT hown hK hP hS (hT _ tF_X7_135) dX7_operand_290 (v := (v5 + (r7.toInt16.toInt32))) h19 (fun H locs hP hS => ?_)
                        refine lv_goto (tgt := 338) hx hb dX7_operand_293 (by decide) ?_
                        exact u_vret hx hb hr hlocks hP hS hs dX7_operand_338
                  · have hs := if_t c7 hs
                    refine lv_iload hx hb dX7_operand_234 (lv_at hl 1 rfl) ?_
                    refine lv_iconst (v := 1) hx hb dX7_operand_236 (by decide) ?_
                    refine lv_icmp_ne (tgt := 263) hx hb dX7_operand_237 (by decide) (fun c18 => ?_) (fun c18 => ?_)
                    · have hs := if_f c18 hs
                      refine lv_iload_n hx hb dX7_operand_263 rfl (lv_at hl 2 rfl) ?_
                      refine lv_bipush (v := 7) hx hb dX7_operand_264 (by decide) ?_
                      refine lv_icmp_ne (tgt := 296) hx hb dX7_operand_266 (by decide) (fun c19 => ?_) (fun c19 => ?_)
                      · have hs := if_f c19 hs
                        refine lv_iload_n hx hb dX7_operand_296 rfl (lv_at hl 2 rfl) ?_
                        refine lv_bipush (v := 7) hx hb dX7_operand_297 (by decide) ?_
                        refine lv_icmp_ne (tgt := 323) hx hb dX7_operand_299 (by decide) (fun c20 => ?_) (fun c20 => ?_)
                        · have hs := if_f c20 hs
                          refine lv_iload_n hx hb dX7_operand_323 rfl (lv_at hl 2 rfl) ?_
                          refine lv_bipush (v := 7) hx hb dX7_operand_324 (by decide) ?_
                          refine lv_icmp_ne (tgt := 338) hx hb dX7_operand_326 (by decide) (fun c21 => ?_) (fun c21 => ?_)
                          · have hs := if_f c21 hs
                            exact u_vret hx hb hr hlocks hP hS hs dX7_operand_338
                          · have hs := if_t c21 hs
                            refine lv_aload_n hx hb dX7_operand_329 rfl (lv_at hl 3 rfl) ?_
                            refine lv_aload_n hx hb dX7_operand_330 rfl (lv_at hl 3 rfl) ?_
                            refine lv_iload_n hx hb dX7_operand_331 rfl (lv_at hl 4 rfl) ?_
                            obtain ⟨r8, S17, h20, hs⟩ := bd_e hs
                            refine kX7_immediate C tM_X7_141 ⟨Nat.le_of_ble_eq_true rfl, Nat.le_of_ble_eq_true rfl⟩ ⟨Nat.le_of_ble_eq_true rfl, Nat.le_of_ble_eq_true rfl⟩ hK hP hS hl.1 (rest := [.ref (ad 0)]) (Nat.le_of_ble_eq_true rfl) dX7_operand_332 h20 (fun H locs hP hS => ?_)
                            obtain ⟨S18, h21, hs⟩ := lt_e hs
                            refine pM_X7_number hx hb hT hown hK hP hS (hT _ tF_X7_129) dX7_operand_335 (v := r8) h21 (fun H locs hP hS => ?_)
                            exact u_vret hx hb hr hlocks hP hS hs dX7_operand_338
                        · have hs := if_t c20 hs
                          refine lv_iload hx hb dX7_operand_302 (lv_at hl 1 rfl) ?_
                          refine lv_iconst (v := 3) hx hb dX7_operand_304 (by decide) ?_
                          refine lv_icmp_ne (tgt := 323) hx hb dX7_operand_305 (by decide) (fun c22 => ?_) (fun c22 => ?_)
                          · have hs := if_f c22 hs
                            refine lv_iload_n hx hb dX7_operand_323 rfl (lv_at hl 2 rfl) ?_
                            refine lv_bipush (v := 7) hx hb dX7_operand_324 (by decide) ?_
                            refine lv_icmp_ne (tgt := 338) hx hb dX7_operand_326 (by decide) (fun c23 => ?_) (fun c23 => ?_)
                            · have hs := if_f c23 hs
                              exact u_vret hx hb hr hlocks hP hS hs dX7_operand_338
                            · have hs := if_t c23 hs
                              refine lv_aload_n hx hb dX7_operand_329 rfl (lv_at hl 3 rfl) ?_
                              refine lv_aload_n hx hb dX7_operand_330 rfl (lv_at hl 3 rfl) ?_
                              refine lv_iload_n hx hb dX7_operand_331 rfl (lv_at hl 4 rfl) ?_
                              obtain ⟨r9, S19, h22, hs⟩ := bd_e hs
                              refine kX7_immediate C tM_X7_141 ⟨Nat.le_of_ble_eq_true rfl, Nat.le_of_ble_eq_true rfl⟩ ⟨Nat.le_of_ble_eq_true rfl, Nat.le_of_ble_eq_true rfl⟩ hK hP hS hl.1 (rest := [.ref (ad 0)]) (Nat.le_of_ble_eq_true rfl) dX7_operand_332 h22 (fun H locs hP hS => ?_)
                              obtain ⟨S20, h23, hs⟩ := lt_e hs
                              refine pM_X7_number hx hb hT hown hK hP hS (hT _ tF_X7_129) dX7_operand_335 (v := r9) h23 (fun H locs hP hS => ?_)
                              exact u_vret hx hb hr hlocks hP hS hs dX7_operand_338
                          · have hs := if_t c22 hs
                            refine lv_aload_n hx hb dX7_operand_308 rfl (lv_at hl 3 rfl) ?_
                            refine lv_aload_n hx hb dX7_operand_309 rfl (lv_at hl 3 rfl) ?_
                            refine lv_aload_n hx hb dX7_operand_310 rfl (lv_at hl 3 rfl) ?_
                            refine gM_X7_pc hx hb hT hown hK hP (hT _ tF_X7_47) dX7_operand_311 ?_
                            obtain ⟨r10, S21, h24, hs⟩ := bd_e hs
                            refine kX7_indexed C tM_X7_138 ⟨Nat.le_of_ble_eq_true rfl, Nat.le_of_ble_eq_true rfl⟩ ⟨Nat.le_of_ble_eq_true rfl, Nat.le_of_ble_eq_true rfl⟩ hK hP hS hl.1 (rest := [.ref (ad 0)]) (Nat.le_of_ble_eq_true rfl) dX7_operand_314 h24 (fun H locs hP hS => ?_)
                            obtain ⟨S22, h25, hs⟩ := lt_e hs
                            refine pM_X7_address hx hb hT hown hK hP hS (hT _ tF_X7_135) dX7_operand_317 (v := r10) h25 (fun H locs hP hS => ?_)
                            refine lv_goto (tgt := 338) hx hb dX7_operand_320 (by decide) ?_
                            exact u_vret hx hb hr hlocks hP hS hs dX7_operand_338
                      · have hs := if_t c19 hs
                        refine lv_iload hx hb dX7_operand_269 (lv_at hl 1 rfl) ?_
                        refine lv_iconst (v := 2) hx hb dX7_operand_271 (by decide) ?_
                        refine lv_icmp_ne (tgt := 296) hx hb dX7_operand_272 (by decide) (fun c24 => ?_) (fun c24 => ?_)
                        · have hs := if_f c24 hs
                          refine lv_iload_n hx hb dX7_operand_296 rfl (lv_at hl 2 rfl) ?_
                          refine lv_bipush (v := 7) hx hb dX7_operand_297 (by decide) ?_
                          refine lv_icmp_ne (tgt := 323) hx hb dX7_operand_299 (by decide) (fun c25 => ?_) (fun c25 => ?_)
                          · have hs := if_f c25 hs
                            refine lv_iload_n hx hb dX7_operand_323 rfl (lv_at hl 2 rfl) ?_
                            refine lv_bipush (v := 7) hx hb dX7_operand_324 (by decide) ?_
                            refine lv_icmp_ne (tgt := 338) hx hb dX7_operand_326 (by decide) (fun c26 => ?_) (fun c26 => ?_)
                            · have hs := if_f c26 hs
                              exact u_vret hx hb hr hlocks hP hS hs dX7_operand_338
                            · have hs := if_t c26 hs
                              refine lv_aload_n hx hb dX7_operand_329 rfl (lv_at hl 3 rfl) ?_
                              refine lv_aload_n hx hb dX7_operand_330 rfl (lv_at hl 3 rfl) ?_
                              refine lv_iload_n hx hb dX7_operand_331 rfl (lv_at hl 4 rfl) ?_
                              obtain ⟨r11, S23, h26, hs⟩ := bd_e hs
                              refine kX7_immediate C tM_X7_141 ⟨Nat.le_of_ble_eq_true rfl, Nat.le_of_ble_eq_true rfl⟩ ⟨Nat.le_of_ble_eq_true rfl, Nat.le_of_ble_eq_true rfl⟩ hK hP hS hl.1 (rest := [.ref (ad 0)]) (Nat.le_of_ble_eq_true rfl) dX7_operand_332 h26 (fun H locs hP hS => ?_)
                              obtain ⟨S24, h27, hs⟩ := lt_e hs
                              refine pM_X7_number hx hb hT hown hK hP hS (hT _ tF_X7_129) dX7_operand_335 (v := r11) h27 (fun H locs hP hS => ?_)
                              exact u_vret hx hb hr hlocks hP hS hs dX7_operand_338
                          · have hs := if_t c25 hs
                            refine lv_iload hx hb dX7_operand_302 (lv_at hl 1 rfl) ?_
                            refine lv_iconst (v := 3) hx hb dX7_operand_304 (by decide) ?_
                            refine lv_icmp_ne (tgt := 323) hx hb dX7_operand_305 (by decide) (fun c27 => ?_) (fun c27 => ?_)
                            · have hs := if_f c27 hs
                              refine lv_iload_n hx hb dX7_operand_323 rfl (lv_at hl 2 rfl) ?_
                              refine lv_bipush (v := 7) hx hb dX7_operand_324 (by decide) ?_
                              refine lv_icmp_ne (tgt := 338) hx hb dX7_operand_326 (by decide) (fun c28 => ?_) (fun c28 => ?_)
                              · have hs := if_f c28 hs
                                exact u_vret hx hb hr hlocks hP hS hs dX7_operand_338
                              · have hs := if_t c28 hs
                                refine lv_aload_n hx hb dX7_operand_329 rfl (lv_at hl 3 rfl) ?_
                                refine lv_aload_n hx hb dX7_operand_330 rfl (lv_at hl 3 rfl) ?_
                                refine lv_iload_n hx hb dX7_operand_331 rfl (lv_at hl 4 rfl) ?_
                                obtain ⟨r12, S25, h28, hs⟩ := bd_e hs
                                refine kX7_immediate C tM_X7_141 ⟨Nat.le_of_ble_eq_true rfl, Nat.le_of_ble_eq_true rfl⟩ ⟨Nat.le_of_ble_eq_true rfl, Nat.le_of_ble_eq_true rfl⟩ hK hP hS hl.1 (rest := [.ref (ad 0)]) (Nat.le_of_ble_eq_true rfl) dX7_operand_332 h28 (fun H locs hP hS => ?_)
                                obtain ⟨S26, h29, hs⟩ := lt_e hs
                                refine pM_X7_number hx hb hT hown hK hP hS (hT _ tF_X7_129) dX7_operand_335 (v := r12) h29 (fun H locs hP hS => ?_)
                                exact u_vret hx hb hr hlocks hP hS hs dX7_operand_338
                            · have hs := if_t c27 hs
                              refine lv_aload_n hx hb dX7_operand_308 rfl (lv_at hl 3 rfl) ?_
                              refine lv_aload_n hx hb dX7_operand_309 rfl (lv_at hl 3 rfl) ?_
                              refine lv_aload_n hx hb dX7_operand_310 rfl (lv_at hl 3 rfl) ?_
                              refine gM_X7_pc hx hb hT hown hK hP (hT _ tF_X7_47) dX7_operand_311 ?_
                              obtain ⟨r13, S27, h30, hs⟩ := bd_e hs
                              refine kX7_indexed C tM_X7_138 ⟨Nat.le_of_ble_eq_true rfl, Nat.le_of_ble_eq_true rfl⟩ ⟨Nat.le_of_ble_eq_true rfl, Nat.le_of_ble_eq_true rfl⟩ hK hP hS hl.1 (rest := [.ref (ad 0)]) (Nat.le_of_ble_eq_true rfl) dX7_operand_314 h30 (fun H locs hP hS => ?_)
                              obtain ⟨S28, h31, hs⟩ := lt_e hs
                              refine pM_X7_address hx hb hT hown hK hP hS (hT _ tF_X7_135) dX7_operand_317 (v := r13) h31 (fun H locs hP hS => ?_)
                              refine lv_goto (tgt := 338) hx hb dX7_operand_320 (by decide) ?_
                              exact u_vret hx hb hr hlocks hP hS hs dX7_operand_338
                        · have hs := if_t c24 hs
                          refine lv_aload_n hx hb dX7_operand_275 rfl (lv_at hl 3 rfl) ?_
                          refine gM_X7_pc hx hb hT hown hK hP (hT _ tF_X7_47) dX7_operand_276 ?_
                          obtain ⟨v6, h32, hs⟩ := lt_e hs
                          refine u_top h32 ?_
                          refine lv_istore (lv' := [(6, .int v6), (5, .int v4), (4, .int v2), (3, .int v1), (0, .ref (ad 0)), (2, .int x2)]) hx hb dX7_operand_279 hl (by decide) rfl (fun ls hl => ?_)
                          refine lv_aload_n hx hb dX7_operand_281 rfl (lv_at hl 4 rfl) ?_
                          refine lv_iload hx hb dX7_operand_282 (lv_at hl 0 rfl) ?_
                          refine lv_aload_n hx hb dX7_operand_284 rfl (lv_at hl 4 rfl) ?_
                          obtain ⟨r14, S29, h33, hs⟩ := bd_e hs
                          refine kX7_extension C tM_X7_125 ⟨Nat.le_of_ble_eq_true rfl, Nat.le_of_ble_eq_true rfl⟩ ⟨Nat.le_of_ble_eq_true rfl, Nat.le_of_ble_eq_true rfl⟩ hK hP hS hl.1 (rest := [.int v6, .ref (ad 0)]) (Nat.le_of_ble_eq_true rfl) dX7_operand_285 h33 (fun H locs hP hS => ?_)
                          refine lv_i2s (v := (r14.toInt16.toInt32)) hx hb dX7_operand_288 rfl ?_
                          refine lv_iadd hx hb dX7_operand_289 ?_
                          obtain ⟨S30, h34, hs⟩ := lt_e hs
                          refine pM_X7_address hx hb hT hown hK hP hS (hT _ tF_X7_135) dX7_operand_290 (v := (v6 + (r14.toInt16.toInt32))) h34 (fun H locs hP hS => ?_)
                          refine lv_goto (tgt := 338) hx hb dX7_operand_293 (by decide) ?_
                          exact u_vret hx hb hr hlocks hP hS hs dX7_operand_338
                    · have hs := if_t c18 hs
                      refine lv_aload_n hx hb dX7_operand_240 rfl (lv_at hl 3 rfl) ?_
                      obtain ⟨r15, S31, h35, hs⟩ := bd_e hs
                      refine kX7_extension C tM_X7_125 ⟨Nat.le_of_ble_eq_true rfl, Nat.le_of_ble_eq_true rfl⟩ ⟨Nat.le_of_ble_eq_true rfl, Nat.le_of_ble_eq_true rfl⟩ hK hP hS hl.1 (rest := []) (Nat.le_of_ble_eq_true rfl) dX7_operand_241 h35 (fun H locs hP hS => ?_)
                      refine lv_istore (lv' := [(6, .int r15), (5, .int v4), (4, .int v2), (3, .int v1), (0, .ref (ad 0)), (2, .int x2)]) hx hb dX7_operand_244 hl (by decide) rfl (fun ls hl => ?_)
                      refine lv_aload_n hx hb dX7_operand_246 rfl (lv_at hl 4 rfl) ?_
                      refine lv_iload hx hb dX7_operand_247 (lv_at hl 0 rfl) ?_
                      refine lv_bipush (v := 16) hx hb dX7_operand_249 (by decide) ?_
                      refine lv_ishl hx hb dX7_operand_251 ?_
                      refine lv_aload_n hx hb dX7_operand_252 rfl (lv_at hl 4 rfl) ?_
                      obtain ⟨r16, S32, h36, hs⟩ := bd_e hs
                      refine kX7_extension C tM_X7_125 ⟨Nat.le_of_ble_eq_true rfl, Nat.le_of_ble_eq_true rfl⟩ ⟨Nat.le_of_ble_eq_true rfl, Nat.le_of_ble_eq_true rfl⟩ hK hP hS hl.1 (rest := [.int (r15 <<< ((16 : Int32) &&& 31)), .ref (ad 0)]) (Nat.le_of_ble_eq_true rfl) dX7_operand_253 h36 (fun H locs hP hS => ?_)
                      refine lv_ior hx hb dX7_operand_256 ?_
                      obtain ⟨S33, h37, hs⟩ := lt_e hs
                      refine pM_X7_address hx hb hT hown hK hP hS (hT _ tF_X7_135) dX7_operand_257 (v := ((r15 <<< ((16 : Int32) &&& 31)) ||| r16)) h37 (fun H locs hP hS => ?_)
                      refine lv_goto (tgt := 338) hx hb dX7_operand_260 (by decide) ?_
                      exact u_vret hx hb hr hlocks hP hS hs dX7_operand_338
                · have hs := if_t c6 hs
                  refine lv_iload hx hb dX7_operand_211 (lv_at hl 1 rfl) ?_
                  refine lv_if_ne (tgt := 228) hx hb dX7_operand_213 (by decide) (fun c29 => ?_) (fun c29 => ?_)
                  · have hs := if_f c29 hs
                    refine lv_iload_n hx hb dX7_operand_228 rfl (lv_at hl 2 rfl) ?_
                    refine lv_bipush (v := 7) hx hb dX7_operand_229 (by decide) ?_
                    refine lv_icmp_ne (tgt := 263) hx hb dX7_operand_231 (by decide) (fun c30 => ?_) (fun c30 => ?_)
                    · have hs := if_f c30 hs
                      refine lv_iload_n hx hb dX7_operand_263 rfl (lv_at hl 2 rfl) ?_
                      refine lv_bipush (v := 7) hx hb dX7_operand_264 (by decide) ?_
                      refine lv_icmp_ne (tgt := 296) hx hb dX7_operand_266 (by decide) (fun c31 => ?_) (fun c31 => ?_)
                      · have hs := if_f c31 hs
                        refine lv_iload_n hx hb dX7_operand_296 rfl (lv_at hl 2 rfl) ?_
                        refine lv_bipush (v := 7) hx hb dX7_operand_297 (by decide) ?_
                        refine lv_icmp_ne (tgt := 323) hx hb dX7_operand_299 (by decide) (fun c32 => ?_) (fun c32 => ?_)
                        · have hs := if_f c32 hs
                          refine lv_iload_n hx hb dX7_operand_323 rfl (lv_at hl 2 rfl) ?_
                          refine lv_bipush (v := 7) hx hb dX7_operand_324 (by decide) ?_
                          refine lv_icmp_ne (tgt := 338) hx hb dX7_operand_326 (by decide) (fun c33 => ?_) (fun c33 => ?_)
                          · have hs := if_f c33 hs
                            exact u_vret hx hb hr hlocks hP hS hs dX7_operand_338
                          · have hs := if_t c33 hs
                            refine lv_aload_n hx hb dX7_operand_329 rfl (lv_at hl 3 rfl) ?_
                            refine lv_aload_n hx hb dX7_operand_330 rfl (lv_at hl 3 rfl) ?_
                            refine lv_iload_n hx hb dX7_operand_331 rfl (lv_at hl 4 rfl) ?_
                            obtain ⟨r17, S34, h38, hs⟩ := bd_e hs
                            refine kX7_immediate C tM_X7_141 ⟨Nat.le_of_ble_eq_true rfl, Nat.le_of_ble_eq_true rfl⟩ ⟨Nat.le_of_ble_eq_true rfl, Nat.le_of_ble_eq_true rfl⟩ hK hP hS hl.1 (rest := [.ref (ad 0)]) (Nat.le_of_ble_eq_true rfl) dX7_operand_332 h38 (fun H locs hP hS => ?_)
                            obtain ⟨S35, h39, hs⟩ := lt_e hs
                            refine pM_X7_number hx hb hT hown hK hP hS (hT _ tF_X7_129) dX7_operand_335 (v := r17) h39 (fun H locs hP hS => ?_)
                            exact u_vret hx hb hr hlocks hP hS hs dX7_operand_338
                        · have hs := if_t c32 hs
                          refine lv_iload hx hb dX7_operand_302 (lv_at hl 1 rfl) ?_
                          refine lv_iconst (v := 3) hx hb dX7_operand_304 (by decide) ?_
                          refine lv_icmp_ne (tgt := 323) hx hb dX7_operand_305 (by decide) (fun c34 => ?_) (fun c34 => ?_)
                          · have hs := if_f c34 hs
                            refine lv_iload_n hx hb dX7_operand_323 rfl (lv_at hl 2 rfl) ?_
                            refine lv_bipush (v := 7) hx hb dX7_operand_324 (by decide) ?_
                            refine lv_icmp_ne (tgt := 338) hx hb dX7_operand_326 (by decide) (fun c35 => ?_) (fun c35 => ?_)
                            · have hs := if_f c35 hs
                              exact u_vret hx hb hr hlocks hP hS hs dX7_operand_338
                            · have hs := if_t c35 hs
                              refine lv_aload_n hx hb dX7_operand_329 rfl (lv_at hl 3 rfl) ?_
                              refine lv_aload_n hx hb dX7_operand_330 rfl (lv_at hl 3 rfl) ?_
                              refine lv_iload_n hx hb dX7_operand_331 rfl (lv_at hl 4 rfl) ?_
                              obtain ⟨r18, S36, h40, hs⟩ := bd_e hs
                              refine kX7_immediate C tM_X7_141 ⟨Nat.le_of_ble_eq_true rfl, Nat.le_of_ble_eq_true rfl⟩ ⟨Nat.le_of_ble_eq_true rfl, Nat.le_of_ble_eq_true rfl⟩ hK hP hS hl.1 (rest := [.ref (ad 0)]) (Nat.le_of_ble_eq_true rfl) dX7_operand_332 h40 (fun H locs hP hS => ?_)
                              obtain ⟨S37, h41, hs⟩ := lt_e hs
                              refine pM_X7_number hx hb hT hown hK hP hS (hT _ tF_X7_129) dX7_operand_335 (v := r18) h41 (fun H locs hP hS => ?_)
                              exact u_vret hx hb hr hlocks hP hS hs dX7_operand_338
                          · have hs := if_t c34 hs
                            refine lv_aload_n hx hb dX7_operand_308 rfl (lv_at hl 3 rfl) ?_
                            refine lv_aload_n hx hb dX7_operand_309 rfl (lv_at hl 3 rfl) ?_
                            refine lv_aload_n hx hb dX7_operand_310 rfl (lv_at hl 3 rfl) ?_
                            refine gM_X7_pc hx hb hT hown hK hP (hT _ tF_X7_47) dX7_operand_311 ?_
                            obtain ⟨r19, S38, h42, hs⟩ := bd_e hs
                            refine kX7_indexed C tM_X7_138 ⟨Nat.le_of_ble_eq_true rfl, Nat.le_of_ble_eq_true rfl⟩ ⟨Nat.le_of_ble_eq_true rfl, Nat.le_of_ble_eq_true rfl⟩ hK hP hS hl.1 (rest := [.ref (ad 0)]) (Nat.le_of_ble_eq_true rfl) dX7_operand_314 h42 (fun H locs hP hS => ?_)
                            obtain ⟨S39, h43, hs⟩ := lt_e hs
                            refine pM_X7_address hx hb hT hown hK hP hS (hT _ tF_X7_135) dX7_operand_317 (v := r19) h43 (fun H locs hP hS => ?_)
                            refine lv_goto (tgt := 338) hx hb dX7_operand_320 (by decide) ?_
                            exact u_vret hx hb hr hlocks hP hS hs dX7_operand_338
                      · have hs := if_t c31 hs
                        refine lv_iload hx hb dX7_operand_269 (lv_at hl 1 rfl) ?_
                        refine lv_iconst (v := 2) hx hb dX7_operand_271 (by decide) ?_
                        refine lv_icmp_ne (tgt := 296) hx hb dX7_operand_272 (by decide) (fun c36 => ?_) (fun c36 => ?_)
                        · have hs := if_f c36 hs
                          refine lv_iload_n hx hb dX7_operand_296 rfl (lv_at hl 2 rfl) ?_
                          refine lv_bipush (v := 7) hx hb dX7_operand_297 (by decide) ?_
                          refine lv_icmp_ne (tgt := 323) hx hb dX7_operand_299 (by decide) (fun c37 => ?_) (fun c37 => ?_)
                          · have hs := if_f c37 hs
                            refine lv_iload_n hx hb dX7_operand_323 rfl (lv_at hl 2 rfl) ?_
                            refine lv_bipush (v := 7) hx hb dX7_operand_324 (by decide) ?_
                            refine lv_icmp_ne (tgt := 338) hx hb dX7_operand_326 (by decide) (fun c38 => ?_) (fun c38 => ?_)
                            · have hs := if_f c38 hs
                              exact u_vret hx hb hr hlocks hP hS hs dX7_operand_338
                            · have hs := if_t c38 hs
                              refine lv_aload_n hx hb dX7_operand_329 rfl (lv_at hl 3 rfl) ?_
                              refine lv_aload_n hx hb dX7_operand_330 rfl (lv_at hl 3 rfl) ?_
                              refine lv_iload_n hx hb dX7_operand_331 rfl (lv_at hl 4 rfl) ?_
                              obtain ⟨r20, S40, h44, hs⟩ := bd_e hs
                              refine kX7_immediate C tM_X7_141 ⟨Nat.le_of_ble_eq_true rfl, Nat.le_of_ble_eq_true rfl⟩ ⟨Nat.le_of_ble_eq_true rfl, Nat.le_of_ble_eq_true rfl⟩ hK hP hS hl.1 (rest := [.ref (ad 0)]) (Nat.le_of_ble_eq_true rfl) dX7_operand_332 h44 (fun H locs hP hS => ?_)
                              obtain ⟨S41, h45, hs⟩ := lt_e hs
                              refine pM_X7_number hx hb hT hown hK hP hS (hT _ tF_X7_129) dX7_operand_335 (v := r20) h45 (fun H locs hP hS => ?_)
                              exact u_vret hx hb hr hlocks hP hS hs dX7_operand_338
                          · have hs := if_t c37 hs
                            refine lv_iload hx hb dX7_operand_302 (lv_at hl 1 rfl) ?_
                            refine lv_iconst (v := 3) hx hb dX7_operand_304 (by decide) ?_
                            refine lv_icmp_ne (tgt := 323) hx hb dX7_operand_305 (by decide) (fun c39 => ?_) (fun c39 => ?_)
                            · have hs := if_f c39 hs
                              refine lv_iload_n hx hb dX7_operand_323 rfl (lv_at hl 2 rfl) ?_
                              refine lv_bipush (v := 7) hx hb dX7_operand_324 (by decide) ?_
                              refine lv_icmp_ne (tgt := 338) hx hb dX7_operand_326 (by decide) (fun c40 => ?_) (fun c40 => ?_)
                              · have hs := if_f c40 hs
                                exact u_vret hx hb hr hlocks hP hS hs dX7_operand_338
                              · have hs := if_t c40 hs
                                refine lv_aload_n hx hb dX7_operand_329 rfl (lv_at hl 3 rfl) ?_
                                refine lv_aload_n hx hb dX7_operand_330 rfl (lv_at hl 3 rfl) ?_
                                refine lv_iload_n hx hb dX7_operand_331 rfl (lv_at hl 4 rfl) ?_
                                obtain ⟨r21, S42, h46, hs⟩ := bd_e hs
                                refine kX7_immediate C tM_X7_141 ⟨Nat.le_of_ble_eq_true rfl, Nat.le_of_ble_eq_true rfl⟩ ⟨Nat.le_of_ble_eq_true rfl, Nat.le_of_ble_eq_true rfl⟩ hK hP hS hl.1 (rest := [.ref (ad 0)]) (Nat.le_of_ble_eq_true rfl) dX7_operand_332 h46 (fun H locs hP hS => ?_)
                                obtain ⟨S43, h47, hs⟩ := lt_e hs
                                refine pM_X7_number hx hb hT hown hK hP hS (hT _ tF_X7_129) dX7_operand_335 (v := r21) h47 (fun H locs hP hS => ?_)
                                exact u_vret hx hb hr hlocks hP hS hs dX7_operand_338
                            · have hs := if_t c39 hs
                              refine lv_aload_n hx hb dX7_operand_308 rfl (lv_at hl 3 rfl) ?_
                              refine lv_aload_n hx hb dX7_operand_309 rfl (lv_at hl 3 rfl) ?_
                              refine lv_aload_n hx hb dX7_operand_310 rfl (lv_at hl 3 rfl) ?_
                              refine gM_X7_pc hx hb hT hown hK hP (hT _ tF_X7_47) dX7_operand_311 ?_
                              obtain ⟨r22, S44, h48, hs⟩ := bd_e hs
                              refine kX7_indexed C tM_X7_138 ⟨Nat.le_of_ble_eq_true rfl, Nat.le_of_ble_eq_true rfl⟩ ⟨Nat.le_of_ble_eq_true rfl, Nat.le_of_ble_eq_true rfl⟩ hK hP hS hl.1 (rest := [.ref (ad 0)]) (Nat.le_of_ble_eq_true rfl) dX7_operand_314 h48 (fun H locs hP hS => ?_)
                              obtain ⟨S45, h49, hs⟩ := lt_e hs
                              refine pM_X7_address hx hb hT hown hK hP hS (hT _ tF_X7_135) dX7_operand_317 (v := r22) h49 (fun H locs hP hS => ?_)
                              refine lv_goto (tgt := 338) hx hb dX7_operand_320 (by decide) ?_
                              exact u_vret hx hb hr hlocks hP hS hs dX7_operand_338
                        · have hs := if_t c36 hs
                          refine lv_aload_n hx hb dX7_operand_275 rfl (lv_at hl 3 rfl) ?_
                          refine gM_X7_pc hx hb hT hown hK hP (hT _ tF_X7_47) dX7_operand_276 ?_
                          obtain ⟨v7, h50, hs⟩ := lt_e hs
                          refine u_top h50 ?_
                          refine lv_istore (lv' := [(6, .int v7), (5, .int v4), (4, .int v2), (3, .int v1), (0, .ref (ad 0)), (2, .int x2)]) hx hb dX7_operand_279 hl (by decide) rfl (fun ls hl => ?_)
                          refine lv_aload_n hx hb dX7_operand_281 rfl (lv_at hl 4 rfl) ?_
                          refine lv_iload hx hb dX7_operand_282 (lv_at hl 0 rfl) ?_
                          refine lv_aload_n hx hb dX7_operand_284 rfl (lv_at hl 4 rfl) ?_
                          obtain ⟨r23, S46, h51, hs⟩ := bd_e hs
                          refine kX7_extension C tM_X7_125 ⟨Nat.le_of_ble_eq_true rfl, Nat.le_of_ble_eq_true rfl⟩ ⟨Nat.le_of_ble_eq_true rfl, Nat.le_of_ble_eq_true rfl⟩ hK hP hS hl.1 (rest := [.int v7, .ref (ad 0)]) (Nat.le_of_ble_eq_true rfl) dX7_operand_285 h51 (fun H locs hP hS => ?_)
                          refine lv_i2s (v := (r23.toInt16.toInt32)) hx hb dX7_operand_288 rfl ?_
                          refine lv_iadd hx hb dX7_operand_289 ?_
                          obtain ⟨S47, h52, hs⟩ := lt_e hs
                          refine pM_X7_address hx hb hT hown hK hP hS (hT _ tF_X7_135) dX7_operand_290 (v := (v7 + (r23.toInt16.toInt32))) h52 (fun H locs hP hS => ?_)
                          refine lv_goto (tgt := 338) hx hb dX7_operand_293 (by decide) ?_
                          exact u_vret hx hb hr hlocks hP hS hs dX7_operand_338
                    · have hs := if_t c30 hs
                      refine lv_iload hx hb dX7_operand_234 (lv_at hl 1 rfl) ?_
                      refine lv_iconst (v := 1) hx hb dX7_operand_236 (by decide) ?_
                      refine lv_icmp_ne (tgt := 263) hx hb dX7_operand_237 (by decide) (fun c41 => ?_) (fun c41 => ?_)
                      · have hs := if_f c41 hs
                        refine lv_iload_n hx hb dX7_operand_263 rfl (lv_at hl 2 rfl) ?_
                        refine lv_bipush (v := 7) hx hb dX7_operand_264 (by decide) ?_
                        refine lv_icmp_ne (tgt := 296) hx hb dX7_operand_266 (by decide) (fun c42 => ?_) (fun c42 => ?_)
                        · have hs := if_f c42 hs
                          refine lv_iload_n hx hb dX7_operand_296 rfl (lv_at hl 2 rfl) ?_
                          refine lv_bipush (v := 7) hx hb dX7_operand_297 (by decide) ?_
                          refine lv_icmp_ne (tgt := 323) hx hb dX7_operand_299 (by decide) (fun c43 => ?_) (fun c43 => ?_)
                          · have hs := if_f c43 hs
                            refine lv_iload_n hx hb dX7_operand_323 rfl (lv_at hl 2 rfl) ?_
                            refine lv_bipush (v := 7) hx hb dX7_operand_324 (by decide) ?_
                            refine lv_icmp_ne (tgt := 338) hx hb dX7_operand_326 (by decide) (fun c44 => ?_) (fun c44 => ?_)
                            · have hs := if_f c44 hs
                              exact u_vret hx hb hr hlocks hP hS hs dX7_operand_338
                            · have hs := if_t c44 hs
                              refine lv_aload_n hx hb dX7_operand_329 rfl (lv_at hl 3 rfl) ?_
                              refine lv_aload_n hx hb dX7_operand_330 rfl (lv_at hl 3 rfl) ?_
                              refine lv_iload_n hx hb dX7_operand_331 rfl (lv_at hl 4 rfl) ?_
                              obtain ⟨r24, S48, h53, hs⟩ := bd_e hs
                              refine kX7_immediate C tM_X7_141 ⟨Nat.le_of_ble_eq_true rfl, Nat.le_of_ble_eq_true rfl⟩ ⟨Nat.le_of_ble_eq_true rfl, Nat.le_of_ble_eq_true rfl⟩ hK hP hS hl.1 (rest := [.ref (ad 0)]) (Nat.le_of_ble_eq_true rfl) dX7_operand_332 h53 (fun H locs hP hS => ?_)
                              obtain ⟨S49, h54, hs⟩ := lt_e hs
                              refine pM_X7_number hx hb hT hown hK hP hS (hT _ tF_X7_129) dX7_operand_335 (v := r24) h54 (fun H locs hP hS => ?_)
                              exact u_vret hx hb hr hlocks hP hS hs dX7_operand_338
                          · have hs := if_t c43 hs
                            refine lv_iload hx hb dX7_operand_302 (lv_at hl 1 rfl) ?_
                            refine lv_iconst (v := 3) hx hb dX7_operand_304 (by decide) ?_
                            refine lv_icmp_ne (tgt := 323) hx hb dX7_operand_305 (by decide) (fun c45 => ?_) (fun c45 => ?_)
                            · have hs := if_f c45 hs
                              refine lv_iload_n hx hb dX7_operand_323 rfl (lv_at hl 2 rfl) ?_
                              refine lv_bipush (v := 7) hx hb dX7_operand_324 (by decide) ?_
                              refine lv_icmp_ne (tgt := 338) hx hb dX7_operand_326 (by decide) (fun c46 => ?_) (fun c46 => ?_)
                              · have hs := if_f c46 hs
                                exact u_vret hx hb hr hlocks hP hS hs dX7_operand_338
                              · have hs := if_t c46 hs
                                refine lv_aload_n hx hb dX7_operand_329 rfl (lv_at hl 3 rfl) ?_
                                refine lv_aload_n hx hb dX7_operand_330 rfl (lv_at hl 3 rfl) ?_
                                refine lv_iload_n hx hb dX7_operand_331 rfl (lv_at hl 4 rfl) ?_
                                obtain ⟨r25, S50, h55, hs⟩ := bd_e hs
                                refine kX7_immediate C tM_X7_141 ⟨Nat.le_of_ble_eq_true rfl, Nat.le_of_ble_eq_true rfl⟩ ⟨Nat.le_of_ble_eq_true rfl, Nat.le_of_ble_eq_true rfl⟩ hK hP hS hl.1 (rest := [.ref (ad 0)]) (Nat.le_of_ble_eq_true rfl) dX7_operand_332 h55 (fun H locs hP hS => ?_)
                                obtain ⟨S51, h56, hs⟩ := lt_e hs
                                refine pM_X7_number hx hb hT hown hK hP hS (hT _ tF_X7_129) dX7_operand_335 (v := r25) h56 (fun H locs hP hS => ?_)
                                exact u_vret hx hb hr hlocks hP hS hs dX7_operand_338
                            · have hs := if_t c45 hs
                              refine lv_aload_n hx hb dX7_operand_308 rfl (lv_at hl 3 rfl) ?_
                              refine lv_aload_n hx hb dX7_operand_309 rfl (lv_at hl 3 rfl) ?_
                              refine lv_aload_n hx hb dX7_operand_310 rfl (lv_at hl 3 rfl) ?_
                              refine gM_X7_pc hx hb hT hown hK hP (hT _ tF_X7_47) dX7_operand_311 ?_
                              obtain ⟨r26, S52, h57, hs⟩ := bd_e hs
                              refine kX7_indexed C tM_X7_138 ⟨Nat.le_of_ble_eq_true rfl, Nat.le_of_ble_eq_true rfl⟩ ⟨Nat.le_of_ble_eq_true rfl, Nat.le_of_ble_eq_true rfl⟩ hK hP hS hl.1 (rest := [.ref (ad 0)]) (Nat.le_of_ble_eq_true rfl) dX7_operand_314 h57 (fun H locs hP hS => ?_)
                              obtain ⟨S53, h58, hs⟩ := lt_e hs
                              refine pM_X7_address hx hb hT hown hK hP hS (hT _ tF_X7_135) dX7_operand_317 (v := r26) h58 (fun H locs hP hS => ?_)
                              refine lv_goto (tgt := 338) hx hb dX7_operand_320 (by decide) ?_
                              exact u_vret hx hb hr hlocks hP hS hs dX7_operand_338
                        · have hs := if_t c42 hs
                          refine lv_iload hx hb dX7_operand_269 (lv_at hl 1 rfl) ?_
                          refine lv_iconst (v := 2) hx hb dX7_operand_271 (by decide) ?_
                          refine lv_icmp_ne (tgt := 296) hx hb dX7_operand_272 (by decide) (fun c47 => ?_) (fun c47 => ?_)
                          · have hs := if_f c47 hs
                            refine lv_iload_n hx hb dX7_operand_296 rfl (lv_at hl 2 rfl) ?_
                            refine lv_bipush (v := 7) hx hb dX7_operand_297 (by decide) ?_
                            refine lv_icmp_ne (tgt := 323) hx hb dX7_operand_299 (by decide) (fun c48 => ?_) (fun c48 => ?_)
                            · have hs := if_f c48 hs
                              refine lv_iload_n hx hb dX7_operand_323 rfl (lv_at hl 2 rfl) ?_
                              refine lv_bipush (v := 7) hx hb dX7_operand_324 (by decide) ?_
                              refine lv_icmp_ne (tgt := 338) hx hb dX7_operand_326 (by decide) (fun c49 => ?_) (fun c49 => ?_)
                              · have hs := if_f c49 hs
                                exact u_vret hx hb hr hlocks hP hS hs dX7_operand_338
                              · have hs := if_t c49 hs
                                refine lv_aload_n hx hb dX7_operand_329 rfl (lv_at hl 3 rfl) ?_
                                refine lv_aload_n hx hb dX7_operand_330 rfl (lv_at hl 3 rfl) ?_
                                refine lv_iload_n hx hb dX7_operand_331 rfl (lv_at hl 4 rfl) ?_
                                obtain ⟨r27, S54, h59, hs⟩ := bd_e hs
                                refine kX7_immediate C tM_X7_141 ⟨Nat.le_of_ble_eq_true rfl, Nat.le_of_ble_eq_true rfl⟩ ⟨Nat.le_of_ble_eq_true rfl, Nat.le_of_ble_eq_true rfl⟩ hK hP hS hl.1 (rest := [.ref (ad 0)]) (Nat.le_of_ble_eq_true rfl) dX7_operand_332 h59 (fun H locs hP hS => ?_)
                                obtain ⟨S55, h60, hs⟩ := lt_e hs
                                refine pM_X7_number hx hb hT hown hK hP hS (hT _ tF_X7_129) dX7_operand_335 (v := r27) h60 (fun H locs hP hS => ?_)
                                exact u_vret hx hb hr hlocks hP hS hs dX7_operand_338
                            · have hs := if_t c48 hs
                              refine lv_iload hx hb dX7_operand_302 (lv_at hl 1 rfl) ?_
                              refine lv_iconst (v := 3) hx hb dX7_operand_304 (by decide) ?_
                              refine lv_icmp_ne (tgt := 323) hx hb dX7_operand_305 (by decide) (fun c50 => ?_) (fun c50 => ?_)
                              · have hs := if_f c50 hs
                                refine lv_iload_n hx hb dX7_operand_323 rfl (lv_at hl 2 rfl) ?_
                                refine lv_bipush (v := 7) hx hb dX7_operand_324 (by decide) ?_
                                refine lv_icmp_ne (tgt := 338) hx hb dX7_operand_326 (by decide) (fun c51 => ?_) (fun c51 => ?_)
                                · have hs := if_f c51 hs
                                  exact u_vret hx hb hr hlocks hP hS hs dX7_operand_338
                                · have hs := if_t c51 hs
                                  refine lv_aload_n hx hb dX7_operand_329 rfl (lv_at hl 3 rfl) ?_
                                  refine lv_aload_n hx hb dX7_operand_330 rfl (lv_at hl 3 rfl) ?_
                                  refine lv_iload_n hx hb dX7_operand_331 rfl (lv_at hl 4 rfl) ?_
                                  obtain ⟨r28, S56, h61, hs⟩ := bd_e hs
                                  refine kX7_immediate C tM_X7_141 ⟨Nat.le_of_ble_eq_true rfl, Nat.le_of_ble_eq_true rfl⟩ ⟨Nat.le_of_ble_eq_true rfl, Nat.le_of_ble_eq_true rfl⟩ hK hP hS hl.1 (rest := [.ref (ad 0)]) (Nat.le_of_ble_eq_true rfl) dX7_operand_332 h61 (fun H locs hP hS => ?_)
                                  obtain ⟨S57, h62, hs⟩ := lt_e hs
                                  refine pM_X7_number hx hb hT hown hK hP hS (hT _ tF_X7_129) dX7_operand_335 (v := r28) h62 (fun H locs hP hS => ?_)
                                  exact u_vret hx hb hr hlocks hP hS hs dX7_operand_338
                              · have hs := if_t c50 hs
                                refine lv_aload_n hx hb dX7_operand_308 rfl (lv_at hl 3 rfl) ?_
                                refine lv_aload_n hx hb dX7_operand_309 rfl (lv_at hl 3 rfl) ?_
                                refine lv_aload_n hx hb dX7_operand_310 rfl (lv_at hl 3 rfl) ?_
                                refine gM_X7_pc hx hb hT hown hK hP (hT _ tF_X7_47) dX7_operand_311 ?_
                                obtain ⟨r29, S58, h63, hs⟩ := bd_e hs
                                refine kX7_indexed C tM_X7_138 ⟨Nat.le_of_ble_eq_true rfl, Nat.le_of_ble_eq_true rfl⟩ ⟨Nat.le_of_ble_eq_true rfl, Nat.le_of_ble_eq_true rfl⟩ hK hP hS hl.1 (rest := [.ref (ad 0)]) (Nat.le_of_ble_eq_true rfl) dX7_operand_314 h63 (fun H locs hP hS => ?_)
                                obtain ⟨S59, h64, hs⟩ := lt_e hs
                                refine pM_X7_address hx hb hT hown hK hP hS (hT _ tF_X7_135) dX7_operand_317 (v := r29) h64 (fun H locs hP hS => ?_)
                                refine lv_goto (tgt := 338) hx hb dX7_operand_320 (by decide) ?_
                                exact u_vret hx hb hr hlocks hP hS hs dX7_operand_338
                          · have hs := if_t c47 hs
                            refine lv_aload_n hx hb dX7_operand_275 rfl (lv_at hl 3 rfl) ?_
                            refine gM_X7_pc hx hb hT hown hK hP (hT _ tF_X7_47) dX7_operand_276 ?_
                            obtain ⟨v8, h65, hs⟩ := lt_e hs
                            refine u_top h65 ?_
                            refine lv_istore (lv' := [(6, .int v8), (5, .int v4), (4, .int v2), (3, .int v1), (0, .ref (ad 0)), (2, .int x2)]) hx hb dX7_operand_279 hl (by decide) rfl (fun ls hl => ?_)
                            refine lv_aload_n hx hb dX7_operand_281 rfl (lv_at hl 4 rfl) ?_
                            refine lv_iload hx hb dX7_operand_282 (lv_at hl 0 rfl) ?_
                            refine lv_aload_n hx hb dX7_operand_284 rfl (lv_at hl 4 rfl) ?_
                            obtain ⟨r30, S60, h66, hs⟩ := bd_e hs
                            refine kX7_extension C tM_X7_125 ⟨Nat.le_of_ble_eq_true rfl, Nat.le_of_ble_eq_true rfl⟩ ⟨Nat.le_of_ble_eq_true rfl, Nat.le_of_ble_eq_true rfl⟩ hK hP hS hl.1 (rest := [.int v8, .ref (ad 0)]) (Nat.le_of_ble_eq_true rfl) dX7_operand_285 h66 (fun H locs hP hS => ?_)
                            refine lv_i2s (v := (r30.toInt16.toInt32)) hx hb dX7_operand_288 rfl ?_
                            refine lv_iadd hx hb dX7_operand_289 ?_
                            obtain ⟨S61, h67, hs⟩ := lt_e hs
                            refine pM_X7_address hx hb hT hown hK hP hS (hT _ tF_X7_135) dX7_operand_290 (v := (v8 + (r30.toInt16.toInt32))) h67 (fun H locs hP hS => ?_)
                            refine lv_goto (tgt := 338) hx hb dX7_operand_293 (by decide) ?_
                            exact u_vret hx hb hr hlocks hP hS hs dX7_operand_338
                      · have hs := if_t c41 hs
                        refine lv_aload_n hx hb dX7_operand_240 rfl (lv_at hl 3 rfl) ?_
                        obtain ⟨r31, S62, h68, hs⟩ := bd_e hs
                        refine kX7_extension C tM_X7_125 ⟨Nat.le_of_ble_eq_true rfl, Nat.le_of_ble_eq_true rfl⟩ ⟨Nat.le_of_ble_eq_true rfl, Nat.le_of_ble_eq_true rfl⟩ hK hP hS hl.1 (rest := []) (Nat.le_of_ble_eq_true rfl) dX7_operand_241 h68 (fun H locs hP hS => ?_)
                        refine lv_istore (lv' := [(6, .int r31), (5, .int v4), (4, .int v2), (3, .int v1), (0, .ref (ad 0)), (2, .int x2)]) hx hb dX7_operand_244 hl (by decide) rfl (fun ls hl => ?_)
                        refine lv_aload_n hx hb dX7_operand_246 rfl (lv_at hl 4 rfl) ?_
                        refine lv_iload hx hb dX7_operand_247 (lv_at hl 0 rfl) ?_
                        refine lv_bipush (v := 16) hx hb dX7_operand_249 (by decide) ?_
                        refine lv_ishl hx hb dX7_operand_251 ?_
                        refine lv_aload_n hx hb dX7_operand_252 rfl (lv_at hl 4 rfl) ?_
                        obtain ⟨r32, S63, h69, hs⟩ := bd_e hs
                        refine kX7_extension C tM_X7_125 ⟨Nat.le_of_ble_eq_true rfl, Nat.le_of_ble_eq_true rfl⟩ ⟨Nat.le_of_ble_eq_true rfl, Nat.le_of_ble_eq_true rfl⟩ hK hP hS hl.1 (rest := [.int (r31 <<< ((16 : Int32) &&& 31)), .ref (ad 0)]) (Nat.le_of_ble_eq_true rfl) dX7_operand_253 h69 (fun H locs hP hS => ?_)
                        refine lv_ior hx hb dX7_operand_256 ?_
                        obtain ⟨S64, h70, hs⟩ := lt_e hs
                        refine pM_X7_address hx hb hT hown hK hP hS (hT _ tF_X7_135) dX7_operand_257 (v := ((r31 <<< ((16 : Int32) &&& 31)) ||| r32)) h70 (fun H locs hP hS => ?_)
                        refine lv_goto (tgt := 338) hx hb dX7_operand_260 (by decide) ?_
                        exact u_vret hx hb hr hlocks hP hS hs dX7_operand_338
                  · have hs := if_t c29 hs
                    refine lv_aload_n hx hb dX7_operand_216 rfl (lv_at hl 3 rfl) ?_
                    refine lv_aload_n hx hb dX7_operand_217 rfl (lv_at hl 3 rfl) ?_
                    obtain ⟨r33, S65, h71, hs⟩ := bd_e hs
                    refine kX7_extension C tM_X7_125 ⟨Nat.le_of_ble_eq_true rfl, Nat.le_of_ble_eq_true rfl⟩ ⟨Nat.le_of_ble_eq_true rfl, Nat.le_of_ble_eq_true rfl⟩ hK hP hS hl.1 (rest := [.ref (ad 0)]) (Nat.le_of_ble_eq_true rfl) dX7_operand_218 h71 (fun H locs hP hS => ?_)
                    refine lv_i2s (v := (r33.toInt16.toInt32)) hx hb dX7_operand_221 rfl ?_
                    obtain ⟨S66, h72, hs⟩ := lt_e hs
                    refine pM_X7_address hx hb hT hown hK hP hS (hT _ tF_X7_135) dX7_operand_222 (v := (r33.toInt16.toInt32)) h72 (fun H locs hP hS => ?_)
                    refine lv_goto (tgt := 338) hx hb dX7_operand_225 (by decide) ?_
                    exact u_vret hx hb hr hlocks hP hS hs dX7_operand_338
              · have hs := if_t c5 hs
                refine lv_aload_n hx hb dX7_operand_188 rfl (lv_at hl 3 rfl) ?_
                refine lv_aload_n hx hb dX7_operand_189 rfl (lv_at hl 3 rfl) ?_
                refine lv_aload_n hx hb dX7_operand_190 rfl (lv_at hl 3 rfl) ?_
                refine lv_iload hx hb dX7_operand_191 (lv_at hl 1 rfl) ?_
                obtain ⟨r34, S67, h73, hs⟩ := bd_e hs
                refine kX7_getA C tM_X7_70 ⟨Nat.le_of_ble_eq_true rfl, Nat.le_of_ble_eq_true rfl⟩ ⟨Nat.le_of_ble_eq_true rfl, Nat.le_of_ble_eq_true rfl⟩ hK hP hS hl.1 (rest := [.ref (ad 0), .ref (ad 0)]) (Nat.le_of_ble_eq_true rfl) dX7_operand_193 h73 (fun H locs hP hS => ?_)
                obtain ⟨r35, S68, h74, hs⟩ := bd_e hs
                refine kX7_indexed C tM_X7_138 ⟨Nat.le_of_ble_eq_true rfl, Nat.le_of_ble_eq_true rfl⟩ ⟨Nat.le_of_ble_eq_true rfl, Nat.le_of_ble_eq_true rfl⟩ hK hP hS hl.1 (rest := [.ref (ad 0)]) (Nat.le_of_ble_eq_true rfl) dX7_operand_196 h74 (fun H locs hP hS => ?_)
                obtain ⟨S69, h75, hs⟩ := lt_e hs
                refine pM_X7_address hx hb hT hown hK hP hS (hT _ tF_X7_135) dX7_operand_199 (v := r35) h75 (fun H locs hP hS => ?_)
                refine lv_goto (tgt := 338) hx hb dX7_operand_202 (by decide) ?_
                exact u_vret hx hb hr hlocks hP hS hs dX7_operand_338
            · have hs := if_t c4 hs
              refine lv_aload_n hx hb dX7_operand_163 rfl (lv_at hl 3 rfl) ?_
              refine lv_aload_n hx hb dX7_operand_164 rfl (lv_at hl 3 rfl) ?_
              refine lv_iload hx hb dX7_operand_165 (lv_at hl 1 rfl) ?_
              obtain ⟨r36, S70, h76, hs⟩ := bd_e hs
              refine kX7_getA C tM_X7_70 ⟨Nat.le_of_ble_eq_true rfl, Nat.le_of_ble_eq_true rfl⟩ ⟨Nat.le_of_ble_eq_true rfl, Nat.le_of_ble_eq_true rfl⟩ hK hP hS hl.1 (rest := [.ref (ad 0)]) (Nat.le_of_ble_eq_true rfl) dX7_operand_167 h76 (fun H locs hP hS => ?_)
              refine lv_aload_n hx hb dX7_operand_170 rfl (lv_at hl 3 rfl) ?_
              obtain ⟨r37, S71, h77, hs⟩ := bd_e hs
              refine kX7_extension C tM_X7_125 ⟨Nat.le_of_ble_eq_true rfl, Nat.le_of_ble_eq_true rfl⟩ ⟨Nat.le_of_ble_eq_true rfl, Nat.le_of_ble_eq_true rfl⟩ hK hP hS hl.1 (rest := [.int r36, .ref (ad 0)]) (Nat.le_of_ble_eq_true rfl) dX7_operand_171 h77 (fun H locs hP hS => ?_)
              refine lv_i2s (v := (r37.toInt16.toInt32)) hx hb dX7_operand_174 rfl ?_
              refine lv_iadd hx hb dX7_operand_175 ?_
              obtain ⟨S72, h78, hs⟩ := lt_e hs
              refine pM_X7_address hx hb hT hown hK hP hS (hT _ tF_X7_135) dX7_operand_176 (v := (r36 + (r37.toInt16.toInt32))) h78 (fun H locs hP hS => ?_)
              refine lv_goto (tgt := 338) hx hb dX7_operand_179 (by decide) ?_
              exact u_vret hx hb hr hlocks hP hS hs dX7_operand_338
          · have hs := if_t c3 hs
            refine lv_aload_n hx hb dX7_operand_130 rfl (lv_at hl 3 rfl) ?_
            refine lv_iload hx hb dX7_operand_131 (lv_at hl 1 rfl) ?_
            refine lv_aload_n hx hb dX7_operand_133 rfl (lv_at hl 3 rfl) ?_
            refine lv_iload hx hb dX7_operand_134 (lv_at hl 1 rfl) ?_
            obtain ⟨r38, S73, h79, hs⟩ := bd_e hs
            refine kX7_getA C tM_X7_70 ⟨Nat.le_of_ble_eq_true rfl, Nat.le_of_ble_eq_true rfl⟩ ⟨Nat.le_of_ble_eq_true rfl, Nat.le_of_ble_eq_true rfl⟩ hK hP hS hl.1 (rest := [.int v2, .ref (ad 0)]) (Nat.le_of_ble_eq_true rfl) dX7_operand_136 h79 (fun H locs hP hS => ?_)
            refine lv_iload hx hb dX7_operand_139 (lv_at hl 0 rfl) ?_
            refine lv_isub hx hb dX7_operand_141 ?_
            obtain ⟨S74, h80, hs⟩ := bv_e hs
            refine kX7_setA C tM_X7_74 ⟨Nat.le_of_ble_eq_true rfl, Nat.le_of_ble_eq_true rfl⟩ ⟨Nat.le_of_ble_eq_true rfl, Nat.le_of_ble_eq_true rfl⟩ hK hP hS hl.1 (rest := []) (Nat.le_of_ble_eq_true rfl) dX7_operand_142 h80 (fun H locs hP hS => ?_)
            refine lv_aload_n hx hb dX7_operand_145 rfl (lv_at hl 3 rfl) ?_
            refine lv_aload_n hx hb dX7_operand_146 rfl (lv_at hl 3 rfl) ?_
            refine lv_iload hx hb dX7_operand_147 (lv_at hl 1 rfl) ?_
            obtain ⟨r39, S75, h81, hs⟩ := bd_e hs
            refine kX7_getA C tM_X7_70 ⟨Nat.le_of_ble_eq_true rfl, Nat.le_of_ble_eq_true rfl⟩ ⟨Nat.le_of_ble_eq_true rfl, Nat.le_of_ble_eq_true rfl⟩ hK hP hS hl.1 (rest := [.ref (ad 0)]) (Nat.le_of_ble_eq_true rfl) dX7_operand_149 h81 (fun H locs hP hS => ?_)
            obtain ⟨S76, h82, hs⟩ := lt_e hs
            refine pM_X7_address hx hb hT hown hK hP hS (hT _ tF_X7_135) dX7_operand_152 (v := r39) h82 (fun H locs hP hS => ?_)
            refine lv_goto (tgt := 338) hx hb dX7_operand_155 (by decide) ?_
            exact u_vret hx hb hr hlocks hP hS hs dX7_operand_338
        · have hs := if_t c2 hs
          refine lv_aload_n hx hb dX7_operand_99 rfl (lv_at hl 3 rfl) ?_
          refine lv_aload_n hx hb dX7_operand_100 rfl (lv_at hl 3 rfl) ?_
          refine lv_iload hx hb dX7_operand_101 (lv_at hl 1 rfl) ?_
          obtain ⟨r40, S77, h83, hs⟩ := bd_e hs
          refine kX7_getA C tM_X7_70 ⟨Nat.le_of_ble_eq_true rfl, Nat.le_of_ble_eq_true rfl⟩ ⟨Nat.le_of_ble_eq_true rfl, Nat.le_of_ble_eq_true rfl⟩ hK hP hS hl.1 (rest := [.ref (ad 0)]) (Nat.le_of_ble_eq_true rfl) dX7_operand_103 h83 (fun H locs hP hS => ?_)
          obtain ⟨S78, h84, hs⟩ := lt_e hs
          refine pM_X7_address hx hb hT hown hK hP hS (hT _ tF_X7_135) dX7_operand_106 (v := r40) h84 (fun H locs hP hS => ?_)
          refine lv_aload_n hx hb dX7_operand_109 rfl (lv_at hl 3 rfl) ?_
          refine lv_iload hx hb dX7_operand_110 (lv_at hl 1 rfl) ?_
          refine lv_aload_n hx hb dX7_operand_112 rfl (lv_at hl 3 rfl) ?_
          refine gM_X7_address hx hb hT hown hK hP (hT _ tF_X7_135) dX7_operand_113 ?_
          refine lv_iload hx hb dX7_operand_116 (lv_at hl 0 rfl) ?_
          refine lv_iadd hx hb dX7_operand_118 ?_
          obtain ⟨S79, h85, hs⟩ := bv_e hs
          refine kX7_setA C tM_X7_74 ⟨Nat.le_of_ble_eq_true rfl, Nat.le_of_ble_eq_true rfl⟩ ⟨Nat.le_of_ble_eq_true rfl, Nat.le_of_ble_eq_true rfl⟩ hK hP hS hl.1 (rest := []) (Nat.le_of_ble_eq_true rfl) dX7_operand_119 h85 (fun H locs hP hS => ?_)
          refine lv_goto (tgt := 338) hx hb dX7_operand_122 (by decide) ?_
          exact u_vret hx hb hr hlocks hP hS hs dX7_operand_338
      · have hs := if_t c1 hs
        refine lv_aload_n hx hb dX7_operand_81 rfl (lv_at hl 3 rfl) ?_
        refine lv_aload_n hx hb dX7_operand_82 rfl (lv_at hl 3 rfl) ?_
        refine lv_iload hx hb dX7_operand_83 (lv_at hl 1 rfl) ?_
        obtain ⟨r41, S80, h86, hs⟩ := bd_e hs
        refine kX7_getA C tM_X7_70 ⟨Nat.le_of_ble_eq_true rfl, Nat.le_of_ble_eq_true rfl⟩ ⟨Nat.le_of_ble_eq_true rfl, Nat.le_of_ble_eq_true rfl⟩ hK hP hS hl.1 (rest := [.ref (ad 0)]) (Nat.le_of_ble_eq_true rfl) dX7_operand_85 h86 (fun H locs hP hS => ?_)
        obtain ⟨S81, h87, hs⟩ := lt_e hs
        refine pM_X7_address hx hb hT hown hK hP hS (hT _ tF_X7_135) dX7_operand_88 (v := r41) h87 (fun H locs hP hS => ?_)
        refine lv_goto (tgt := 338) hx hb dX7_operand_91 (by decide) ?_
        exact u_vret hx hb hr hlocks hP hS hs dX7_operand_338
    ·
      refine lv_icmp_ne (tgt := 73) hx hb dX7_operand_59 (by decide) (fun c52 => ?_) (fun c52 => ?_)
      · have hs := if_f c52 hs
        refine lv_iload_n hx hb dX7_operand_73 rfl (lv_at hl 3 rfl) ?_
        exact J2 x2 _ _ _ (lv_sub hl [0, 1, 2, 3] rfl) hP hS hs
      · have hs := if_t c52 hs
        refine lv_iload hx hb dX7_operand_62 (lv_at hl 0 rfl) ?_
        refine lv_bipush (v := 7) hx hb dX7_operand_64 (by decide) ?_
        refine lv_icmp_ne (tgt := 73) hx hb dX7_operand_66 (by decide) (fun c53 => ?_) (fun c53 => ?_)
        · have hs := if_f c53 hs
          refine lv_iload_n hx hb dX7_operand_73 rfl (lv_at hl 3 rfl) ?_
          exact J2 x2 _ _ _ (lv_sub hl [0, 1, 2, 3] rfl) hP hS hs
        · have hs := if_t c53 hs
          refine lv_iconst (v := 2) hx hb dX7_operand_69 (by decide) ?_
          refine lv_goto (tgt := 74) hx hb dX7_operand_70 (by decide) ?_
          exact J2 2 _ _ _ (lv_sub hl [0, 1, 2, 3] rfl) hP hS hs
  ·
    refine lv_if_ne (tgt := 28) hx hb dX7_operand_21 (by decide) (fun c54 => ?_) (fun c54 => ?_)
    · have hs := if_f c54 hs
      refine lv_iload_n hx hb dX7_operand_28 rfl (lv_at hl 1 rfl) ?_
      refine lv_iconst (v := 1) hx hb dX7_operand_29 (by decide) ?_
      refine lv_icmp_ne (tgt := 37) hx hb dX7_operand_30 (by decide) (fun c55 => ?_) (fun c55 => ?_)
      · have hs := if_f c55 hs
        refine lv_iload_n hx hb dX7_operand_37 rfl (lv_at hl 1 rfl) ?_
        refine lv_bipush (v := 7) hx hb dX7_operand_38 (by decide) ?_
        refine lv_icmp_ne (tgt := 53) hx hb dX7_operand_40 (by decide) (fun c56 => ?_) (fun c56 => ?_)
        · have hs := if_f c56 hs
          refine lv_iconst (v := 2) hx hb dX7_operand_53 (by decide) ?_
          exact J1 2 _ _ _ (lv_sub hl [0, 1, 2, 4] rfl) hP hS hs
        · have hs := if_t c56 hs
          refine lv_iload hx hb dX7_operand_43 (lv_at hl 0 rfl) ?_
          refine lv_iconst (v := 4) hx hb dX7_operand_45 (by decide) ?_
          refine lv_icmp_ne (tgt := 53) hx hb dX7_operand_46 (by decide) (fun c57 => ?_) (fun c57 => ?_)
          · have hs := if_f c57 hs
            refine lv_iconst (v := 2) hx hb dX7_operand_53 (by decide) ?_
            exact J1 2 _ _ _ (lv_sub hl [0, 1, 2, 4] rfl) hP hS hs
          · have hs := if_t c57 hs
            refine lv_iconst (v := 3) hx hb dX7_operand_49 (by decide) ?_
            refine lv_goto (tgt := 54) hx hb dX7_operand_50 (by decide) ?_
            exact J1 3 _ _ _ (lv_sub hl [0, 1, 2, 4] rfl) hP hS hs
      · have hs := if_t c55 hs
        refine lv_iconst (v := 1) hx hb dX7_operand_33 (by decide) ?_
        refine lv_goto (tgt := 54) hx hb dX7_operand_34 (by decide) ?_
        exact J1 1 _ _ _ (lv_sub hl [0, 1, 2, 4] rfl) hP hS hs
    · have hs := if_t c54 hs
      refine lv_iconst (v := 0) hx hb dX7_operand_24 (by decide) ?_
      refine lv_goto (tgt := 54) hx hb dX7_operand_25 (by decide) ?_
      exact J1 0 _ _ _ (lv_sub hl [0, 1, 2, 4] rfl) hP hS hs
theorem kX7_operand {p : Program} {l : Launch} {e : Env} {R : Room} {s : State} {m : MethodId} {args : Array Value} {below : List Frame} {meth : Method} {c : Code} {H : Heap} {locs : List Loc} {cells slots : Nat} {Q : State → Prop} {cc : ByteArray} {pc nL : Nat} {ls : Array Slot} {rest : List Value} {D : va_G} {ad : Nat → Nat} {cI cB : ClassId} {en : Nat → Nat} {S : St} {own : String} {index : Nat} {x1 : Int32} {x2 : Int32} {So : St} (C : CallFix p m c cc nL s args wG own) (hlk : Cond.methodLink own index yX7_operand ∈ wG) (hR : rmX7_operand.frames + 1 ≤ R.frames ∧ 8 + (7 + 11) + rmX7_operand.locals ≤ R.locals) (hc : cells ≤ R.cells ∧ slots ≤ R.slots) (hK : KM D ad cI cB en s) (hP : va_P D vwCl (wM ad cI cB S) H) (hS : va_S (AX 11 ad s.heap.size) s.heap H locs) (hls : ls.size = nL) (hrest : (rest.map fun v => v.category).sum ≤ 8) (hd : decode cc pc = .ok (.invokevirtual index, 3)) (hs : fX7_operand x1 x2 S = some So) (k : ∀ (H : Heap) (locs : List Loc), va_P D vwCl (wM ad cI cB So) H → va_S (AX 11 ad s.heap.size) s.heap H locs → W p l e R s m args below meth c H locs cells slots Q (F0 m (pc + 3) ls (rest))) : W p l e R s m args below meth c H locs cells slots Q (F0 m pc ls (.int x2 :: .int x1 :: .ref (ad 0) :: rest)) :=
  u_callV (n := 2) (mX7_operand l D ad cI cB en S x1 x2 So hs) C uK_M (wg_V hlk tI_X7_operand tS_X7_operand tN_X7 tK_X7_operand) rfl rfl rfl (by decide +kernel) hR rfl (va_recv hK.1 hP (ci := 6) (q0 := 0) rfl rfl) hK hP hS hls hrest hd hc rfl k
def fX7_take (x1 : Int32) (S : St) : Option (Int32 × St) :=
    (jn (fun (v1 : Int32) (S1 : St) => (bd (fX7_plain v1 x1 S1) fun w1 S2 => (some ((w1.toInt32), S2)))) fun K1 =>
    (if (S.1 12) = 0 then (gd (ixo (S.1 13) 8 = true) (K1 (S.2.2 1 (S.1 13).toNatClampNeg) S))
    else (if (S.1 12) = 1 then (bd (fX7_getA (S.1 13) S) fun r2 S4 => (K1 r2 S4))
    else (if (S.1 12) = 3 then (K1 (S.1 13) S)
    else (bd (fX7_get (S.1 14) x1 S) fun r1 S3 => (K1 r1 S3))))))
abbrev rmX7_take : Room := { frames := 3, cells := 0, slots := 0, locals := 67 }
set_option maxRecDepth 100000 in
set_option maxHeartbeats 4000000 in
theorem mX7_take (l : Launch) (D : va_G) (ad : Nat → Nat) (cI cB : ClassId) (en : Nat → Nat) (S : St) (x1 : Int32) (ro : Int32) (So : St) (hs : fX7_take x1 S = some (ro, So)) : uM l yX7_take (wg yX7_take cX7_take 3 (some .int)) rmX7_take (KM D ad cI cB en) D (wM ad cI cB) (AX 11 ad) [.ref (ad 0), .int x1] S (some (.int ro), So) := by
  refine uM_start (by decide) rfl ?_
  intro p e s m below meth c hx hb hr hlocks hml hown hts hK hP
  have hT : ∀ w ∈ wG, w.before _ s = true := fun w h => hts w (List.mem_cons_of_mem _ h)
  have hS : va_S (AX 11 ad s.heap.size) s.heap s.heap [] := va_S.rf
  have hown : s.vm.findClass RX7 = some m.cls := hown
  have C : CallFix p m c cX7_take 3 s _ wG RX7 := ⟨hx, hb, hml, hown, hT⟩
  have hl := lv_entry ([.ref (ad 0), .int x1]) (n := 3) (Nat.le_of_ble_eq_true rfl)
  rw [lg_entry_eq]
  generalize (lg_sl ([.ref (ad 0), .int x1]) ++ List.replicate (3 - (lg_sl ([.ref (ad 0), .int x1])).length) Slot.unset).toArray = ls at hl ⊢
  have hl : lv_has ls 3 [(0, .ref (ad 0)), (1, .int x1)] := hl
  unfold fX7_take at hs
  refine lv_aload_n hx hb dX7_take_0 rfl (lv_at hl 0 rfl) ?_
  refine gM_X7_sort hx hb hT hown hK hP (hT _ tF_X7_132) dX7_take_1 ?_
  refine jn_e hs (fun K1 => ∀ (v1 : Int32) (S1 : St) (H : Heap) (locs : List Loc) (ls : Array Slot), lv_has ls 3 [(1, .int x1)] → va_P D vwCl (wM ad cI cB S1) H → va_S (AX 11 ad s.heap.size) s.heap H locs → K1 v1 S1 = some (ro, So) → W p l e rmX7_take s m ([.ref (ad 0), .int x1] : List Value).toArray below meth c H locs 0 0 (MQ below (uQ D (wM ad cI cB) (some (.int ro), So) (AX 11 ad s.heap.size)) ([.ref (ad 0), .int x1] : List Value).toArray s 0 0 (AX 11 ad s.heap.size)) (F0 m 62 ls [.int v1])) ?_ (fun K1 J1 hs => ?_)
  · intro v1 S1 H locs ls hl hP hS hs
    refine lv_istore_n (lv' := [(2, .int v1), (1, .int x1)]) hx hb dX7_take_62 rfl hl (by decide) rfl (fun ls hl => ?_)
    refine lv_iload_n hx hb dX7_take_63 rfl (lv_at hl 0 rfl) ?_
    refine lv_iload_n hx hb dX7_take_64 rfl (lv_at hl 1 rfl) ?_
    obtain ⟨w1, S2, h1, hs⟩ := bd_e hs
    refine kX7_plain C tM_X7_144 ⟨Nat.le_of_ble_eq_true rfl, Nat.le_of_ble_eq_true rfl⟩ ⟨Nat.le_of_ble_eq_true rfl, Nat.le_of_ble_eq_true rfl⟩ hK hP hS hl.1 (rest := []) (Nat.le_of_ble_eq_true rfl) dX7_take_65 h1 (fun H locs hP hS => ?_)
    refine lv_l2i (v := (w1.toInt32)) hx hb dX7_take_68 rfl ?_
    exact u_iret hx hb hr hlocks hP hS hs dX7_take_69
  ·
    refine lv_if_ne (tgt := 19) hx hb dX7_take_4 (by decide) (fun c1 => ?_) (fun c1 => ?_)
    · have hs := if_f c1 hs
      refine lv_aload_n hx hb dX7_take_19 rfl (lv_at hl 0 rfl) ?_
      refine gM_X7_sort hx hb hT hown hK hP (hT _ tF_X7_132) dX7_take_20 ?_
      refine lv_iconst (v := 1) hx hb dX7_take_23 (by decide) ?_
      refine lv_icmp_ne (tgt := 38) hx hb dX7_take_24 (by decide) (fun c2 => ?_) (fun c2 => ?_)
      · have hs := if_f c2 hs
        refine lv_aload_n hx hb dX7_take_38 rfl (lv_at hl 0 rfl) ?_
        refine gM_X7_sort hx hb hT hown hK hP (hT _ tF_X7_132) dX7_take_39 ?_
        refine lv_iconst (v := 3) hx hb dX7_take_42 (by decide) ?_
        refine lv_icmp_ne (tgt := 53) hx hb dX7_take_43 (by decide) (fun c3 => ?_) (fun c3 => ?_)
        · have hs := if_f c3 hs
          refine lv_aload_n hx hb dX7_take_53 rfl (lv_at hl 0 rfl) ?_
          refine lv_aload_n hx hb dX7_take_54 rfl (lv_at hl 0 rfl) ?_
          refine gM_X7_address hx hb hT hown hK hP (hT _ tF_X7_135) dX7_take_55 ?_
          refine lv_iload_n hx hb dX7_take_58 rfl (lv_at hl 1 rfl) ?_
          obtain ⟨r1, S3, h2, hs⟩ := bd_e hs
          refine kX7_get C tM_X7_116 ⟨Nat.le_of_ble_eq_true rfl, Nat.le_of_ble_eq_true rfl⟩ ⟨Nat.le_of_ble_eq_true rfl, Nat.le_of_ble_eq_true rfl⟩ hK hP hS hl.1 (rest := []) (Nat.le_of_ble_eq_true rfl) dX7_take_59 h2 (fun H locs hP hS => ?_)
          exact J1 r1 S3 _ _ _ (lv_sub hl [1] rfl) hP hS hs
        · have hs := if_t c3 hs
          refine lv_aload_n hx hb dX7_take_46 rfl (lv_at hl 0 rfl) ?_
          refine gM_X7_number hx hb hT hown hK hP (hT _ tF_X7_129) dX7_take_47 ?_
          refine lv_goto (tgt := 62) hx hb dX7_take_50 (by decide) ?_
          exact J1 (S.1 13) S _ _ _ (lv_sub hl [1] rfl) hP hS hs
      · have hs := if_t c2 hs
        refine lv_aload_n hx hb dX7_take_27 rfl (lv_at hl 0 rfl) ?_
        refine lv_aload_n hx hb dX7_take_28 rfl (lv_at hl 0 rfl) ?_
        refine gM_X7_number hx hb hT hown hK hP (hT _ tF_X7_129) dX7_take_29 ?_
        obtain ⟨r2, S4, h3, hs⟩ := bd_e hs
        refine kX7_getA C tM_X7_70 ⟨Nat.le_of_ble_eq_true rfl, Nat.le_of_ble_eq_true rfl⟩ ⟨Nat.le_of_ble_eq_true rfl, Nat.le_of_ble_eq_true rfl⟩ hK hP hS hl.1 (rest := []) (Nat.le_of_ble_eq_true rfl) dX7_take_32 h3 (fun H locs hP hS => ?_)
        refine lv_goto (tgt := 62) hx hb dX7_take_35 (by decide) ?_
        exact J1 r2 S4 _ _ _ (lv_sub hl [1] rfl) hP hS hs
    · have hs := if_t c1 hs
      refine lv_aload_n hx hb dX7_take_7 rfl (lv_at hl 0 rfl) ?_
      refine gM_X7_d hx hb hT hown hK hP (hT _ tF_X7_13) dX7_take_8 ?_
      refine lv_aload_n hx hb dX7_take_11 rfl (lv_at hl 0 rfl) ?_
      refine gM_X7_number hx hb hT hown hK hP (hT _ tF_X7_129) dX7_take_12 ?_
      obtain ⟨h4, hs⟩ := gd_e hs
      refine lM_d hx hb hK hP (ixo_in h4) dX7_take_15 ?_
      refine lv_goto (tgt := 62) hx hb dX7_take_16 (by decide) ?_
      exact J1 (S.2.2 1 (S.1 13).toNatClampNeg) S _ _ _ (lv_sub hl [1] rfl) hP hS hs
theorem kX7_take {p : Program} {l : Launch} {e : Env} {R : Room} {s : State} {m : MethodId} {args : Array Value} {below : List Frame} {meth : Method} {c : Code} {H : Heap} {locs : List Loc} {cells slots : Nat} {Q : State → Prop} {cc : ByteArray} {pc nL : Nat} {ls : Array Slot} {rest : List Value} {D : va_G} {ad : Nat → Nat} {cI cB : ClassId} {en : Nat → Nat} {S : St} {own : String} {index : Nat} {x1 : Int32} {ro : Int32} {So : St} (C : CallFix p m c cc nL s args wG own) (hlk : Cond.methodLink own index yX7_take ∈ wG) (hR : rmX7_take.frames + 1 ≤ R.frames ∧ 8 + (3 + 11) + rmX7_take.locals ≤ R.locals) (hc : cells ≤ R.cells ∧ slots ≤ R.slots) (hK : KM D ad cI cB en s) (hP : va_P D vwCl (wM ad cI cB S) H) (hS : va_S (AX 11 ad s.heap.size) s.heap H locs) (hls : ls.size = nL) (hrest : (rest.map fun v => v.category).sum ≤ 8) (hd : decode cc pc = .ok (.invokevirtual index, 3)) (hs : fX7_take x1 S = some (ro, So)) (k : ∀ (H : Heap) (locs : List Loc), va_P D vwCl (wM ad cI cB So) H → va_S (AX 11 ad s.heap.size) s.heap H locs → W p l e R s m args below meth c H locs cells slots Q (F0 m (pc + 3) ls (.int ro :: rest))) : W p l e R s m args below meth c H locs cells slots Q (F0 m pc ls (.int x1 :: .ref (ad 0) :: rest)) :=
  u_callV (n := 1) (mX7_take l D ad cI cB en S x1 ro So hs) C uK_M (wg_V hlk tI_X7_take tS_X7_take tN_X7 tK_X7_take) rfl rfl rfl (by decide +kernel) hR rfl (va_recv hK.1 hP (ci := 6) (q0 := 0) rfl rfl) hK hP hS hls hrest hd hc rfl k
def fX7_joined (x0 : Int32) (x1 : Int32) (x2 : Int32) (S : St) : Option (Int32 × St) :=
    (if x2 = 1 then (some (((x0 &&& (-256 : Int32)) ||| (x1 &&& 255)), S))
    else (if x2 = 2 then (some (((x0 &&& (-65536 : Int32)) ||| (x1 &&& 65535)), S))
    else (some (x1, S))))
abbrev rmX7_joined : Room := { frames := 0, cells := 0, slots := 0, locals := 0 }
set_option maxRecDepth 100000 in
set_option maxHeartbeats 4000000 in
theorem mX7_joined (l : Launch) (D : va_G) (ad : Nat → Nat) (cI cB : ClassId) (en : Nat → Nat) (S : St) (x0 : Int32) (x1 : Int32) (x2 : Int32) (ro : Int32) (So : St) (hs : fX7_joined x0 x1 x2 S = some (ro, So)) : uM l yX7_joined (wg yX7_joined cX7_joined 3 (some .int)) rmX7_joined (KM D ad cI cB en) D (wM ad cI cB) (AX 11 ad) [.int x0, .int x1, .int x2] S (some (.int ro), So) := by
  refine uM_start (by decide) rfl ?_
  intro p e s m below meth c hx hb hr hlocks hml hown hts hK hP
  have hT : ∀ w ∈ wG, w.before _ s = true := fun w h => hts w (List.mem_cons_of_mem _ h)
  have hS : va_S (AX 11 ad s.heap.size) s.heap s.heap [] := va_S.rf
  have hown : s.vm.findClass RX7 = some m.cls := hown
  have C : CallFix p m c cX7_joined 3 s _ wG RX7 := ⟨hx, hb, hml, hown, hT⟩
  have hl := lv_entry ([.int x0, .int x1, .int x2]) (n := 3) (Nat.le_of_ble_eq_true rfl)
  rw [lg_entry_eq]
  generalize (lg_sl ([.int x0, .int x1, .int x2]) ++ List.replicate (3 - (lg_sl ([.int x0, .int x1, .int x2])).length) Slot.unset).toArray = ls at hl ⊢
  have hl : lv_has ls 3 [(0, .int x0), (1, .int x1), (2, .int x2)] := hl
  unfold fX7_joined at hs
  refine lv_iload_n hx hb dX7_joined_0 rfl (lv_at hl 2 rfl) ?_
  refine lv_iconst (v := 1) hx hb dX7_joined_1 (by decide) ?_
  refine lv_icmp_ne (tgt := 19) hx hb dX7_joined_2 (by decide) (fun c1 => ?_) (fun c1 => ?_)
  · have hs := if_f c1 hs
    refine lv_iload_n hx hb dX7_joined_19 rfl (lv_at hl 2 rfl) ?_
    refine lv_iconst (v := 2) hx hb dX7_joined_20 (by decide) ?_
    refine lv_icmp_ne (tgt := 36) hx hb dX7_joined_21 (by decide) (fun c2 => ?_) (fun c2 => ?_)
    · have hs := if_f c2 hs
      refine lv_iload_n hx hb dX7_joined_36 rfl (lv_at hl 1 rfl) ?_
      exact u_iret hx hb hr hlocks hP hS hs dX7_joined_37
    · have hs := if_t c2 hs
      refine lv_iload_n hx hb dX7_joined_24 rfl (lv_at hl 0 rfl) ?_
      refine lv_ldc (v := (-65536 : Int32)) hx hb hown (hT _ tC_X7_148) dX7_joined_25 ?_
      refine lv_iand hx hb dX7_joined_27 ?_
      refine lv_iload_n hx hb dX7_joined_28 rfl (lv_at hl 1 rfl) ?_
      refine lv_ldc (v := 65535) hx hb hown (hT _ tC_X7_149) dX7_joined_29 ?_
      refine lv_iand hx hb dX7_joined_31 ?_
      refine lv_ior hx hb dX7_joined_32 ?_
      refine lv_goto (tgt := 37) hx hb dX7_joined_33 (by decide) ?_
      exact u_iret hx hb hr hlocks hP hS hs dX7_joined_37
  · have hs := if_t c1 hs
    refine lv_iload_n hx hb dX7_joined_5 rfl (lv_at hl 0 rfl) ?_
    refine lv_sipush (v := (-256 : Int32)) hx hb dX7_joined_6 (by decide) ?_
    refine lv_iand hx hb dX7_joined_9 ?_
    refine lv_iload_n hx hb dX7_joined_10 rfl (lv_at hl 1 rfl) ?_
    refine lv_sipush (v := 255) hx hb dX7_joined_11 (by decide) ?_
    refine lv_iand hx hb dX7_joined_14 ?_
    refine lv_ior hx hb dX7_joined_15 ?_
    refine lv_goto (tgt := 37) hx hb dX7_joined_16 (by decide) ?_
    exact u_iret hx hb hr hlocks hP hS hs dX7_joined_37
theorem kX7_joined {p : Program} {l : Launch} {e : Env} {R : Room} {s : State} {m : MethodId} {args : Array Value} {below : List Frame} {meth : Method} {c : Code} {H : Heap} {locs : List Loc} {cells slots : Nat} {Q : State → Prop} {cc : ByteArray} {pc nL : Nat} {ls : Array Slot} {rest : List Value} {D : va_G} {ad : Nat → Nat} {cI cB : ClassId} {en : Nat → Nat} {S : St} {own : String} {index : Nat} {x0 : Int32} {x1 : Int32} {x2 : Int32} {ro : Int32} {So : St} (C : CallFix p m c cc nL s args wG own) (hlk : Cond.methodLink own index yX7_joined ∈ wG) (hR : rmX7_joined.frames + 1 ≤ R.frames ∧ 8 + (3 + 11) + rmX7_joined.locals ≤ R.locals) (hc : cells ≤ R.cells ∧ slots ≤ R.slots) (hK : KM D ad cI cB en s) (hP : va_P D vwCl (wM ad cI cB S) H) (hS : va_S (AX 11 ad s.heap.size) s.heap H locs) (hls : ls.size = nL) (hrest : (rest.map fun v => v.category).sum ≤ 8) (hd : decode cc pc = .ok (.invokestatic index, 3)) (hs : fX7_joined x0 x1 x2 S = some (ro, So)) (k : ∀ (H : Heap) (locs : List Loc), va_P D vwCl (wM ad cI cB So) H → va_S (AX 11 ad s.heap.size) s.heap H locs → W p l e R s m args below meth c H locs cells slots Q (F0 m (pc + 3) ls (.int ro :: rest))) : W p l e R s m args below meth c H locs cells slots Q (F0 m pc ls (.int x2 :: .int x1 :: .int x0 :: rest)) :=
  u_callS (n := 3) (mX7_joined l D ad cI cB en S x0 x1 x2 ro So hs) C uK_M (wg_S hlk tI_X7_joined tN_X7 tK_X7_joined) rfl rfl rfl (by decide +kernel) hR rfl hK hP hS hls hrest hd hc rfl k
def fX7_give (x1 : Int32) (x2 : Int32) (S : St) : Option St :=
    (if (S.1 6) ≤ 0 then (if (S.1 12) = 0 then (gd (ixo (S.1 13) 8 = true) (bd (fX7_joined (S.2.2 1 (S.1 13).toNatClampNeg) x1 x2 S) fun r1 S3 => (gd (ixo (S.1 13) 8 = true) (lt (sA S3 1 (S.1 13).toNatClampNeg r1) fun S4 => (some S4)))))
    else (if (S.1 12) = 1 then (bv (fX7_setA (S.1 13) x1 S) fun S2 => (some S2))
    else (if (S.1 12) = 2 then (bv (fX7_set (S.1 14) x1 x2 S) fun S1 => (some S1))
    else (some S))))
    else (some S))
abbrev rmX7_give : Room := { frames := 3, cells := 0, slots := 0, locals := 69 }
set_option maxRecDepth 100000 in
set_option maxHeartbeats 4000000 in
theorem mX7_give (l : Launch) (D : va_G) (ad : Nat → Nat) (cI cB : ClassId) (en : Nat → Nat) (S : St) (x1 : Int32) (x2 : Int32) (So : St) (hs : fX7_give x1 x2 S = some So) : uM l yX7_give (wg yX7_give cX7_give 3 none) rmX7_give (KM D ad cI cB en) D (wM ad cI cB) (AX 11 ad) [.ref (ad 0), .int x1, .int x2] S (none, So) := by
  refine uM_start (by decide) rfl ?_
  intro p e s m below meth c hx hb hr hlocks hml hown hts hK hP
  have hT : ∀ w ∈ wG, w.before _ s = true := fun w h => hts w (List.mem_cons_of_mem _ h)
  have hS : va_S (AX 11 ad s.heap.size) s.heap s.heap [] := va_S.rf
  have hown : s.vm.findClass RX7 = some m.cls := hown
  have C : CallFix p m c cX7_give 3 s _ wG RX7 := ⟨hx, hb, hml, hown, hT⟩
  have hl := lv_entry ([.ref (ad 0), .int x1, .int x2]) (n := 3) (Nat.le_of_ble_eq_true rfl)
  rw [lg_entry_eq]
  generalize (lg_sl ([.ref (ad 0), .int x1, .int x2]) ++ List.replicate (3 - (lg_sl ([.ref (ad 0), .int x1, .int x2])).length) Slot.unset).toArray = ls at hl ⊢
  have hl : lv_has ls 3 [(0, .ref (ad 0)), (1, .int x1), (2, .int x2)] := hl
  unfold fX7_give at hs
  refine lv_aload_n hx hb dX7_give_0 rfl (lv_at hl 0 rfl) ?_
  refine gM_X7_trouble hx hb hT hown hK hP (hT _ tF_X7_100) dX7_give_1 ?_
  refine lv_if_le (tgt := 8) hx hb dX7_give_4 (by decide) (fun c1 => ?_) (fun c1 => ?_)
  · have hs := if_t c1 hs
    refine lv_aload_n hx hb dX7_give_8 rfl (lv_at hl 0 rfl) ?_
    refine gM_X7_sort hx hb hT hown hK hP (hT _ tF_X7_132) dX7_give_9 ?_
    refine lv_if_ne (tgt := 41) hx hb dX7_give_12 (by decide) (fun c2 => ?_) (fun c2 => ?_)
    · have hs := if_f c2 hs
      refine lv_aload_n hx hb dX7_give_41 rfl (lv_at hl 0 rfl) ?_
      refine gM_X7_sort hx hb hT hown hK hP (hT _ tF_X7_132) dX7_give_42 ?_
      refine lv_iconst (v := 1) hx hb dX7_give_45 (by decide) ?_
      refine lv_icmp_ne (tgt := 61) hx hb dX7_give_46 (by decide) (fun c3 => ?_) (fun c3 => ?_)
      · have hs := if_f c3 hs
        refine lv_aload_n hx hb dX7_give_61 rfl (lv_at hl 0 rfl) ?_
        refine gM_X7_sort hx hb hT hown hK hP (hT _ tF_X7_132) dX7_give_62 ?_
        refine lv_iconst (v := 2) hx hb dX7_give_65 (by decide) ?_
        refine lv_icmp_ne (tgt := 79) hx hb dX7_give_66 (by decide) (fun c4 => ?_) (fun c4 => ?_)
        · have hs := if_f c4 hs
          exact u_vret hx hb hr hlocks hP hS hs dX7_give_79
        · have hs := if_t c4 hs
          refine lv_aload_n hx hb dX7_give_69 rfl (lv_at hl 0 rfl) ?_
          refine lv_aload_n hx hb dX7_give_70 rfl (lv_at hl 0 rfl) ?_
          refine gM_X7_address hx hb hT hown hK hP (hT _ tF_X7_135) dX7_give_71 ?_
          refine lv_iload_n hx hb dX7_give_74 rfl (lv_at hl 1 rfl) ?_
          refine lv_iload_n hx hb dX7_give_75 rfl (lv_at hl 2 rfl) ?_
          obtain ⟨S1, h1, hs⟩ := bv_e hs
          refine kX7_set C tM_X7_113 ⟨Nat.le_of_ble_eq_true rfl, Nat.le_of_ble_eq_true rfl⟩ ⟨Nat.le_of_ble_eq_true rfl, Nat.le_of_ble_eq_true rfl⟩ hK hP hS hl.1 (rest := []) (Nat.le_of_ble_eq_true rfl) dX7_give_76 h1 (fun H locs hP hS => ?_)
          exact u_vret hx hb hr hlocks hP hS hs dX7_give_79
      · have hs := if_t c3 hs
        refine lv_aload_n hx hb dX7_give_49 rfl (lv_at hl 0 rfl) ?_
        refine lv_aload_n hx hb dX7_give_50 rfl (lv_at hl 0 rfl) ?_
        refine gM_X7_number hx hb hT hown hK hP (hT _ tF_X7_129) dX7_give_51 ?_
        refine lv_iload_n hx hb dX7_give_54 rfl (lv_at hl 1 rfl) ?_
        obtain ⟨S2, h2, hs⟩ := bv_e hs
        refine kX7_setA C tM_X7_74 ⟨Nat.le_of_ble_eq_true rfl, Nat.le_of_ble_eq_true rfl⟩ ⟨Nat.le_of_ble_eq_true rfl, Nat.le_of_ble_eq_true rfl⟩ hK hP hS hl.1 (rest := []) (Nat.le_of_ble_eq_true rfl) dX7_give_55 h2 (fun H locs hP hS => ?_)
        refine lv_goto (tgt := 79) hx hb dX7_give_58 (by decide) ?_
        exact u_vret hx hb hr hlocks hP hS hs dX7_give_79
    · have hs := if_t c2 hs
      refine lv_aload_n hx hb dX7_give_15 rfl (lv_at hl 0 rfl) ?_
      refine gM_X7_d hx hb hT hown hK hP (hT _ tF_X7_13) dX7_give_16 ?_
      refine lv_aload_n hx hb dX7_give_19 rfl (lv_at hl 0 rfl) ?_
      refine gM_X7_number hx hb hT hown hK hP (hT _ tF_X7_129) dX7_give_20 ?_
      refine lv_aload_n hx hb dX7_give_23 rfl (lv_at hl 0 rfl) ?_
      refine gM_X7_d hx hb hT hown hK hP (hT _ tF_X7_13) dX7_give_24 ?_
      refine lv_aload_n hx hb dX7_give_27 rfl (lv_at hl 0 rfl) ?_
      refine gM_X7_number hx hb hT hown hK hP (hT _ tF_X7_129) dX7_give_28 ?_
      obtain ⟨h3, hs⟩ := gd_e hs
      refine lM_d hx hb hK hP (ixo_in h3) dX7_give_31 ?_
      refine lv_iload_n hx hb dX7_give_32 rfl (lv_at hl 1 rfl) ?_
      refine lv_iload_n hx hb dX7_give_33 rfl (lv_at hl 2 rfl) ?_
      obtain ⟨r1, S3, h4, hs⟩ := bd_e hs
      refine kX7_joined C tM_X7_150 ⟨Nat.le_of_ble_eq_true rfl, Nat.le_of_ble_eq_true rfl⟩ ⟨Nat.le_of_ble_eq_true rfl, Nat.le_of_ble_eq_true rfl⟩ hK hP hS hl.1 (rest := [.int (S.1 13), .ref (ad 2)]) (Nat.le_of_ble_eq_true rfl) dX7_give_34 h4 (fun H locs hP hS => ?_)
      obtain ⟨h5, hs⟩ := gd_e hs
      obtain ⟨S4, h6, hs⟩ := lt_e hs
      refine sM_d hx hb hK hP hS (v := r1) (ixo_in h5) dX7_give_37 h6 (fun H locs hP hS => ?_)
      refine lv_goto (tgt := 79) hx hb dX7_give_38 (by decide) ?_
      exact u_vret hx hb hr hlocks hP hS hs dX7_give_79
  · have hs := if_f c1 hs
    exact u_vret hx hb hr hlocks hP hS hs dX7_give_7
theorem kX7_give {p : Program} {l : Launch} {e : Env} {R : Room} {s : State} {m : MethodId} {args : Array Value} {below : List Frame} {meth : Method} {c : Code} {H : Heap} {locs : List Loc} {cells slots : Nat} {Q : State → Prop} {cc : ByteArray} {pc nL : Nat} {ls : Array Slot} {rest : List Value} {D : va_G} {ad : Nat → Nat} {cI cB : ClassId} {en : Nat → Nat} {S : St} {own : String} {index : Nat} {x1 : Int32} {x2 : Int32} {So : St} (C : CallFix p m c cc nL s args wG own) (hlk : Cond.methodLink own index yX7_give ∈ wG) (hR : rmX7_give.frames + 1 ≤ R.frames ∧ 8 + (3 + 11) + rmX7_give.locals ≤ R.locals) (hc : cells ≤ R.cells ∧ slots ≤ R.slots) (hK : KM D ad cI cB en s) (hP : va_P D vwCl (wM ad cI cB S) H) (hS : va_S (AX 11 ad s.heap.size) s.heap H locs) (hls : ls.size = nL) (hrest : (rest.map fun v => v.category).sum ≤ 8) (hd : decode cc pc = .ok (.invokevirtual index, 3)) (hs : fX7_give x1 x2 S = some So) (k : ∀ (H : Heap) (locs : List Loc), va_P D vwCl (wM ad cI cB So) H → va_S (AX 11 ad s.heap.size) s.heap H locs → W p l e R s m args below meth c H locs cells slots Q (F0 m (pc + 3) ls (rest))) : W p l e R s m args below meth c H locs cells slots Q (F0 m pc ls (.int x2 :: .int x1 :: .ref (ad 0) :: rest)) :=
  u_callV (n := 2) (mX7_give l D ad cI cB en S x1 x2 So hs) C uK_M (wg_V hlk tI_X7_give tS_X7_give tN_X7 tK_X7_give) rfl rfl rfl (by decide +kernel) hR rfl (va_recv hK.1 hP (ci := 6) (q0 := 0) rfl rfl) hK hP hS hls hrest hd hc rfl k
def fX7_has (x1 : Int32) (S : St) : Option (Bool × St) :=
    (if ((S.1 2) &&& x1) = 0 then (some (false, S))
    else (some (true, S)))
abbrev rmX7_has : Room := { frames := 0, cells := 0, slots := 0, locals := 0 }
set_option maxRecDepth 100000 in
set_option maxHeartbeats 4000000 in
theorem mX7_has (l : Launch) (D : va_G) (ad : Nat → Nat) (cI cB : ClassId) (en : Nat → Nat) (S : St) (x1 : Int32) (ro : Bool) (So : St) (hs : fX7_has x1 S = some (ro, So)) : uM l yX7_has (wg yX7_has cX7_has 2 (some .boolean)) rmX7_has (KM D ad cI cB en) D (wM ad cI cB) (AX 11 ad) [.ref (ad 0), .int x1] S (some (.int (zI ro)), So) := by
  refine uM_start (by decide) rfl ?_
  intro p e s m below meth c hx hb hr hlocks hml hown hts hK hP
  have hT : ∀ w ∈ wG, w.before _ s = true := fun w h => hts w (List.mem_cons_of_mem _ h)
  have hS : va_S (AX 11 ad s.heap.size) s.heap s.heap [] := va_S.rf
  have hown : s.vm.findClass RX7 = some m.cls := hown
  have C : CallFix p m c cX7_has 2 s _ wG RX7 := ⟨hx, hb, hml, hown, hT⟩
  have hl := lv_entry ([.ref (ad 0), .int x1]) (n := 2) (Nat.le_of_ble_eq_true rfl)
  rw [lg_entry_eq]
  generalize (lg_sl ([.ref (ad 0), .int x1]) ++ List.replicate (2 - (lg_sl ([.ref (ad 0), .int x1])).length) Slot.unset).toArray = ls at hl ⊢
  have hl : lv_has ls 2 [(0, .ref (ad 0)), (1, .int x1)] := hl
  unfold fX7_has at hs
  refine lv_aload_n hx hb dX7_has_0 rfl (lv_at hl 0 rfl) ?_
  refine gM_X7_sr hx hb hT hown hK hP (hT _ tF_X7_50) dX7_has_1 ?_
  refine lv_iload_n hx hb dX7_has_4 rfl (lv_at hl 1 rfl) ?_
  refine lv_iand hx hb dX7_has_5 ?_
  refine lv_if_eq (tgt := 13) hx hb dX7_has_6 (by decide) (fun c1 => ?_) (fun c1 => ?_)
  · have hs := if_t c1 hs
    refine lv_iconst (v := 0) hx hb dX7_has_13 (by decide) ?_
    exact u_zret (v := false) hx hb hr hlocks hP hS hs dX7_has_14
  · have hs := if_f c1 hs
    refine lv_iconst (v := 1) hx hb dX7_has_9 (by decide) ?_
    refine lv_goto (tgt := 14) hx hb dX7_has_10 (by decide) ?_
    exact u_zret (v := true) hx hb hr hlocks hP hS hs dX7_has_14
theorem kX7_has {p : Program} {l : Launch} {e : Env} {R : Room} {s : State} {m : MethodId} {args : Array Value} {below : List Frame} {meth : Method} {c : Code} {H : Heap} {locs : List Loc} {cells slots : Nat} {Q : State → Prop} {cc : ByteArray} {pc nL : Nat} {ls : Array Slot} {rest : List Value} {D : va_G} {ad : Nat → Nat} {cI cB : ClassId} {en : Nat → Nat} {S : St} {own : String} {index : Nat} {x1 : Int32} {ro : Bool} {So : St} (C : CallFix p m c cc nL s args wG own) (hlk : Cond.methodLink own index yX7_has ∈ wG) (hR : rmX7_has.frames + 1 ≤ R.frames ∧ 8 + (2 + 11) + rmX7_has.locals ≤ R.locals) (hc : cells ≤ R.cells ∧ slots ≤ R.slots) (hK : KM D ad cI cB en s) (hP : va_P D vwCl (wM ad cI cB S) H) (hS : va_S (AX 11 ad s.heap.size) s.heap H locs) (hls : ls.size = nL) (hrest : (rest.map fun v => v.category).sum ≤ 8) (hd : decode cc pc = .ok (.invokevirtual index, 3)) (hs : fX7_has x1 S = some (ro, So)) (k : ∀ (H : Heap) (locs : List Loc), va_P D vwCl (wM ad cI cB So) H → va_S (AX 11 ad s.heap.size) s.heap H locs → W p l e R s m args below meth c H locs cells slots Q (F0 m (pc + 3) ls (.int (zI ro) :: rest))) : W p l e R s m args below meth c H locs cells slots Q (F0 m pc ls (.int x1 :: .ref (ad 0) :: rest)) :=
  u_callV (n := 1) (mX7_has l D ad cI cB en S x1 ro So hs) C uK_M (wg_V hlk tI_X7_has tS_X7_has tN_X7 tK_X7_has) rfl rfl rfl (by decide +kernel) hR rfl (va_recv hK.1 hP (ci := 6) (q0 := 0) rfl rfl) hK hP hS hls hrest hd hc rfl k
def fX7_flag (x1 : Int32) (z2 : Bool) (S : St) : Option St :=
    (if (zI z2) = 0 then (lt (sI S 2 ((S.1 2) &&& (x1 ^^^ (-1 : Int32)))) fun S1 => (some S1))
    else (lt (sI S 2 ((S.1 2) ||| x1)) fun S2 => (some S2)))
abbrev rmX7_flag : Room := { frames := 0, cells := 0, slots := 0, locals := 0 }
set_option maxRecDepth 100000 in
set_option maxHeartbeats 4000000 in
theorem mX7_flag (l : Launch) (D : va_G) (ad : Nat → Nat) (cI cB : ClassId) (en : Nat → Nat) (S : St) (x1 : Int32) (z2 : Bool) (So : St) (hs : fX7_flag x1 z2 S = some So) : uM l yX7_flag (wg yX7_flag cX7_flag 3 none) rmX7_flag (KM D ad cI cB en) D (wM ad cI cB) (AX 11 ad) [.ref (ad 0), .int x1, .int (zI z2)] S (none, So) := by
  refine uM_start (by decide) rfl ?_
  intro p e s m below meth c hx hb hr hlocks hml hown hts hK hP
  have hT : ∀ w ∈ wG, w.before _ s = true := fun w h => hts w (List.mem_cons_of_mem _ h)
  have hS : va_S (AX 11 ad s.heap.size) s.heap s.heap [] := va_S.rf
  have hown : s.vm.findClass RX7 = some m.cls := hown
  have C : CallFix p m c cX7_flag 3 s _ wG RX7 := ⟨hx, hb, hml, hown, hT⟩
  have hl := lv_entry ([.ref (ad 0), .int x1, .int (zI z2)]) (n := 3) (Nat.le_of_ble_eq_true rfl)
  rw [lg_entry_eq]
  generalize (lg_sl ([.ref (ad 0), .int x1, .int (zI z2)]) ++ List.replicate (3 - (lg_sl ([.ref (ad 0), .int x1, .int (zI z2)])).length) Slot.unset).toArray = ls at hl ⊢
  have hl : lv_has ls 3 [(0, .ref (ad 0)), (1, .int x1), (2, .int (zI z2))] := hl
  unfold fX7_flag at hs
  refine lv_aload_n hx hb dX7_flag_0 rfl (lv_at hl 0 rfl) ?_
  refine lv_iload_n hx hb dX7_flag_1 rfl (lv_at hl 2 rfl) ?_
  refine lv_if_eq (tgt := 14) hx hb dX7_flag_2 (by decide) (fun c1 => ?_) (fun c1 => ?_)
  · have hs := if_t c1 hs
    refine lv_aload_n hx hb dX7_flag_14 rfl (lv_at hl 0 rfl) ?_
    refine gM_X7_sr hx hb hT hown hK hP (hT _ tF_X7_50) dX7_flag_15 ?_
    refine lv_iload_n hx hb dX7_flag_18 rfl (lv_at hl 1 rfl) ?_
    refine lv_iconst (v := (-1 : Int32)) hx hb dX7_flag_19 (by decide) ?_
    refine lv_ixor hx hb dX7_flag_20 ?_
    refine lv_iand hx hb dX7_flag_21 ?_
    obtain ⟨S1, h1, hs⟩ := lt_e hs
    refine pM_X7_sr hx hb hT hown hK hP hS (hT _ tF_X7_50) dX7_flag_22 (v := ((S.1 2) &&& (x1 ^^^ (-1 : Int32)))) h1 (fun H locs hP hS => ?_)
    exact u_vret hx hb hr hlocks hP hS hs dX7_flag_25
  · have hs := if_f c1 hs
    refine lv_aload_n hx hb dX7_flag_5 rfl (lv_at hl 0 rfl) ?_
    refine gM_X7_sr hx hb hT hown hK hP (hT _ tF_X7_50) dX7_flag_6 ?_
    refine lv_iload_n hx hb dX7_flag_9 rfl (lv_at hl 1 rfl) ?_
    refine lv_ior hx hb dX7_flag_10 ?_
    refine lv_goto (tgt := 22) hx hb dX7_flag_11 (by decide) ?_
    obtain ⟨S2, h2, hs⟩ := lt_e hs
    refine pM_X7_sr hx hb hT hown hK hP hS (hT _ tF_X7_50) dX7_flag_22 (v := ((S.1 2) ||| x1)) h2 (fun H locs hP hS => ?_)
    exact u_vret hx hb hr hlocks hP hS hs dX7_flag_25
theorem kX7_flag {p : Program} {l : Launch} {e : Env} {R : Room} {s : State} {m : MethodId} {args : Array Value} {below : List Frame} {meth : Method} {c : Code} {H : Heap} {locs : List Loc} {cells slots : Nat} {Q : State → Prop} {cc : ByteArray} {pc nL : Nat} {ls : Array Slot} {rest : List Value} {D : va_G} {ad : Nat → Nat} {cI cB : ClassId} {en : Nat → Nat} {S : St} {own : String} {index : Nat} {x1 : Int32} {z2 : Bool} {So : St} (C : CallFix p m c cc nL s args wG own) (hlk : Cond.methodLink own index yX7_flag ∈ wG) (hR : rmX7_flag.frames + 1 ≤ R.frames ∧ 8 + (3 + 11) + rmX7_flag.locals ≤ R.locals) (hc : cells ≤ R.cells ∧ slots ≤ R.slots) (hK : KM D ad cI cB en s) (hP : va_P D vwCl (wM ad cI cB S) H) (hS : va_S (AX 11 ad s.heap.size) s.heap H locs) (hls : ls.size = nL) (hrest : (rest.map fun v => v.category).sum ≤ 8) (hd : decode cc pc = .ok (.invokevirtual index, 3)) (hs : fX7_flag x1 z2 S = some So) (k : ∀ (H : Heap) (locs : List Loc), va_P D vwCl (wM ad cI cB So) H → va_S (AX 11 ad s.heap.size) s.heap H locs → W p l e R s m args below meth c H locs cells slots Q (F0 m (pc + 3) ls (rest))) : W p l e R s m args below meth c H locs cells slots Q (F0 m pc ls (.int (zI z2) :: .int x1 :: .ref (ad 0) :: rest)) :=
  u_callV (n := 2) (mX7_flag l D ad cI cB en S x1 z2 So hs) C uK_M (wg_V hlk tI_X7_flag tS_X7_flag tN_X7 tK_X7_flag) rfl rfl rfl (by decide +kernel) hR rfl (va_recv hK.1 hP (ci := 6) (q0 := 0) rfl rfl) hK hP hS hls hrest hd hc rfl k
def fX7_x  (S : St) : Option (Int32 × St) :=
    (bd (fX7_has 16 S) fun b1 S1 => (if (zI b1) = 0 then (some (0, S1))
    else (some (1, S1))))
abbrev rmX7_x : Room := { frames := 1, cells := 0, slots := 0, locals := 21 }
set_option maxRecDepth 100000 in
set_option maxHeartbeats 4000000 in
theorem mX7_x (l : Launch) (D : va_G) (ad : Nat → Nat) (cI cB : ClassId) (en : Nat → Nat) (S : St)  (ro : Int32) (So : St) (hs : fX7_x  S = some (ro, So)) : uM l yX7_x (wg yX7_x cX7_x 1 (some .int)) rmX7_x (KM D ad cI cB en) D (wM ad cI cB) (AX 11 ad) [.ref (ad 0)] S (some (.int ro), So) := by
  refine uM_start (by decide) rfl ?_
  intro p e s m below meth c hx hb hr hlocks hml hown hts hK hP
  have hT : ∀ w ∈ wG, w.before _ s = true := fun w h => hts w (List.mem_cons_of_mem _ h)
  have hS : va_S (AX 11 ad s.heap.size) s.heap s.heap [] := va_S.rf
  have hown : s.vm.findClass RX7 = some m.cls := hown
  have C : CallFix p m c cX7_x 1 s _ wG RX7 := ⟨hx, hb, hml, hown, hT⟩
  have hl := lv_entry ([.ref (ad 0)]) (n := 1) (Nat.le_of_ble_eq_true rfl)
  rw [lg_entry_eq]
  generalize (lg_sl ([.ref (ad 0)]) ++ List.replicate (1 - (lg_sl ([.ref (ad 0)])).length) Slot.unset).toArray = ls at hl ⊢
  have hl : lv_has ls 1 [(0, .ref (ad 0))] := hl
  unfold fX7_x at hs
  refine lv_aload_n hx hb dX7_x_0 rfl (lv_at hl 0 rfl) ?_
  refine lv_bipush (v := 16) hx hb dX7_x_1 (by decide) ?_
  obtain ⟨b1, S1, h1, hs⟩ := bd_e hs
  refine kX7_has C tM_X7_154 ⟨Nat.le_of_ble_eq_true rfl, Nat.le_of_ble_eq_true rfl⟩ ⟨Nat.le_of_ble_eq_true rfl, Nat.le_of_ble_eq_true rfl⟩ hK hP hS hl.1 (rest := []) (Nat.le_of_ble_eq_true rfl) dX7_x_3 h1 (fun H locs hP hS => ?_)
  refine lv_if_eq (tgt := 13) hx hb dX7_x_6 (by decide) (fun c1 => ?_) (fun c1 => ?_)
  · have hs := if_t c1 hs
    refine lv_iconst (v := 0) hx hb dX7_x_13 (by decide) ?_
    exact u_iret hx hb hr hlocks hP hS hs dX7_x_14
  · have hs := if_f c1 hs
    refine lv_iconst (v := 1) hx hb dX7_x_9 (by decide) ?_
    refine lv_goto (tgt := 14) hx hb dX7_x_10 (by decide) ?_
    exact u_iret hx hb hr hlocks hP hS hs dX7_x_14
theorem kX7_x {p : Program} {l : Launch} {e : Env} {R : Room} {s : State} {m : MethodId} {args : Array Value} {below : List Frame} {meth : Method} {c : Code} {H : Heap} {locs : List Loc} {cells slots : Nat} {Q : State → Prop} {cc : ByteArray} {pc nL : Nat} {ls : Array Slot} {rest : List Value} {D : va_G} {ad : Nat → Nat} {cI cB : ClassId} {en : Nat → Nat} {S : St} {own : String} {index : Nat}  {ro : Int32} {So : St} (C : CallFix p m c cc nL s args wG own) (hlk : Cond.methodLink own index yX7_x ∈ wG) (hR : rmX7_x.frames + 1 ≤ R.frames ∧ 8 + (1 + 11) + rmX7_x.locals ≤ R.locals) (hc : cells ≤ R.cells ∧ slots ≤ R.slots) (hK : KM D ad cI cB en s) (hP : va_P D vwCl (wM ad cI cB S) H) (hS : va_S (AX 11 ad s.heap.size) s.heap H locs) (hls : ls.size = nL) (hrest : (rest.map fun v => v.category).sum ≤ 8) (hd : decode cc pc = .ok (.invokevirtual index, 3)) (hs : fX7_x  S = some (ro, So)) (k : ∀ (H : Heap) (locs : List Loc), va_P D vwCl (wM ad cI cB So) H → va_S (AX 11 ad s.heap.size) s.heap H locs → W p l e R s m args below meth c H locs cells slots Q (F0 m (pc + 3) ls (.int ro :: rest))) : W p l e R s m args below meth c H locs cells slots Q (F0 m pc ls (.ref (ad 0) :: rest)) :=
  u_callV (n := 0) (mX7_x l D ad cI cB en S  ro So hs) C uK_M (wg_V hlk tI_X7_x tS_X7_x tN_X7 tK_X7_x) rfl rfl rfl (by decide +kernel) hR rfl (va_recv hK.1 hP (ci := 6) (q0 := 0) rfl rfl) hK hP hS hls hrest hd hc rfl k
def fX7_signs (x1 : Int32) (x2 : Int32) (S : St) : Option St :=
    (bd (fX7_extended x1 x2 S) fun r1 S1 => (jn (fun (b1 : Bool) => (bv (fX7_flag 8 b1 S1) fun S2 => (bd (fX7_plain x1 x2 S2) fun w1 S3 => (jn (fun (b2 : Bool) => (bv (fX7_flag 4 b2 S3) fun S4 => (some S4))) fun K2 =>
    (if (lg_cmp w1 0) = 0 then (K2 true)
    else (K2 false)))))) fun K1 =>
    (if 0 ≤ r1 then (K1 false)
    else (K1 true))))
abbrev rmX7_signs : Room := { frames := 1, cells := 0, slots := 0, locals := 22 }
set_option maxRecDepth 100000 in
set_option maxHeartbeats 4000000 in
theorem mX7_signs (l : Launch) (D : va_G) (ad : Nat → Nat) (cI cB : ClassId) (en : Nat → Nat) (S : St) (x1 : Int32) (x2 : Int32) (So : St) (hs : fX7_signs x1 x2 S = some So) : uM l yX7_signs (wg yX7_signs cX7_signs 3 none) rmX7_signs (KM D ad cI cB en) D (wM ad cI cB) (AX 11 ad) [.ref (ad 0), .int x1, .int x2] S (none, So) := by
  refine uM_start (by decide) rfl ?_
  intro p e s m below meth c hx hb hr hlocks hml hown hts hK hP
  have hT : ∀ w ∈ wG, w.before _ s = true := fun w h => hts w (List.mem_cons_of_mem _ h)
  have hS : va_S (AX 11 ad s.heap.size) s.heap s.heap [] := va_S.rf
  have hown : s.vm.findClass RX7 = some m.cls := hown
  have C : CallFix p m c cX7_signs 3 s _ wG RX7 := ⟨hx, hb, hml, hown, hT⟩
  have hl := lv_entry ([.ref (ad 0), .int x1, .int x2]) (n := 3) (Nat.le_of_ble_eq_true rfl)
  rw [lg_entry_eq]
  generalize (lg_sl ([.ref (ad 0), .int x1, .int x2]) ++ List.replicate (3 - (lg_sl ([.ref (ad 0), .int x1, .int x2])).length) Slot.unset).toArray = ls at hl ⊢
  have hl : lv_has ls 3 [(0, .ref (ad 0)), (1, .int x1), (2, .int x2)] := hl
  unfold fX7_signs at hs
  refine lv_aload_n hx hb dX7_signs_0 rfl (lv_at hl 0 rfl) ?_
  refine lv_bipush (v := 8) hx hb dX7_signs_1 (by decide) ?_
  refine lv_iload_n hx hb dX7_signs_3 rfl (lv_at hl 1 rfl) ?_
  refine lv_iload_n hx hb dX7_signs_4 rfl (lv_at hl 2 rfl) ?_
  obtain ⟨r1, S1, h1, hs⟩ := bd_e hs
  refine kX7_extended C tM_X7_157 ⟨Nat.le_of_ble_eq_true rfl, Nat.le_of_ble_eq_true rfl⟩ ⟨Nat.le_of_ble_eq_true rfl, Nat.le_of_ble_eq_true rfl⟩ hK hP hS hl.1 (rest := [.int 8, .ref (ad 0)]) (Nat.le_of_ble_eq_true rfl) dX7_signs_5 h1 (fun H locs hP hS => ?_)
  refine jn_e hs (fun K1 => ∀ (b1 : Bool) (H : Heap) (locs : List Loc) (ls : Array Slot), lv_has ls 3 [(0, .ref (ad 0)), (1, .int x1), (2, .int x2)] → va_P D vwCl (wM ad cI cB S1) H → va_S (AX 11 ad s.heap.size) s.heap H locs → K1 b1 = some So → W p l e rmX7_signs s m ([.ref (ad 0), .int x1, .int x2] : List Value).toArray below meth c H locs 0 0 (MQ below (uQ D (wM ad cI cB) (none, So) (AX 11 ad s.heap.size)) ([.ref (ad 0), .int x1, .int x2] : List Value).toArray s 0 0 (AX 11 ad s.heap.size)) (F0 m 16 ls [.int (zI b1), .int 8, .ref (ad 0)])) ?_ (fun K1 J1 hs => ?_)
  · intro b1 H locs ls hl hP hS hs
    obtain ⟨S2, h2, hs⟩ := bv_e hs
    refine kX7_flag C tM_X7_160 ⟨Nat.le_of_ble_eq_true rfl, Nat.le_of_ble_eq_true rfl⟩ ⟨Nat.le_of_ble_eq_true rfl, Nat.le_of_ble_eq_true rfl⟩ hK hP hS hl.1 (rest := []) (Nat.le_of_ble_eq_true rfl) dX7_signs_16 h2 (fun H locs hP hS => ?_)
    refine lv_aload_n hx hb dX7_signs_19 rfl (lv_at hl 0 rfl) ?_
    refine lv_iconst (v := 4) hx hb dX7_signs_20 (by decide) ?_
    refine lv_iload_n hx hb dX7_signs_21 rfl (lv_at hl 1 rfl) ?_
    refine lv_iload_n hx hb dX7_signs_22 rfl (lv_at hl 2 rfl) ?_
    obtain ⟨w1, S3, h3, hs⟩ := bd_e hs
    refine kX7_plain C tM_X7_144 ⟨Nat.le_of_ble_eq_true rfl, Nat.le_of_ble_eq_true rfl⟩ ⟨Nat.le_of_ble_eq_true rfl, Nat.le_of_ble_eq_true rfl⟩ hK hP hS hl.1 (rest := [.int 4, .ref (ad 0)]) (Nat.le_of_ble_eq_true rfl) dX7_signs_23 h3 (fun H locs hP hS => ?_)
    refine lv_lconst (v := 0) hx hb dX7_signs_26 (by decide) ?_
    refine W.lcmp hx hb dX7_signs_27 ?_
    refine jn_e hs (fun K2 => ∀ (b2 : Bool) (H : Heap) (locs : List Loc) (ls : Array Slot), lv_has ls 3 [] → va_P D vwCl (wM ad cI cB S3) H → va_S (AX 11 ad s.heap.size) s.heap H locs → K2 b2 = some So → W p l e rmX7_signs s m ([.ref (ad 0), .int x1, .int x2] : List Value).toArray below meth c H locs 0 0 (MQ below (uQ D (wM ad cI cB) (none, So) (AX 11 ad s.heap.size)) ([.ref (ad 0), .int x1, .int x2] : List Value).toArray s 0 0 (AX 11 ad s.heap.size)) (F0 m 36 ls [.int (zI b2), .int 4, .ref (ad 0)])) ?_ (fun K2 J2 hs => ?_)
    · intro b2 H locs ls hl hP hS hs
      obtain ⟨S4, h4, hs⟩ := bv_e hs
      refine kX7_flag C tM_X7_160 ⟨Nat.le_of_ble_eq_true rfl, Nat.le_of_ble_eq_true rfl⟩ ⟨Nat.le_of_ble_eq_true rfl, Nat.le_of_ble_eq_true rfl⟩ hK hP hS hl.1 (rest := []) (Nat.le_of_ble_eq_true rfl) dX7_signs_36 h4 (fun H locs hP hS => ?_)
      exact u_vret hx hb hr hlocks hP hS hs dX7_signs_39
    ·
      refine lv_if_ne (tgt := 35) hx hb dX7_signs_28 (by decide) (fun c1 => ?_) (fun c1 => ?_)
      · have hs := if_f c1 hs
        refine lv_iconst (v := 0) hx hb dX7_signs_35 (by decide) ?_
        exact J2 false _ _ _ (lv_sub hl [] rfl) hP hS hs
      · have hs := if_t c1 hs
        refine lv_iconst (v := 1) hx hb dX7_signs_31 (by decide) ?_
        refine lv_goto (tgt := 36) hx hb dX7_signs_32 (by decide) ?_
        exact J2 true _ _ _ (lv_sub hl [] rfl) hP hS hs
  ·
    refine lv_if_ge (tgt := 15) hx hb dX7_signs_8 (by decide) (fun c2 => ?_) (fun c2 => ?_)
    · have hs := if_t c2 hs
      refine lv_iconst (v := 0) hx hb dX7_signs_15 (by decide) ?_
      exact J1 false _ _ _ (lv_sub hl [0, 1, 2] rfl) hP hS hs
    · have hs := if_f c2 hs
      refine lv_iconst (v := 1) hx hb dX7_signs_11 (by decide) ?_
      refine lv_goto (tgt := 16) hx hb dX7_signs_12 (by decide) ?_
      exact J1 true _ _ _ (lv_sub hl [0, 1, 2] rfl) hP hS hs
theorem kX7_signs {p : Program} {l : Launch} {e : Env} {R : Room} {s : State} {m : MethodId} {args : Array Value} {below : List Frame} {meth : Method} {c : Code} {H : Heap} {locs : List Loc} {cells slots : Nat} {Q : State → Prop} {cc : ByteArray} {pc nL : Nat} {ls : Array Slot} {rest : List Value} {D : va_G} {ad : Nat → Nat} {cI cB : ClassId} {en : Nat → Nat} {S : St} {own : String} {index : Nat} {x1 : Int32} {x2 : Int32} {So : St} (C : CallFix p m c cc nL s args wG own) (hlk : Cond.methodLink own index yX7_signs ∈ wG) (hR : rmX7_signs.frames + 1 ≤ R.frames ∧ 8 + (3 + 11) + rmX7_signs.locals ≤ R.locals) (hc : cells ≤ R.cells ∧ slots ≤ R.slots) (hK : KM D ad cI cB en s) (hP : va_P D vwCl (wM ad cI cB S) H) (hS : va_S (AX 11 ad s.heap.size) s.heap H locs) (hls : ls.size = nL) (hrest : (rest.map fun v => v.category).sum ≤ 8) (hd : decode cc pc = .ok (.invokevirtual index, 3)) (hs : fX7_signs x1 x2 S = some So) (k : ∀ (H : Heap) (locs : List Loc), va_P D vwCl (wM ad cI cB So) H → va_S (AX 11 ad s.heap.size) s.heap H locs → W p l e R s m args below meth c H locs cells slots Q (F0 m (pc + 3) ls (rest))) : W p l e R s m args below meth c H locs cells slots Q (F0 m pc ls (.int x2 :: .int x1 :: .ref (ad 0) :: rest)) :=
  u_callV (n := 2) (mX7_signs l D ad cI cB en S x1 x2 So hs) C uK_M (wg_V hlk tI_X7_signs tS_X7_signs tN_X7 tK_X7_signs) rfl rfl rfl (by decide +kernel) hR rfl (va_recv hK.1 hP (ci := 6) (q0 := 0) rfl rfl) hK hP hS hls hrest hd hc rfl k
def fX7_logic (x1 : Int32) (x2 : Int32) (S : St) : Option St :=
    (bv (fX7_signs x1 x2 S) fun S1 => (bv (fX7_flag 2 false S1) fun S2 => (bv (fX7_flag 1 false S2) fun S3 => (some S3))))
abbrev rmX7_logic : Room := { frames := 2, cells := 0, slots := 0, locals := 44 }
set_option maxRecDepth 100000 in
set_option maxHeartbeats 4000000 in
theorem mX7_logic (l : Launch) (D : va_G) (ad : Nat → Nat) (cI cB : ClassId) (en : Nat → Nat) (S : St) (x1 : Int32) (x2 : Int32) (So : St) (hs : fX7_logic x1 x2 S = some So) : uM l yX7_logic (wg yX7_logic cX7_logic 3 none) rmX7_logic (KM D ad cI cB en) D (wM ad cI cB) (AX 11 ad) [.ref (ad 0), .int x1, .int x2] S (none, So) := by
  refine uM_start (by decide) rfl ?_
  intro p e s m below meth c hx hb hr hlocks hml hown hts hK hP
  have hT : ∀ w ∈ wG, w.before _ s = true := fun w h => hts w (List.mem_cons_of_mem _ h)
  have hS : va_S (AX 11 ad s.heap.size) s.heap s.heap [] := va_S.rf
  have hown : s.vm.findClass RX7 = some m.cls := hown
  have C : CallFix p m c cX7_logic 3 s _ wG RX7 := ⟨hx, hb, hml, hown, hT⟩
  have hl := lv_entry ([.ref (ad 0), .int x1, .int x2]) (n := 3) (Nat.le_of_ble_eq_true rfl)
  rw [lg_entry_eq]
  generalize (lg_sl ([.ref (ad 0), .int x1, .int x2]) ++ List.replicate (3 - (lg_sl ([.ref (ad 0), .int x1, .int x2])).length) Slot.unset).toArray = ls at hl ⊢
  have hl : lv_has ls 3 [(0, .ref (ad 0)), (1, .int x1), (2, .int x2)] := hl
  unfold fX7_logic at hs
  refine lv_aload_n hx hb dX7_logic_0 rfl (lv_at hl 0 rfl) ?_
  refine lv_iload_n hx hb dX7_logic_1 rfl (lv_at hl 1 rfl) ?_
  refine lv_iload_n hx hb dX7_logic_2 rfl (lv_at hl 2 rfl) ?_
  obtain ⟨S1, h1, hs⟩ := bv_e hs
  refine kX7_signs C tM_X7_164 ⟨Nat.le_of_ble_eq_true rfl, Nat.le_of_ble_eq_true rfl⟩ ⟨Nat.le_of_ble_eq_true rfl, Nat.le_of_ble_eq_true rfl⟩ hK hP hS hl.1 (rest := []) (Nat.le_of_ble_eq_true rfl) dX7_logic_3 h1 (fun H locs hP hS => ?_)
  refine lv_aload_n hx hb dX7_logic_6 rfl (lv_at hl 0 rfl) ?_
  refine lv_iconst (v := 2) hx hb dX7_logic_7 (by decide) ?_
  refine lv_iconst (v := 0) hx hb dX7_logic_8 (by decide) ?_
  obtain ⟨S2, h2, hs⟩ := bv_e hs
  refine kX7_flag C tM_X7_160 ⟨Nat.le_of_ble_eq_true rfl, Nat.le_of_ble_eq_true rfl⟩ ⟨Nat.le_of_ble_eq_true rfl, Nat.le_of_ble_eq_true rfl⟩ hK hP hS hl.1 (rest := []) (Nat.le_of_ble_eq_true rfl) dX7_logic_9 h2 (fun H locs hP hS => ?_)
  refine lv_aload_n hx hb dX7_logic_12 rfl (lv_at hl 0 rfl) ?_
  refine lv_iconst (v := 1) hx hb dX7_logic_13 (by decide) ?_
  refine lv_iconst (v := 0) hx hb dX7_logic_14 (by decide) ?_
  obtain ⟨S3, h3, hs⟩ := bv_e hs
  refine kX7_flag C tM_X7_160 ⟨Nat.le_of_ble_eq_true rfl, Nat.le_of_ble_eq_true rfl⟩ ⟨Nat.le_of_ble_eq_true rfl, Nat.le_of_ble_eq_true rfl⟩ hK hP hS hl.1 (rest := []) (Nat.le_of_ble_eq_true rfl) dX7_logic_15 h3 (fun H locs hP hS => ?_)
  exact u_vret hx hb hr hlocks hP hS hs dX7_logic_18
theorem kX7_logic {p : Program} {l : Launch} {e : Env} {R : Room} {s : State} {m : MethodId} {args : Array Value} {below : List Frame} {meth : Method} {c : Code} {H : Heap} {locs : List Loc} {cells slots : Nat} {Q : State → Prop} {cc : ByteArray} {pc nL : Nat} {ls : Array Slot} {rest : List Value} {D : va_G} {ad : Nat → Nat} {cI cB : ClassId} {en : Nat → Nat} {S : St} {own : String} {index : Nat} {x1 : Int32} {x2 : Int32} {So : St} (C : CallFix p m c cc nL s args wG own) (hlk : Cond.methodLink own index yX7_logic ∈ wG) (hR : rmX7_logic.frames + 1 ≤ R.frames ∧ 8 + (3 + 11) + rmX7_logic.locals ≤ R.locals) (hc : cells ≤ R.cells ∧ slots ≤ R.slots) (hK : KM D ad cI cB en s) (hP : va_P D vwCl (wM ad cI cB S) H) (hS : va_S (AX 11 ad s.heap.size) s.heap H locs) (hls : ls.size = nL) (hrest : (rest.map fun v => v.category).sum ≤ 8) (hd : decode cc pc = .ok (.invokevirtual index, 3)) (hs : fX7_logic x1 x2 S = some So) (k : ∀ (H : Heap) (locs : List Loc), va_P D vwCl (wM ad cI cB So) H → va_S (AX 11 ad s.heap.size) s.heap H locs → W p l e R s m args below meth c H locs cells slots Q (F0 m (pc + 3) ls (rest))) : W p l e R s m args below meth c H locs cells slots Q (F0 m pc ls (.int x2 :: .int x1 :: .ref (ad 0) :: rest)) :=
  u_callV (n := 2) (mX7_logic l D ad cI cB en S x1 x2 So hs) C uK_M (wg_V hlk tI_X7_logic tS_X7_logic tN_X7 tK_X7_logic) rfl rfl rfl (by decide +kernel) hR rfl (va_recv hK.1 hP (ci := 6) (q0 := 0) rfl rfl) hK hP hS hls hrest hd hc rfl k
def fX7_reckon (x1 : Int32) (x2 : Int32) (x3 : Int32) (z4 : Bool) (x5 : Int32) (z6 : Bool) (z7 : Bool) (S : St) : Option (Int32 × St) :=
    (jn (fun (w1 : Int64) (S1 : St) => (jn (fun (w2 : Int64) (S2 : St) => (bd (fX7_plain (w1.toInt32) x5 S2) fun w3 S3 => (lt ((w3.toInt32) : Int32) fun v1 => (bd (fX7_has 4 S3) fun b1 S4 => (bv (fX7_signs v1 x5 S4) fun S5 => (jn (fun (S6 : St) => (bd (fX7_extended v1 x5 S6) fun r1 S7 => (jn (fun (b2 : Bool) => (bv (fX7_flag 2 b2 S7) fun S8 => (bd (fX7_plain v1 x5 S8) fun w4 S9 => (jn (fun (b3 : Bool) => (bv (fX7_flag 1 b3 S9) fun S10 => (if (zI z6) = 0 then (some (v1, S10))
    else (bd (fX7_has 1 S10) fun b4 S11 => (bv (fX7_flag 16 b4 S11) fun S12 => (some (v1, S12))))))) fun K5 =>
    (if (lg_cmp w2 w4) = 0 then (K5 false)
    else (K5 true)))))) fun K4 =>
    (if (lg_cmp w1 (r1.toInt64)) = 0 then (K4 false)
    else (K4 true))))) fun K3 =>
    (if (zI z7) = 0 then (K3 S5)
    else (jn (fun (b5 : Bool) (S13 : St) => (bv (fX7_flag 4 b5 S13) fun S14 => (K3 S14))) fun K6 =>
    (if (zI b1) = 0 then (K6 false S5)
    else (bd (fX7_plain v1 x5 S5) fun w5 S15 => (if (lg_cmp w5 0) = 0 then (K6 true S15)
    else (K6 false S15)))))))))))) fun K2 =>
    (if (zI z4) = 0 then (bd (fX7_plain x1 x5 S1) fun w6 S16 => (bd (fX7_plain x2 x5 S16) fun w7 S17 => (K2 ((w6 + w7) + (x3.toInt64)) S17)))
    else (bd (fX7_plain x1 x5 S1) fun w8 S18 => (bd (fX7_plain x2 x5 S18) fun w9 S19 => (K2 ((w8 - w9) - (x3.toInt64)) S19)))))) fun K1 =>
    (if (zI z4) = 0 then (bd (fX7_extended x1 x5 S) fun r2 S20 => (bd (fX7_extended x2 x5 S20) fun r3 S21 => (K1 (((r2.toInt64) + (r3.toInt64)) + (x3.toInt64)) S21)))
    else (bd (fX7_extended x1 x5 S) fun r4 S22 => (bd (fX7_extended x2 x5 S22) fun r5 S23 => (K1 (((r4.toInt64) - (r5.toInt64)) - (x3.toInt64)) S23)))))
abbrev rmX7_reckon : Room := { frames := 2, cells := 0, slots := 0, locals := 44 }
set_option maxRecDepth 100000 in
set_option maxHeartbeats 4000000 in
theorem mX7_reckon (l : Launch) (D : va_G) (ad : Nat → Nat) (cI cB : ClassId) (en : Nat → Nat) (S : St) (x1 : Int32) (x2 : Int32) (x3 : Int32) (z4 : Bool) (x5 : Int32) (z6 : Bool) (z7 : Bool) (ro : Int32) (So : St) (hs : fX7_reckon x1 x2 x3 z4 x5 z6 z7 S = some (ro, So)) : uM l yX7_reckon (wg yX7_reckon cX7_reckon 14 (some .int)) rmX7_reckon (KM D ad cI cB en) D (wM ad cI cB) (AX 11 ad) [.ref (ad 0), .int x1, .int x2, .int x3, .int (zI z4), .int x5, .int (zI z6), .int (zI z7)] S (some (.int ro), So) := by
  refine uM_start (by decide) rfl ?_
  intro p e s m below meth c hx hb hr hlocks hml hown hts hK hP
  have hT : ∀ w ∈ wG, w.before _ s = true := fun w h => hts w (List.mem_cons_of_mem _ h)
  have hS : va_S (AX 11 ad s.heap.size) s.heap s.heap [] := va_S.rf
  have hown : s.vm.findClass RX7 = some m.cls := hown
  have C : CallFix p m c cX7_reckon 14 s _ wG RX7 := ⟨hx, hb, hml, hown, hT⟩
  have hl := lv_entry ([.ref (ad 0), .int x1, .int x2, .int x3, .int (zI z4), .int x5, .int (zI z6), .int (zI z7)]) (n := 14) (Nat.le_of_ble_eq_true rfl)
  rw [lg_entry_eq]
  generalize (lg_sl ([.ref (ad 0), .int x1, .int x2, .int x3, .int (zI z4), .int x5, .int (zI z6), .int (zI z7)]) ++ List.replicate (14 - (lg_sl ([.ref (ad 0), .int x1, .int x2, .int x3, .int (zI z4), .int x5, .int (zI z6), .int (zI z7)])).length) Slot.unset).toArray = ls at hl ⊢
  have hl : lv_has ls 14 [(0, .ref (ad 0)), (1, .int x1), (2, .int x2), (3, .int x3), (4, .int (zI z4)), (5, .int x5), (6, .int (zI z6)), (7, .int (zI z7))] := hl
  unfold fX7_reckon at hs
  refine lv_iload hx hb dX7_reckon_0 (lv_at hl 4 rfl) ?_
  refine jn_e hs (fun K1 => ∀ (w1 : Int64) (S1 : St) (H : Heap) (locs : List Loc) (ls : Array Slot), lv_has ls 14 [(0, .ref (ad 0)), (1, .int x1), (2, .int x2), (3, .int x3), (4, .int (zI z4)), (5, .int x5), (6, .int (zI z6)), (7, .int (zI z7))] → va_P D vwCl (wM ad cI cB S1) H → va_S (AX 11 ad s.heap.size) s.heap H locs → K1 w1 S1 = some (ro, So) → W p l e rmX7_reckon s m ([.ref (ad 0), .int x1, .int x2, .int x3, .int (zI z4), .int x5, .int (zI z6), .int (zI z7)] : List Value).toArray below meth c H locs 0 0 (MQ below (uQ D (wM ad cI cB) (some (.int ro), So) (AX 11 ad s.heap.size)) ([.ref (ad 0), .int x1, .int x2, .int x3, .int (zI z4), .int x5, .int (zI z6), .int (zI z7)] : List Value).toArray s 0 0 (AX 11 ad s.heap.size)) (F0 m 44 ls [.long w1])) ?_ (fun K1 J1 hs => ?_)
  · intro w1 S1 H locs ls hl hP hS hs
    refine lv_lstore (lv' := [(8, .long w1), (0, .ref (ad 0)), (1, .int x1), (2, .int x2), (3, .int x3), (4, .int (zI z4)), (5, .int x5), (6, .int (zI z6)), (7, .int (zI z7))]) hx hb dX7_reckon_44 hl (by decide) rfl (fun ls hl => ?_)
    refine lv_iload hx hb dX7_reckon_46 (lv_at hl 5 rfl) ?_
    refine jn_e hs (fun K2 => ∀ (w2 : Int64) (S2 : St) (H : Heap) (locs : List Loc) (ls : Array Slot), lv_has ls 14 [(8, .long w1), (0, .ref (ad 0)), (5, .int x5), (6, .int (zI z6)), (7, .int (zI z7))] → va_P D vwCl (wM ad cI cB S2) H → va_S (AX 11 ad s.heap.size) s.heap H locs → K2 w2 S2 = some (ro, So) → W p l e rmX7_reckon s m ([.ref (ad 0), .int x1, .int x2, .int x3, .int (zI z4), .int x5, .int (zI z6), .int (zI z7)] : List Value).toArray below meth c H locs 0 0 (MQ below (uQ D (wM ad cI cB) (some (.int ro), So) (AX 11 ad s.heap.size)) ([.ref (ad 0), .int x1, .int x2, .int x3, .int (zI z4), .int x5, .int (zI z6), .int (zI z7)] : List Value).toArray s 0 0 (AX 11 ad s.heap.size)) (F0 m 86 ls [.long w2])) ?_ (fun K2 J2 hs => ?_)
    · intro w2 S2 H locs ls hl hP hS hs
      refine lv_lstore (lv' := [(10, .long w2), (8, .long w1), (0, .ref (ad 0)), (5, .int x5), (6, .int (zI z6)), (7, .int (zI z7))]) hx hb dX7_reckon_86 hl (by decide) rfl (fun ls hl => ?_)
      refine lv_lload hx hb dX7_reckon_88 (lv_at hl 1 rfl) ?_
      refine lv_l2i (v := (w1.toInt32)) hx hb dX7_reckon_90 rfl ?_
      refine lv_iload hx hb dX7_reckon_91 (lv_at hl 3 rfl) ?_
      obtain ⟨w3, S3, h1, hs⟩ := bd_e hs
      refine kX7_plain C tM_X7_144 ⟨Nat.le_of_ble_eq_true rfl, Nat.le_of_ble_eq_true rfl⟩ ⟨Nat.le_of_ble_eq_true rfl, Nat.le_of_ble_eq_true rfl⟩ hK hP hS hl.1 (rest := []) (Nat.le_of_ble_eq_true rfl) dX7_reckon_93 h1 (fun H locs hP hS => ?_)
      refine lv_l2i (v := (w3.toInt32)) hx hb dX7_reckon_96 rfl ?_
      obtain ⟨v1, h2, hs⟩ := lt_e hs
      refine u_top h2 ?_
      refine lv_istore (lv' := [(12, .int v1), (10, .long w2), (8, .long w1), (0, .ref (ad 0)), (5, .int x5), (6, .int (zI z6)), (7, .int (zI z7))]) hx hb dX7_reckon_97 hl (by decide) rfl (fun ls hl => ?_)
      refine lv_aload_n hx hb dX7_reckon_99 rfl (lv_at hl 3 rfl) ?_
      refine lv_iconst (v := 4) hx hb dX7_reckon_100 (by decide) ?_
      obtain ⟨b1, S4, h3, hs⟩ := bd_e hs
      refine kX7_has C tM_X7_154 ⟨Nat.le_of_ble_eq_true rfl, Nat.le_of_ble_eq_true rfl⟩ ⟨Nat.le_of_ble_eq_true rfl, Nat.le_of_ble_eq_true rfl⟩ hK hP hS hl.1 (rest := []) (Nat.le_of_ble_eq_true rfl) dX7_reckon_101 h3 (fun H locs hP hS => ?_)
      refine lv_istore (lv' := [(13, .int (zI b1)), (12, .int v1), (10, .long w2), (8, .long w1), (0, .ref (ad 0)), (5, .int x5), (6, .int (zI z6)), (7, .int (zI z7))]) hx hb dX7_reckon_104 hl (by decide) rfl (fun ls hl => ?_)
      refine lv_aload_n hx hb dX7_reckon_106 rfl (lv_at hl 4 rfl) ?_
      refine lv_iload hx hb dX7_reckon_107 (lv_at hl 1 rfl) ?_
      refine lv_iload hx hb dX7_reckon_109 (lv_at hl 5 rfl) ?_
      obtain ⟨S5, h4, hs⟩ := bv_e hs
      refine kX7_signs C tM_X7_164 ⟨Nat.le_of_ble_eq_true rfl, Nat.le_of_ble_eq_true rfl⟩ ⟨Nat.le_of_ble_eq_true rfl, Nat.le_of_ble_eq_true rfl⟩ hK hP hS hl.1 (rest := []) (Nat.le_of_ble_eq_true rfl) dX7_reckon_111 h4 (fun H locs hP hS => ?_)
      refine lv_iload hx hb dX7_reckon_114 (lv_at hl 7 rfl) ?_
      refine jn_e hs (fun K3 => ∀ (S6 : St) (H : Heap) (locs : List Loc) (ls : Array Slot), lv_has ls 14 [(12, .int v1), (10, .long w2), (8, .long w1), (0, .ref (ad 0)), (5, .int x5), (6, .int (zI z6))] → va_P D vwCl (wM ad cI cB S6) H → va_S (AX 11 ad s.heap.size) s.heap H locs → K3 S6 = some (ro, So) → W p l e rmX7_reckon s m ([.ref (ad 0), .int x1, .int x2, .int x3, .int (zI z4), .int x5, .int (zI z6), .int (zI z7)] : List Value).toArray below meth c H locs 0 0 (MQ below (uQ D (wM ad cI cB) (some (.int ro), So) (AX 11 ad s.heap.size)) ([.ref (ad 0), .int x1, .int x2, .int x3, .int (zI z4), .int x5, .int (zI z6), .int (zI z7)] : List Value).toArray s 0 0 (AX 11 ad s.heap.size)) (F0 m 146 ls [])) ?_ (fun K3 J3 hs => ?_)
      · intro S6 H locs ls hl hP hS hs
        refine lv_aload_n hx hb dX7_reckon_146 rfl (lv_at hl 3 rfl) ?_
        refine lv_iconst (v := 2) hx hb dX7_reckon_147 (by decide) ?_
        refine lv_lload hx hb dX7_reckon_148 (lv_at hl 2 rfl) ?_
        refine lv_iload hx hb dX7_reckon_150 (lv_at hl 0 rfl) ?_
        refine lv_iload hx hb dX7_reckon_152 (lv_at hl 4 rfl) ?_
        obtain ⟨r1, S7, h5, hs⟩ := bd_e hs
        refine kX7_extended C tM_X7_157 ⟨Nat.le_of_ble_eq_true rfl, Nat.le_of_ble_eq_true rfl⟩ ⟨Nat.le_of_ble_eq_true rfl, Nat.le_of_ble_eq_true rfl⟩ hK hP hS hl.1 (rest := [.long w1, .int 2, .ref (ad 0)]) (Nat.le_of_ble_eq_true rfl) dX7_reckon_154 h5 (fun H locs hP hS => ?_)
        refine lv_i2l (v := (r1.toInt64)) hx hb dX7_reckon_157 rfl ?_
        refine W.lcmp hx hb dX7_reckon_158 ?_
        refine jn_e hs (fun K4 => ∀ (b2 : Bool) (H : Heap) (locs : List Loc) (ls : Array Slot), lv_has ls 14 [(12, .int v1), (10, .long w2), (0, .ref (ad 0)), (5, .int x5), (6, .int (zI z6))] → va_P D vwCl (wM ad cI cB S7) H → va_S (AX 11 ad s.heap.size) s.heap H locs → K4 b2 = some (ro, So) → W p l e rmX7_reckon s m ([.ref (ad 0), .int x1, .int x2, .int x3, .int (zI z4), .int x5, .int (zI z6), .int (zI z7)] : List Value).toArray below meth c H locs 0 0 (MQ below (uQ D (wM ad cI cB) (some (.int ro), So) (AX 11 ad s.heap.size)) ([.ref (ad 0), .int x1, .int x2, .int x3, .int (zI z4), .int x5, .int (zI z6), .int (zI z7)] : List Value).toArray s 0 0 (AX 11 ad s.heap.size)) (F0 m 167 ls [.int (zI b2), .int 2, .ref (ad 0)])) ?_ (fun K4 J4 hs => ?_)
        · intro b2 H locs ls hl hP hS hs
          obtain ⟨S8, h6, hs⟩ := bv_e hs
          refine kX7_flag C tM_X7_160 ⟨Nat.le_of_ble_eq_true rfl, Nat.le_of_ble_eq_true rfl⟩ ⟨Nat.le_of_ble_eq_true rfl, Nat.le_of_ble_eq_true rfl⟩ hK hP hS hl.1 (rest := []) (Nat.le_of_ble_eq_true rfl) dX7_reckon_167 h6 (fun H locs hP hS => ?_)
          refine lv_aload_n hx hb dX7_reckon_170 rfl (lv_at hl 2 rfl) ?_
          refine lv_iconst (v := 1) hx hb dX7_reckon_171 (by decide) ?_
          refine lv_lload hx hb dX7_reckon_172 (lv_at hl 1 rfl) ?_
          refine lv_iload hx hb dX7_reckon_174 (lv_at hl 0 rfl) ?_
          refine lv_iload hx hb dX7_reckon_176 (lv_at hl 3 rfl) ?_
          obtain ⟨w4, S9, h7, hs⟩ := bd_e hs
          refine kX7_plain C tM_X7_144 ⟨Nat.le_of_ble_eq_true rfl, Nat.le_of_ble_eq_true rfl⟩ ⟨Nat.le_of_ble_eq_true rfl, Nat.le_of_ble_eq_true rfl⟩ hK hP hS hl.1 (rest := [.long w2, .int 1, .ref (ad 0)]) (Nat.le_of_ble_eq_true rfl) dX7_reckon_178 h7 (fun H locs hP hS => ?_)
          refine W.lcmp hx hb dX7_reckon_181 ?_
          refine jn_e hs (fun K5 => ∀ (b3 : Bool) (H : Heap) (locs : List Loc) (ls : Array Slot), lv_has ls 14 [(12, .int v1), (0, .ref (ad 0)), (6, .int (zI z6))] → va_P D vwCl (wM ad cI cB S9) H → va_S (AX 11 ad s.heap.size) s.heap H locs → K5 b3 = some (ro, So) → W p l e rmX7_reckon s m ([.ref (ad 0), .int x1, .int x2, .int x3, .int (zI z4), .int x5, .int (zI z6), .int (zI z7)] : List Value).toArray below meth c H locs 0 0 (MQ below (uQ D (wM ad cI cB) (some (.int ro), So) (AX 11 ad s.heap.size)) ([.ref (ad 0), .int x1, .int x2, .int x3, .int (zI z4), .int x5, .int (zI z6), .int (zI z7)] : List Value).toArray s 0 0 (AX 11 ad s.heap.size)) (F0 m 190 ls [.int (zI b3), .int 1, .ref (ad 0)])) ?_ (fun K5 J5 hs => ?_)
          · intro b3 H locs ls hl hP hS hs
            obtain ⟨S10, h8, hs⟩ := bv_e hs
            refine kX7_flag C tM_X7_160 ⟨Nat.le_of_ble_eq_true rfl, Nat.le_of_ble_eq_true rfl⟩ ⟨Nat.le_of_ble_eq_true rfl, Nat.le_of_ble_eq_true rfl⟩ hK hP hS hl.1 (rest := []) (Nat.le_of_ble_eq_true rfl) dX7_reckon_190 h8 (fun H locs hP hS => ?_)
            refine lv_iload hx hb dX7_reckon_193 (lv_at hl 2 rfl) ?_
            refine lv_if_eq (tgt := 209) hx hb dX7_reckon_195 (by decide) (fun c1 => ?_) (fun c1 => ?_)
            · have hs := if_t c1 hs
              refine lv_iload hx hb dX7_reckon_209 (lv_at hl 0 rfl) ?_
              exact u_iret hx hb hr hlocks hP hS hs dX7_reckon_211
            · have hs := if_f c1 hs
              refine lv_aload_n hx hb dX7_reckon_198 rfl (lv_at hl 1 rfl) ?_
              refine lv_bipush (v := 16) hx hb dX7_reckon_199 (by decide) ?_
              refine lv_aload_n hx hb dX7_reckon_201 rfl (lv_at hl 1 rfl) ?_
              refine lv_iconst (v := 1) hx hb dX7_reckon_202 (by decide) ?_
              obtain ⟨b4, S11, h9, hs⟩ := bd_e hs
              refine kX7_has C tM_X7_154 ⟨Nat.le_of_ble_eq_true rfl, Nat.le_of_ble_eq_true rfl⟩ ⟨Nat.le_of_ble_eq_true rfl, Nat.le_of_ble_eq_true rfl⟩ hK hP hS hl.1 (rest := [.int 16, .ref (ad 0)]) (Nat.le_of_ble_eq_true rfl) dX7_reckon_203 h9 (fun H locs hP hS => ?_)
              obtain ⟨S12, h10, hs⟩ := bv_e hs
              refine kX7_flag C tM_X7_160 ⟨Nat.le_of_ble_eq_true rfl, Nat.le_of_ble_eq_true rfl⟩ ⟨Nat.le_of_ble_eq_true rfl, Nat.le_of_ble_eq_true rfl⟩ hK hP hS hl.1 (rest := []) (Nat.le_of_ble_eq_true rfl) dX7_reckon_206 h10 (fun H locs hP hS => ?_)
              refine lv_iload hx hb dX7_reckon_209 (lv_at hl 0 rfl) ?_
              exact u_iret hx hb hr hlocks hP hS hs dX7_reckon_211
          ·
            refine lv_if_eq (tgt := 189) hx hb dX7_reckon_182 (by decide) (fun c2 => ?_) (fun c2 => ?_)
            · have hs := if_t c2 hs
              refine lv_iconst (v := 0) hx hb dX7_reckon_189 (by decide) ?_
              exact J5 false _ _ _ (lv_sub hl [0, 2, 4] rfl) hP hS hs
            · have hs := if_f c2 hs
              refine lv_iconst (v := 1) hx hb dX7_reckon_185 (by decide) ?_
              refine lv_goto (tgt := 190) hx hb dX7_reckon_186 (by decide) ?_
              exact J5 true _ _ _ (lv_sub hl [0, 2, 4] rfl) hP hS hs
        ·
          refine lv_if_eq (tgt := 166) hx hb dX7_reckon_159 (by decide) (fun c3 => ?_) (fun c3 => ?_)
          · have hs := if_t c3 hs
            refine lv_iconst (v := 0) hx hb dX7_reckon_166 (by decide) ?_
            exact J4 false _ _ _ (lv_sub hl [0, 1, 3, 4, 5] rfl) hP hS hs
          · have hs := if_f c3 hs
            refine lv_iconst (v := 1) hx hb dX7_reckon_162 (by decide) ?_
            refine lv_goto (tgt := 167) hx hb dX7_reckon_163 (by decide) ?_
            exact J4 true _ _ _ (lv_sub hl [0, 1, 3, 4, 5] rfl) hP hS hs
      ·
        refine lv_if_eq (tgt := 146) hx hb dX7_reckon_116 (by decide) (fun c4 => ?_) (fun c4 => ?_)
        · have hs := if_t c4 hs
          exact J3 S5 _ _ _ (lv_sub hl [1, 2, 3, 4, 5, 6] rfl) hP hS hs
        · have hs := if_f c4 hs
          refine lv_aload_n hx hb dX7_reckon_119 rfl (lv_at hl 4 rfl) ?_
          refine lv_iconst (v := 4) hx hb dX7_reckon_120 (by decide) ?_
          refine lv_iload hx hb dX7_reckon_121 (lv_at hl 0 rfl) ?_
          refine jn_e hs (fun K6 => ∀ (b5 : Bool) (S13 : St) (H : Heap) (locs : List Loc) (ls : Array Slot), lv_has ls 14 [(12, .int v1), (10, .long w2), (8, .long w1), (0, .ref (ad 0)), (5, .int x5), (6, .int (zI z6))] → va_P D vwCl (wM ad cI cB S13) H → va_S (AX 11 ad s.heap.size) s.heap H locs → K6 b5 S13 = some (ro, So) → W p l e rmX7_reckon s m ([.ref (ad 0), .int x1, .int x2, .int x3, .int (zI z4), .int x5, .int (zI z6), .int (zI z7)] : List Value).toArray below meth c H locs 0 0 (MQ below (uQ D (wM ad cI cB) (some (.int ro), So) (AX 11 ad s.heap.size)) ([.ref (ad 0), .int x1, .int x2, .int x3, .int (zI z4), .int x5, .int (zI z6), .int (zI z7)] : List Value).toArray s 0 0 (AX 11 ad s.heap.size)) (F0 m 143 ls [.int (zI b5), .int 4, .ref (ad 0)])) ?_ (fun K6 J6 hs => ?_)
          · intro b5 S13 H locs ls hl hP hS hs
            obtain ⟨S14, h11, hs⟩ := bv_e hs
            refine kX7_flag C tM_X7_160 ⟨Nat.le_of_ble_eq_true rfl, Nat.le_of_ble_eq_true rfl⟩ ⟨Nat.le_of_ble_eq_true rfl, Nat.le_of_ble_eq_true rfl⟩ hK hP hS hl.1 (rest := []) (Nat.le_of_ble_eq_true rfl) dX7_reckon_143 h11 (fun H locs hP hS => ?_)
            exact J3 S14 _ _ _ (lv_sub hl [0, 1, 2, 3, 4, 5] rfl) hP hS hs
          ·
            refine lv_if_eq (tgt := 142) hx hb dX7_reckon_123 (by decide) (fun c5 => ?_) (fun c5 => ?_)
            · have hs := if_t c5 hs
              refine lv_iconst (v := 0) hx hb dX7_reckon_142 (by decide) ?_
              exact J6 false S5 _ _ _ (lv_sub hl [1, 2, 3, 4, 5, 6] rfl) hP hS hs
            · have hs := if_f c5 hs
              refine lv_iload hx hb dX7_reckon_126 (lv_at hl 1 rfl) ?_
              refine lv_iload hx hb dX7_reckon_128 (lv_at hl 5 rfl) ?_
              obtain ⟨w5, S15, h12, hs⟩ := bd_e hs
              refine kX7_plain C tM_X7_144 ⟨Nat.le_of_ble_eq_true rfl, Nat.le_of_ble_eq_true rfl⟩ ⟨Nat.le_of_ble_eq_true rfl, Nat.le_of_ble_eq_true rfl⟩ hK hP hS hl.1 (rest := [.int 4, .ref (ad 0)]) (Nat.le_of_ble_eq_true rfl) dX7_reckon_130 h12 (fun H locs hP hS => ?_)
              refine lv_lconst (v := 0) hx hb dX7_reckon_133 (by decide) ?_
              refine W.lcmp hx hb dX7_reckon_134 ?_
              refine lv_if_ne (tgt := 142) hx hb dX7_reckon_135 (by decide) (fun c6 => ?_) (fun c6 => ?_)
              · have hs := if_f c6 hs
                refine lv_iconst (v := 0) hx hb dX7_reckon_142 (by decide) ?_
                exact J6 false S15 _ _ _ (lv_sub hl [1, 2, 3, 4, 5, 6] rfl) hP hS hs
              · have hs := if_t c6 hs
                refine lv_iconst (v := 1) hx hb dX7_reckon_138 (by decide) ?_
                refine lv_goto (tgt := 143) hx hb dX7_reckon_139 (by decide) ?_
                exact J6 true S15 _ _ _ (lv_sub hl [1, 2, 3, 4, 5, 6] rfl) hP hS hs
    ·
      refine lv_if_eq (tgt := 70) hx hb dX7_reckon_48 (by decide) (fun c7 => ?_) (fun c7 => ?_)
      · have hs := if_t c7 hs
        refine lv_iload_n hx hb dX7_reckon_70 rfl (lv_at hl 2 rfl) ?_
        refine lv_iload hx hb dX7_reckon_71 (lv_at hl 6 rfl) ?_
        obtain ⟨w6, S16, h13, hs⟩ := bd_e hs
        refine kX7_plain C tM_X7_144 ⟨Nat.le_of_ble_eq_true rfl, Nat.le_of_ble_eq_true rfl⟩ ⟨Nat.le_of_ble_eq_true rfl, Nat.le_of_ble_eq_true rfl⟩ hK hP hS hl.1 (rest := []) (Nat.le_of_ble_eq_true rfl) dX7_reckon_73 h13 (fun H locs hP hS => ?_)
        refine lv_iload_n hx hb dX7_reckon_76 rfl (lv_at hl 3 rfl) ?_
        refine lv_iload hx hb dX7_reckon_77 (lv_at hl 6 rfl) ?_
        obtain ⟨w7, S17, h14, hs⟩ := bd_e hs
        refine kX7_plain C tM_X7_144 ⟨Nat.le_of_ble_eq_true rfl, Nat.le_of_ble_eq_true rfl⟩ ⟨Nat.le_of_ble_eq_true rfl, Nat.le_of_ble_eq_true rfl⟩ hK hP hS hl.1 (rest := [.long w6]) (Nat.le_of_ble_eq_true rfl) dX7_reckon_79 h14 (fun H locs hP hS => ?_)
        refine lv_ladd hx hb dX7_reckon_82 ?_
        refine lv_iload_n hx hb dX7_reckon_83 rfl (lv_at hl 4 rfl) ?_
        refine lv_i2l (v := (x3.toInt64)) hx hb dX7_reckon_84 rfl ?_
        refine lv_ladd hx hb dX7_reckon_85 ?_
        exact J2 ((w6 + w7) + (x3.toInt64)) S17 _ _ _ (lv_sub hl [0, 1, 6, 7, 8] rfl) hP hS hs
      · have hs := if_f c7 hs
        refine lv_iload_n hx hb dX7_reckon_51 rfl (lv_at hl 2 rfl) ?_
        refine lv_iload hx hb dX7_reckon_52 (lv_at hl 6 rfl) ?_
        obtain ⟨w8, S18, h15, hs⟩ := bd_e hs
        refine kX7_plain C tM_X7_144 ⟨Nat.le_of_ble_eq_true rfl, Nat.le_of_ble_eq_true rfl⟩ ⟨Nat.le_of_ble_eq_true rfl, Nat.le_of_ble_eq_true rfl⟩ hK hP hS hl.1 (rest := []) (Nat.le_of_ble_eq_true rfl) dX7_reckon_54 h15 (fun H locs hP hS => ?_)
        refine lv_iload_n hx hb dX7_reckon_57 rfl (lv_at hl 3 rfl) ?_
        refine lv_iload hx hb dX7_reckon_58 (lv_at hl 6 rfl) ?_
        obtain ⟨w9, S19, h16, hs⟩ := bd_e hs
        refine kX7_plain C tM_X7_144 ⟨Nat.le_of_ble_eq_true rfl, Nat.le_of_ble_eq_true rfl⟩ ⟨Nat.le_of_ble_eq_true rfl, Nat.le_of_ble_eq_true rfl⟩ hK hP hS hl.1 (rest := [.long w8]) (Nat.le_of_ble_eq_true rfl) dX7_reckon_60 h16 (fun H locs hP hS => ?_)
        refine lv_lsub hx hb dX7_reckon_63 ?_
        refine lv_iload_n hx hb dX7_reckon_64 rfl (lv_at hl 4 rfl) ?_
        refine lv_i2l (v := (x3.toInt64)) hx hb dX7_reckon_65 rfl ?_
        refine lv_lsub hx hb dX7_reckon_66 ?_
        refine lv_goto (tgt := 86) hx hb dX7_reckon_67 (by decide) ?_
        exact J2 ((w8 - w9) - (x3.toInt64)) S19 _ _ _ (lv_sub hl [0, 1, 6, 7, 8] rfl) hP hS hs
  ·
    refine lv_if_eq (tgt := 26) hx hb dX7_reckon_2 (by decide) (fun c8 => ?_) (fun c8 => ?_)
    · have hs := if_t c8 hs
      refine lv_iload_n hx hb dX7_reckon_26 rfl (lv_at hl 1 rfl) ?_
      refine lv_iload hx hb dX7_reckon_27 (lv_at hl 5 rfl) ?_
      obtain ⟨r2, S20, h17, hs⟩ := bd_e hs
      refine kX7_extended C tM_X7_157 ⟨Nat.le_of_ble_eq_true rfl, Nat.le_of_ble_eq_true rfl⟩ ⟨Nat.le_of_ble_eq_true rfl, Nat.le_of_ble_eq_true rfl⟩ hK hP hS hl.1 (rest := []) (Nat.le_of_ble_eq_true rfl) dX7_reckon_29 h17 (fun H locs hP hS => ?_)
      refine lv_i2l (v := (r2.toInt64)) hx hb dX7_reckon_32 rfl ?_
      refine lv_iload_n hx hb dX7_reckon_33 rfl (lv_at hl 2 rfl) ?_
      refine lv_iload hx hb dX7_reckon_34 (lv_at hl 5 rfl) ?_
      obtain ⟨r3, S21, h18, hs⟩ := bd_e hs
      refine kX7_extended C tM_X7_157 ⟨Nat.le_of_ble_eq_true rfl, Nat.le_of_ble_eq_true rfl⟩ ⟨Nat.le_of_ble_eq_true rfl, Nat.le_of_ble_eq_true rfl⟩ hK hP hS hl.1 (rest := [.long (r2.toInt64)]) (Nat.le_of_ble_eq_true rfl) dX7_reckon_36 h18 (fun H locs hP hS => ?_)
      refine lv_i2l (v := (r3.toInt64)) hx hb dX7_reckon_39 rfl ?_
      refine lv_ladd hx hb dX7_reckon_40 ?_
      refine lv_iload_n hx hb dX7_reckon_41 rfl (lv_at hl 3 rfl) ?_
      refine lv_i2l (v := (x3.toInt64)) hx hb dX7_reckon_42 rfl ?_
      refine lv_ladd hx hb dX7_reckon_43 ?_
      exact J1 (((r2.toInt64) + (r3.toInt64)) + (x3.toInt64)) S21 _ _ _ (lv_sub hl [0, 1, 2, 3, 4, 5, 6, 7] rfl) hP hS hs
    · have hs := if_f c8 hs
      refine lv_iload_n hx hb dX7_reckon_5 rfl (lv_at hl 1 rfl) ?_
      refine lv_iload hx hb dX7_reckon_6 (lv_at hl 5 rfl) ?_
      obtain ⟨r4, S22, h19, hs⟩ := bd_e hs
      refine kX7_extended C tM_X7_157 ⟨Nat.le_of_ble_eq_true rfl, Nat.le_of_ble_eq_true rfl⟩ ⟨Nat.le_of_ble_eq_true rfl, Nat.le_of_ble_eq_true rfl⟩ hK hP hS hl.1 (rest := []) (Nat.le_of_ble_eq_true rfl) dX7_reckon_8 h19 (fun H locs hP hS => ?_)
      refine lv_i2l (v := (r4.toInt64)) hx hb dX7_reckon_11 rfl ?_
      refine lv_iload_n hx hb dX7_reckon_12 rfl (lv_at hl 2 rfl) ?_
      refine lv_iload hx hb dX7_reckon_13 (lv_at hl 5 rfl) ?_
      obtain ⟨r5, S23, h20, hs⟩ := bd_e hs
      refine kX7_extended C tM_X7_157 ⟨Nat.le_of_ble_eq_true rfl, Nat.le_of_ble_eq_true rfl⟩ ⟨Nat.le_of_ble_eq_true rfl, Nat.le_of_ble_eq_true rfl⟩ hK hP hS hl.1 (rest := [.long (r4.toInt64)]) (Nat.le_of_ble_eq_true rfl) dX7_reckon_15 h20 (fun H locs hP hS => ?_)
      refine lv_i2l (v := (r5.toInt64)) hx hb dX7_reckon_18 rfl ?_
      refine lv_lsub hx hb dX7_reckon_19 ?_
      refine lv_iload_n hx hb dX7_reckon_20 rfl (lv_at hl 3 rfl) ?_
      refine lv_i2l (v := (x3.toInt64)) hx hb dX7_reckon_21 rfl ?_
      refine lv_lsub hx hb dX7_reckon_22 ?_
      refine lv_goto (tgt := 44) hx hb dX7_reckon_23 (by decide) ?_
      exact J1 (((r4.toInt64) - (r5.toInt64)) - (x3.toInt64)) S23 _ _ _ (lv_sub hl [0, 1, 2, 3, 4, 5, 6, 7] rfl) hP hS hs
theorem kX7_reckon {p : Program} {l : Launch} {e : Env} {R : Room} {s : State} {m : MethodId} {args : Array Value} {below : List Frame} {meth : Method} {c : Code} {H : Heap} {locs : List Loc} {cells slots : Nat} {Q : State → Prop} {cc : ByteArray} {pc nL : Nat} {ls : Array Slot} {rest : List Value} {D : va_G} {ad : Nat → Nat} {cI cB : ClassId} {en : Nat → Nat} {S : St} {own : String} {index : Nat} {x1 : Int32} {x2 : Int32} {x3 : Int32} {z4 : Bool} {x5 : Int32} {z6 : Bool} {z7 : Bool} {ro : Int32} {So : St} (C : CallFix p m c cc nL s args wG own) (hlk : Cond.methodLink own index yX7_reckon ∈ wG) (hR : rmX7_reckon.frames + 1 ≤ R.frames ∧ 8 + (14 + 11) + rmX7_reckon.locals ≤ R.locals) (hc : cells ≤ R.cells ∧ slots ≤ R.slots) (hK : KM D ad cI cB en s) (hP : va_P D vwCl (wM ad cI cB S) H) (hS : va_S (AX 11 ad s.heap.size) s.heap H locs) (hls : ls.size = nL) (hrest : (rest.map fun v => v.category).sum ≤ 8) (hd : decode cc pc = .ok (.invokevirtual index, 3)) (hs : fX7_reckon x1 x2 x3 z4 x5 z6 z7 S = some (ro, So)) (k : ∀ (H : Heap) (locs : List Loc), va_P D vwCl (wM ad cI cB So) H → va_S (AX 11 ad s.heap.size) s.heap H locs → W p l e R s m args below meth c H locs cells slots Q (F0 m (pc + 3) ls (.int ro :: rest))) : W p l e R s m args below meth c H locs cells slots Q (F0 m pc ls (.int (zI z7) :: .int (zI z6) :: .int x5 :: .int (zI z4) :: .int x3 :: .int x2 :: .int x1 :: .ref (ad 0) :: rest)) :=
  u_callV (n := 7) (mX7_reckon l D ad cI cB en S x1 x2 x3 z4 x5 z6 z7 ro So hs) C uK_M (wg_V hlk tI_X7_reckon tS_X7_reckon tN_X7 tK_X7_reckon) rfl rfl rfl (by decide +kernel) hR rfl (va_recv hK.1 hP (ci := 6) (q0 := 0) rfl rfl) hK hP hS hls hrest hd hc rfl k
def fX7_compare (x1 : Int32) (x2 : Int32) (x3 : Int32) (S : St) : Option St :=
    (bd (fX7_reckon x1 x2 0 true x3 false false S) fun r1 S1 => (some S1))
abbrev rmX7_compare : Room := { frames := 3, cells := 0, slots := 0, locals := 77 }
set_option maxRecDepth 100000 in
set_option maxHeartbeats 4000000 in
theorem mX7_compare (l : Launch) (D : va_G) (ad : Nat → Nat) (cI cB : ClassId) (en : Nat → Nat) (S : St) (x1 : Int32) (x2 : Int32) (x3 : Int32) (So : St) (hs : fX7_compare x1 x2 x3 S = some So) : uM l yX7_compare (wg yX7_compare cX7_compare 5 none) rmX7_compare (KM D ad cI cB en) D (wM ad cI cB) (AX 11 ad) [.ref (ad 0), .int x1, .int x2, .int x3] S (none, So) := by
  refine uM_start (by decide) rfl ?_
  intro p e s m below meth c hx hb hr hlocks hml hown hts hK hP
  have hT : ∀ w ∈ wG, w.before _ s = true := fun w h => hts w (List.mem_cons_of_mem _ h)
  have hS : va_S (AX 11 ad s.heap.size) s.heap s.heap [] := va_S.rf
  have hown : s.vm.findClass RX7 = some m.cls := hown
  have C : CallFix p m c cX7_compare 5 s _ wG RX7 := ⟨hx, hb, hml, hown, hT⟩
  have hl := lv_entry ([.ref (ad 0), .int x1, .int x2, .int x3]) (n := 5) (Nat.le_of_ble_eq_true rfl)
  rw [lg_entry_eq]
  generalize (lg_sl ([.ref (ad 0), .int x1, .int x2, .int x3]) ++ List.replicate (5 - (lg_sl ([.ref (ad 0), .int x1, .int x2, .int x3])).length) Slot.unset).toArray = ls at hl ⊢
  have hl : lv_has ls 5 [(0, .ref (ad 0)), (1, .int x1), (2, .int x2), (3, .int x3)] := hl
  unfold fX7_compare at hs
  refine lv_aload_n hx hb dX7_compare_0 rfl (lv_at hl 0 rfl) ?_
  refine lv_iload_n hx hb dX7_compare_1 rfl (lv_at hl 1 rfl) ?_
  refine lv_iload_n hx hb dX7_compare_2 rfl (lv_at hl 2 rfl) ?_
  refine lv_iconst (v := 0) hx hb dX7_compare_3 (by decide) ?_
  refine lv_iconst (v := 1) hx hb dX7_compare_4 (by decide) ?_
  refine lv_iload_n hx hb dX7_compare_5 rfl (lv_at hl 3 rfl) ?_
  refine lv_iconst (v := 0) hx hb dX7_compare_6 (by decide) ?_
  refine lv_iconst (v := 0) hx hb dX7_compare_7 (by decide) ?_
  obtain ⟨r1, S1, h1, hs⟩ := bd_e hs
  refine kX7_reckon C tM_X7_167 ⟨Nat.le_of_ble_eq_true rfl, Nat.le_of_ble_eq_true rfl⟩ ⟨Nat.le_of_ble_eq_true rfl, Nat.le_of_ble_eq_true rfl⟩ hK hP hS hl.1 (rest := []) (Nat.le_of_ble_eq_true rfl) dX7_compare_8 h1 (fun H locs hP hS => ?_)
  refine lv_istore (lv' := [(4, .int r1), (0, .ref (ad 0)), (1, .int x1), (2, .int x2), (3, .int x3)]) hx hb dX7_compare_11 hl (by decide) rfl (fun ls hl => ?_)
  exact u_vret hx hb hr hlocks hP hS hs dX7_compare_13
theorem kX7_compare {p : Program} {l : Launch} {e : Env} {R : Room} {s : State} {m : MethodId} {args : Array Value} {below : List Frame} {meth : Method} {c : Code} {H : Heap} {locs : List Loc} {cells slots : Nat} {Q : State → Prop} {cc : ByteArray} {pc nL : Nat} {ls : Array Slot} {rest : List Value} {D : va_G} {ad : Nat → Nat} {cI cB : ClassId} {en : Nat → Nat} {S : St} {own : String} {index : Nat} {x1 : Int32} {x2 : Int32} {x3 : Int32} {So : St} (C : CallFix p m c cc nL s args wG own) (hlk : Cond.methodLink own index yX7_compare ∈ wG) (hR : rmX7_compare.frames + 1 ≤ R.frames ∧ 8 + (5 + 11) + rmX7_compare.locals ≤ R.locals) (hc : cells ≤ R.cells ∧ slots ≤ R.slots) (hK : KM D ad cI cB en s) (hP : va_P D vwCl (wM ad cI cB S) H) (hS : va_S (AX 11 ad s.heap.size) s.heap H locs) (hls : ls.size = nL) (hrest : (rest.map fun v => v.category).sum ≤ 8) (hd : decode cc pc = .ok (.invokevirtual index, 3)) (hs : fX7_compare x1 x2 x3 S = some So) (k : ∀ (H : Heap) (locs : List Loc), va_P D vwCl (wM ad cI cB So) H → va_S (AX 11 ad s.heap.size) s.heap H locs → W p l e R s m args below meth c H locs cells slots Q (F0 m (pc + 3) ls (rest))) : W p l e R s m args below meth c H locs cells slots Q (F0 m pc ls (.int x3 :: .int x2 :: .int x1 :: .ref (ad 0) :: rest)) :=
  u_callV (n := 3) (mX7_compare l D ad cI cB en S x1 x2 x3 So hs) C uK_M (wg_V hlk tI_X7_compare tS_X7_compare tN_X7 tK_X7_compare) rfl rfl rfl (by decide +kernel) hR rfl (va_recv hK.1 hP (ci := 6) (q0 := 0) rfl rfl) hK hP hS hls hrest hd hc rfl k
