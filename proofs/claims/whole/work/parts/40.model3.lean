def fX7_decimalSum (x1 : Int32) (x2 : Int32) (S : St) : Option (Int32 × St) :=
    (bd (fX7_x S) fun r1 S1 => (lt ((((x1 &&& 15) + (x2 &&& 15)) + r1) : Int32) fun v1 => (jn (fun (v2 : Int32) => (lt (((v2 + (x1 &&& 240)) + (x2 &&& 240)) : Int32) fun v3 => (jn (fun (b1 : Bool) => (jn (fun (v4 : Int32) => (bv (fX7_flag 1 b1 S1) fun S2 => (bv (fX7_flag 16 b1 S2) fun S3 => (bd (fX7_has 4 S3) fun b2 S4 => (jn (fun (b3 : Bool) => (bv (fX7_flag 4 b3 S4) fun S5 => (some ((v4 &&& 255), S5)))) fun K4 =>
    (if (zI b2) = 0 then (K4 false)
    else (if (v4 &&& 255) = 0 then (K4 true)
    else (K4 false)))))))) fun K3 =>
    (if (zI b1) = 0 then (K3 v3)
    else (K3 (v3 + 96))))) fun K2 =>
    (if v3 ≤ 159 then (K2 false)
    else (K2 true))))) fun K1 =>
    (if v1 ≤ 9 then (K1 v1)
    else (K1 (v1 + 6))))))
abbrev rmX7_decimalSum : Room := { frames := 2, cells := 0, slots := 0, locals := 41 }
set_option maxRecDepth 100000 in
set_option maxHeartbeats 4000000 in
theorem mX7_decimalSum (l : Launch) (D : va_G) (ad : Nat → Nat) (cI cB : ClassId) (en : Nat → Nat) (S : St) (x1 : Int32) (x2 : Int32) (ro : Int32) (So : St) (hs : fX7_decimalSum x1 x2 S = some (ro, So)) : uM l yX7_decimalSum (wg yX7_decimalSum cX7_decimalSum 5 (some .int)) rmX7_decimalSum (KM D ad cI cB en) D (wM ad cI cB) (AX 11 ad) [.ref (ad 0), .int x1, .int x2] S (some (.int ro), So) := by
  refine uM_start (by decide) rfl ?_
  intro p e s m below meth c hx hb hr hlocks hml hown hts hK hP
  have hT : ∀ w ∈ wG, w.before _ s = true := fun w h => hts w (List.mem_cons_of_mem _ h)
  have hS : va_S (AX 11 ad s.heap.size) s.heap s.heap [] := va_S.rf
  have hown : s.vm.findClass RX7 = some m.cls := hown
  have C : CallFix p m c cX7_decimalSum 5 s _ wG RX7 := ⟨hx, hb, hml, hown, hT⟩
  have hl := lv_entry ([.ref (ad 0), .int x1, .int x2]) (n := 5) (Nat.le_of_ble_eq_true rfl)
  rw [lg_entry_eq]
  generalize (lg_sl ([.ref (ad 0), .int x1, .int x2]) ++ List.replicate (5 - (lg_sl ([.ref (ad 0), .int x1, .int x2])).length) Slot.unset).toArray = ls at hl ⊢
  have hl : lv_has ls 5 [(0, .ref (ad 0)), (1, .int x1), (2, .int x2)] := hl
  unfold fX7_decimalSum at hs
  refine lv_iload_n hx hb dX7_decimalSum_0 rfl (lv_at hl 1 rfl) ?_
  refine lv_bipush (v := 15) hx hb dX7_decimalSum_1 (by decide) ?_
  refine lv_iand hx hb dX7_decimalSum_3 ?_
  refine lv_iload_n hx hb dX7_decimalSum_4 rfl (lv_at hl 2 rfl) ?_
  refine lv_bipush (v := 15) hx hb dX7_decimalSum_5 (by decide) ?_
  refine lv_iand hx hb dX7_decimalSum_7 ?_
  refine lv_iadd hx hb dX7_decimalSum_8 ?_
  refine lv_aload_n hx hb dX7_decimalSum_9 rfl (lv_at hl 0 rfl) ?_
  obtain ⟨r1, S1, h1, hs⟩ := bd_e hs
  refine kX7_x C tM_X7_171 ⟨Nat.le_of_ble_eq_true rfl, Nat.le_of_ble_eq_true rfl⟩ ⟨Nat.le_of_ble_eq_true rfl, Nat.le_of_ble_eq_true rfl⟩ hK hP hS hl.1 (rest := [.int ((x1 &&& 15) + (x2 &&& 15))]) (Nat.le_of_ble_eq_true rfl) dX7_decimalSum_10 h1 (fun H locs hP hS => ?_)
  refine lv_iadd hx hb dX7_decimalSum_13 ?_
  obtain ⟨v1, h2, hs⟩ := lt_e hs
  refine u_top h2 ?_
  refine lv_istore_n (lv' := [(3, .int v1), (0, .ref (ad 0)), (1, .int x1), (2, .int x2)]) hx hb dX7_decimalSum_14 rfl hl (by decide) rfl (fun ls hl => ?_)
  refine lv_iload_n hx hb dX7_decimalSum_15 rfl (lv_at hl 0 rfl) ?_
  refine lv_bipush (v := 9) hx hb dX7_decimalSum_16 (by decide) ?_
  refine jn_e hs (fun K1 => ∀ (v2 : Int32) (H : Heap) (locs : List Loc) (ls : Array Slot), lv_has ls 5 [(0, .ref (ad 0)), (1, .int x1), (2, .int x2)] → va_P D vwCl (wM ad cI cB S1) H → va_S (AX 11 ad s.heap.size) s.heap H locs → K1 v2 = some (ro, So) → W p l e rmX7_decimalSum s m ([.ref (ad 0), .int x1, .int x2] : List Value).toArray below meth c H locs 0 0 (MQ below (uQ D (wM ad cI cB) (some (.int ro), So) (AX 11 ad s.heap.size)) ([.ref (ad 0), .int x1, .int x2] : List Value).toArray s 0 0 (AX 11 ad s.heap.size)) (F0 m 29 ls [.int v2])) ?_ (fun K1 J1 hs => ?_)
  · intro v2 H locs ls hl hP hS hs
    refine lv_istore_n (lv' := [(3, .int v2), (0, .ref (ad 0)), (1, .int x1), (2, .int x2)]) hx hb dX7_decimalSum_29 rfl hl (by decide) rfl (fun ls hl => ?_)
    refine lv_iload_n hx hb dX7_decimalSum_30 rfl (lv_at hl 0 rfl) ?_
    refine lv_iload_n hx hb dX7_decimalSum_31 rfl (lv_at hl 2 rfl) ?_
    refine lv_sipush (v := 240) hx hb dX7_decimalSum_32 (by decide) ?_
    refine lv_iand hx hb dX7_decimalSum_35 ?_
    refine lv_iadd hx hb dX7_decimalSum_36 ?_
    refine lv_iload_n hx hb dX7_decimalSum_37 rfl (lv_at hl 3 rfl) ?_
    refine lv_sipush (v := 240) hx hb dX7_decimalSum_38 (by decide) ?_
    refine lv_iand hx hb dX7_decimalSum_41 ?_
    refine lv_iadd hx hb dX7_decimalSum_42 ?_
    obtain ⟨v3, h3, hs⟩ := lt_e hs
    refine u_top h3 ?_
    refine lv_istore_n (lv' := [(3, .int v3), (0, .ref (ad 0)), (1, .int x1), (2, .int x2)]) hx hb dX7_decimalSum_43 rfl hl (by decide) rfl (fun ls hl => ?_)
    refine lv_iload_n hx hb dX7_decimalSum_44 rfl (lv_at hl 0 rfl) ?_
    refine lv_sipush (v := 159) hx hb dX7_decimalSum_45 (by decide) ?_
    refine jn_e hs (fun K2 => ∀ (b1 : Bool) (H : Heap) (locs : List Loc) (ls : Array Slot), lv_has ls 5 [(3, .int v3), (0, .ref (ad 0))] → va_P D vwCl (wM ad cI cB S1) H → va_S (AX 11 ad s.heap.size) s.heap H locs → K2 b1 = some (ro, So) → W p l e rmX7_decimalSum s m ([.ref (ad 0), .int x1, .int x2] : List Value).toArray below meth c H locs 0 0 (MQ below (uQ D (wM ad cI cB) (some (.int ro), So) (AX 11 ad s.heap.size)) ([.ref (ad 0), .int x1, .int x2] : List Value).toArray s 0 0 (AX 11 ad s.heap.size)) (F0 m 56 ls [.int (zI b1)])) ?_ (fun K2 J2 hs => ?_)
    · intro b1 H locs ls hl hP hS hs
      refine lv_istore (lv' := [(4, .int (zI b1)), (3, .int v3), (0, .ref (ad 0))]) hx hb dX7_decimalSum_56 hl (by decide) rfl (fun ls hl => ?_)
      refine lv_iload hx hb dX7_decimalSum_58 (lv_at hl 0 rfl) ?_
      refine jn_e hs (fun K3 => ∀ (v4 : Int32) (H : Heap) (locs : List Loc) (ls : Array Slot), lv_has ls 5 [(4, .int (zI b1)), (0, .ref (ad 0))] → va_P D vwCl (wM ad cI cB S1) H → va_S (AX 11 ad s.heap.size) s.heap H locs → K3 v4 = some (ro, So) → W p l e rmX7_decimalSum s m ([.ref (ad 0), .int x1, .int x2] : List Value).toArray below meth c H locs 0 0 (MQ below (uQ D (wM ad cI cB) (some (.int ro), So) (AX 11 ad s.heap.size)) ([.ref (ad 0), .int x1, .int x2] : List Value).toArray s 0 0 (AX 11 ad s.heap.size)) (F0 m 71 ls [.int v4])) ?_ (fun K3 J3 hs => ?_)
      · intro v4 H locs ls hl hP hS hs
        refine lv_istore_n (lv' := [(3, .int v4), (4, .int (zI b1)), (0, .ref (ad 0))]) hx hb dX7_decimalSum_71 rfl hl (by decide) rfl (fun ls hl => ?_)
        refine lv_aload_n hx hb dX7_decimalSum_72 rfl (lv_at hl 2 rfl) ?_
        refine lv_iconst (v := 1) hx hb dX7_decimalSum_73 (by decide) ?_
        refine lv_iload hx hb dX7_decimalSum_74 (lv_at hl 1 rfl) ?_
        obtain ⟨S2, h4, hs⟩ := bv_e hs
        refine kX7_flag C tM_X7_160 ⟨Nat.le_of_ble_eq_true rfl, Nat.le_of_ble_eq_true rfl⟩ ⟨Nat.le_of_ble_eq_true rfl, Nat.le_of_ble_eq_true rfl⟩ hK hP hS hl.1 (rest := []) (Nat.le_of_ble_eq_true rfl) dX7_decimalSum_76 h4 (fun H locs hP hS => ?_)
        refine lv_aload_n hx hb dX7_decimalSum_79 rfl (lv_at hl 2 rfl) ?_
        refine lv_bipush (v := 16) hx hb dX7_decimalSum_80 (by decide) ?_
        refine lv_iload hx hb dX7_decimalSum_82 (lv_at hl 1 rfl) ?_
        obtain ⟨S3, h5, hs⟩ := bv_e hs
        refine kX7_flag C tM_X7_160 ⟨Nat.le_of_ble_eq_true rfl, Nat.le_of_ble_eq_true rfl⟩ ⟨Nat.le_of_ble_eq_true rfl, Nat.le_of_ble_eq_true rfl⟩ hK hP hS hl.1 (rest := []) (Nat.le_of_ble_eq_true rfl) dX7_decimalSum_84 h5 (fun H locs hP hS => ?_)
        refine lv_aload_n hx hb dX7_decimalSum_87 rfl (lv_at hl 2 rfl) ?_
        refine lv_iconst (v := 4) hx hb dX7_decimalSum_88 (by decide) ?_
        refine lv_aload_n hx hb dX7_decimalSum_89 rfl (lv_at hl 2 rfl) ?_
        refine lv_iconst (v := 4) hx hb dX7_decimalSum_90 (by decide) ?_
        obtain ⟨b2, S4, h6, hs⟩ := bd_e hs
        refine kX7_has C tM_X7_154 ⟨Nat.le_of_ble_eq_true rfl, Nat.le_of_ble_eq_true rfl⟩ ⟨Nat.le_of_ble_eq_true rfl, Nat.le_of_ble_eq_true rfl⟩ hK hP hS hl.1 (rest := [.int 4, .ref (ad 0)]) (Nat.le_of_ble_eq_true rfl) dX7_decimalSum_91 h6 (fun H locs hP hS => ?_)
        refine jn_e hs (fun K4 => ∀ (b3 : Bool) (H : Heap) (locs : List Loc) (ls : Array Slot), lv_has ls 5 [(3, .int v4)] → va_P D vwCl (wM ad cI cB S4) H → va_S (AX 11 ad s.heap.size) s.heap H locs → K4 b3 = some (ro, So) → W p l e rmX7_decimalSum s m ([.ref (ad 0), .int x1, .int x2] : List Value).toArray below meth c H locs 0 0 (MQ below (uQ D (wM ad cI cB) (some (.int ro), So) (AX 11 ad s.heap.size)) ([.ref (ad 0), .int x1, .int x2] : List Value).toArray s 0 0 (AX 11 ad s.heap.size)) (F0 m 110 ls [.int (zI b3), .int 4, .ref (ad 0)])) ?_ (fun K4 J4 hs => ?_)
        · intro b3 H locs ls hl hP hS hs
          obtain ⟨S5, h7, hs⟩ := bv_e hs
          refine kX7_flag C tM_X7_160 ⟨Nat.le_of_ble_eq_true rfl, Nat.le_of_ble_eq_true rfl⟩ ⟨Nat.le_of_ble_eq_true rfl, Nat.le_of_ble_eq_true rfl⟩ hK hP hS hl.1 (rest := []) (Nat.le_of_ble_eq_true rfl) dX7_decimalSum_110 h7 (fun H locs hP hS => ?_)
          refine lv_iload_n hx hb dX7_decimalSum_113 rfl (lv_at hl 0 rfl) ?_
          refine lv_sipush (v := 255) hx hb dX7_decimalSum_114 (by decide) ?_
          refine lv_iand hx hb dX7_decimalSum_117 ?_
          exact u_iret hx hb hr hlocks hP hS hs dX7_decimalSum_118
        ·
          refine lv_if_eq (tgt := 109) hx hb dX7_decimalSum_94 (by decide) (fun c1 => ?_) (fun c1 => ?_)
          · have hs := if_t c1 hs
            refine lv_iconst (v := 0) hx hb dX7_decimalSum_109 (by decide) ?_
            exact J4 false _ _ _ (lv_sub hl [0] rfl) hP hS hs
          · have hs := if_f c1 hs
            refine lv_iload_n hx hb dX7_decimalSum_97 rfl (lv_at hl 0 rfl) ?_
            refine lv_sipush (v := 255) hx hb dX7_decimalSum_98 (by decide) ?_
            refine lv_iand hx hb dX7_decimalSum_101 ?_
            refine lv_if_ne (tgt := 109) hx hb dX7_decimalSum_102 (by decide) (fun c2 => ?_) (fun c2 => ?_)
            · have hs := if_f c2 hs
              refine lv_iconst (v := 0) hx hb dX7_decimalSum_109 (by decide) ?_
              exact J4 false _ _ _ (lv_sub hl [0] rfl) hP hS hs
            · have hs := if_t c2 hs
              refine lv_iconst (v := 1) hx hb dX7_decimalSum_105 (by decide) ?_
              refine lv_goto (tgt := 110) hx hb dX7_decimalSum_106 (by decide) ?_
              exact J4 true _ _ _ (lv_sub hl [0] rfl) hP hS hs
      ·
        refine lv_if_eq (tgt := 70) hx hb dX7_decimalSum_60 (by decide) (fun c3 => ?_) (fun c3 => ?_)
        · have hs := if_t c3 hs
          refine lv_iload_n hx hb dX7_decimalSum_70 rfl (lv_at hl 1 rfl) ?_
          exact J3 v3 _ _ _ (lv_sub hl [0, 2] rfl) hP hS hs
        · have hs := if_f c3 hs
          refine lv_iload_n hx hb dX7_decimalSum_63 rfl (lv_at hl 1 rfl) ?_
          refine lv_bipush (v := 96) hx hb dX7_decimalSum_64 (by decide) ?_
          refine lv_iadd hx hb dX7_decimalSum_66 ?_
          refine lv_goto (tgt := 71) hx hb dX7_decimalSum_67 (by decide) ?_
          exact J3 (v3 + 96) _ _ _ (lv_sub hl [0, 2] rfl) hP hS hs
    ·
      refine lv_icmp_le (tgt := 55) hx hb dX7_decimalSum_48 (by decide) (fun c4 => ?_) (fun c4 => ?_)
      · have hs := if_t c4 hs
        refine lv_iconst (v := 0) hx hb dX7_decimalSum_55 (by decide) ?_
        exact J2 false _ _ _ (lv_sub hl [0, 1] rfl) hP hS hs
      · have hs := if_f c4 hs
        refine lv_iconst (v := 1) hx hb dX7_decimalSum_51 (by decide) ?_
        refine lv_goto (tgt := 56) hx hb dX7_decimalSum_52 (by decide) ?_
        exact J2 true _ _ _ (lv_sub hl [0, 1] rfl) hP hS hs
  ·
    refine lv_icmp_le (tgt := 28) hx hb dX7_decimalSum_18 (by decide) (fun c5 => ?_) (fun c5 => ?_)
    · have hs := if_t c5 hs
      refine lv_iload_n hx hb dX7_decimalSum_28 rfl (lv_at hl 0 rfl) ?_
      exact J1 v1 _ _ _ (lv_sub hl [1, 2, 3] rfl) hP hS hs
    · have hs := if_f c5 hs
      refine lv_iload_n hx hb dX7_decimalSum_21 rfl (lv_at hl 0 rfl) ?_
      refine lv_bipush (v := 6) hx hb dX7_decimalSum_22 (by decide) ?_
      refine lv_iadd hx hb dX7_decimalSum_24 ?_
      refine lv_goto (tgt := 29) hx hb dX7_decimalSum_25 (by decide) ?_
      exact J1 (v1 + 6) _ _ _ (lv_sub hl [1, 2, 3] rfl) hP hS hs
theorem kX7_decimalSum {p : Program} {l : Launch} {e : Env} {R : Room} {s : State} {m : MethodId} {args : Array Value} {below : List Frame} {meth : Method} {c : Code} {H : Heap} {locs : List Loc} {cells slots : Nat} {Q : State → Prop} {cc : ByteArray} {pc nL : Nat} {ls : Array Slot} {rest : List Value} {D : va_G} {ad : Nat → Nat} {cI cB : ClassId} {en : Nat → Nat} {S : St} {own : String} {index : Nat} {x1 : Int32} {x2 : Int32} {ro : Int32} {So : St} (C : CallFix p m c cc nL s args wG own) (hlk : Cond.methodLink own index yX7_decimalSum ∈ wG) (hR : rmX7_decimalSum.frames + 1 ≤ R.frames ∧ 8 + (5 + 11) + rmX7_decimalSum.locals ≤ R.locals) (hc : cells ≤ R.cells ∧ slots ≤ R.slots) (hK : KM D ad cI cB en s) (hP : va_P D vwCl (wM ad cI cB S) H) (hS : va_S (AX 11 ad s.heap.size) s.heap H locs) (hls : ls.size = nL) (hrest : (rest.map fun v => v.category).sum ≤ 8) (hd : decode cc pc = .ok (.invokevirtual index, 3)) (hs : fX7_decimalSum x1 x2 S = some (ro, So)) (k : ∀ (H : Heap) (locs : List Loc), va_P D vwCl (wM ad cI cB So) H → va_S (AX 11 ad s.heap.size) s.heap H locs → W p l e R s m args below meth c H locs cells slots Q (F0 m (pc + 3) ls (.int ro :: rest))) : W p l e R s m args below meth c H locs cells slots Q (F0 m pc ls (.int x2 :: .int x1 :: .ref (ad 0) :: rest)) :=
  u_callV (n := 2) (mX7_decimalSum l D ad cI cB en S x1 x2 ro So hs) C uK_M (wg_V hlk tI_X7_decimalSum tS_X7_decimalSum tN_X7 tK_X7_decimalSum) rfl rfl rfl (by decide +kernel) hR rfl (va_recv hK.1 hP (ci := 6) (q0 := 0) rfl rfl) hK hP hS hls hrest hd hc rfl k
def fX7_decimalLess (x1 : Int32) (x2 : Int32) (S : St) : Option (Int32 × St) :=
    (bd (fX7_x S) fun r1 S1 => (lt ((((x1 &&& 15) - (x2 &&& 15)) - r1) : Int32) fun v1 => (jn (fun (v2 : Int32) => (lt (((v2 + (x1 &&& 240)) - (x2 &&& 240)) : Int32) fun v3 => (jn (fun (b1 : Bool) => (jn (fun (v4 : Int32) => (bv (fX7_flag 1 b1 S1) fun S2 => (bv (fX7_flag 16 b1 S2) fun S3 => (bd (fX7_has 4 S3) fun b2 S4 => (jn (fun (b3 : Bool) => (bv (fX7_flag 4 b3 S4) fun S5 => (some ((v4 &&& 255), S5)))) fun K4 =>
    (if (zI b2) = 0 then (K4 false)
    else (if (v4 &&& 255) = 0 then (K4 true)
    else (K4 false)))))))) fun K3 =>
    (if (zI b1) = 0 then (K3 v3)
    else (K3 (v3 - 96))))) fun K2 =>
    (if 0 ≤ v3 then (K2 false)
    else (K2 true))))) fun K1 =>
    (if 0 ≤ v1 then (K1 v1)
    else (K1 (v1 - 6))))))
abbrev rmX7_decimalLess : Room := { frames := 2, cells := 0, slots := 0, locals := 41 }
set_option maxRecDepth 100000 in
set_option maxHeartbeats 4000000 in
theorem mX7_decimalLess (l : Launch) (D : va_G) (ad : Nat → Nat) (cI cB : ClassId) (en : Nat → Nat) (S : St) (x1 : Int32) (x2 : Int32) (ro : Int32) (So : St) (hs : fX7_decimalLess x1 x2 S = some (ro, So)) : uM l yX7_decimalLess (wg yX7_decimalLess cX7_decimalLess 5 (some .int)) rmX7_decimalLess (KM D ad cI cB en) D (wM ad cI cB) (AX 11 ad) [.ref (ad 0), .int x1, .int x2] S (some (.int ro), So) := by
  refine uM_start (by decide) rfl ?_
  intro p e s m below meth c hx hb hr hlocks hml hown hts hK hP
  have hT : ∀ w ∈ wG, w.before _ s = true := fun w h => hts w (List.mem_cons_of_mem _ h)
  have hS : va_S (AX 11 ad s.heap.size) s.heap s.heap [] := va_S.rf
  have hown : s.vm.findClass RX7 = some m.cls := hown
  have C : CallFix p m c cX7_decimalLess 5 s _ wG RX7 := ⟨hx, hb, hml, hown, hT⟩
  have hl := lv_entry ([.ref (ad 0), .int x1, .int x2]) (n := 5) (Nat.le_of_ble_eq_true rfl)
  rw [lg_entry_eq]
  generalize (lg_sl ([.ref (ad 0), .int x1, .int x2]) ++ List.replicate (5 - (lg_sl ([.ref (ad 0), .int x1, .int x2])).length) Slot.unset).toArray = ls at hl ⊢
  have hl : lv_has ls 5 [(0, .ref (ad 0)), (1, .int x1), (2, .int x2)] := hl
  unfold fX7_decimalLess at hs
  refine lv_iload_n hx hb dX7_decimalLess_0 rfl (lv_at hl 1 rfl) ?_
  refine lv_bipush (v := 15) hx hb dX7_decimalLess_1 (by decide) ?_
  refine lv_iand hx hb dX7_decimalLess_3 ?_
  refine lv_iload_n hx hb dX7_decimalLess_4 rfl (lv_at hl 2 rfl) ?_
  refine lv_bipush (v := 15) hx hb dX7_decimalLess_5 (by decide) ?_
  refine lv_iand hx hb dX7_decimalLess_7 ?_
  refine lv_isub hx hb dX7_decimalLess_8 ?_
  refine lv_aload_n hx hb dX7_decimalLess_9 rfl (lv_at hl 0 rfl) ?_
  obtain ⟨r1, S1, h1, hs⟩ := bd_e hs
  refine kX7_x C tM_X7_171 ⟨Nat.le_of_ble_eq_true rfl, Nat.le_of_ble_eq_true rfl⟩ ⟨Nat.le_of_ble_eq_true rfl, Nat.le_of_ble_eq_true rfl⟩ hK hP hS hl.1 (rest := [.int ((x1 &&& 15) - (x2 &&& 15))]) (Nat.le_of_ble_eq_true rfl) dX7_decimalLess_10 h1 (fun H locs hP hS => ?_)
  refine lv_isub hx hb dX7_decimalLess_13 ?_
  obtain ⟨v1, h2, hs⟩ := lt_e hs
  refine u_top h2 ?_
  refine lv_istore_n (lv' := [(3, .int v1), (0, .ref (ad 0)), (1, .int x1), (2, .int x2)]) hx hb dX7_decimalLess_14 rfl hl (by decide) rfl (fun ls hl => ?_)
  refine lv_iload_n hx hb dX7_decimalLess_15 rfl (lv_at hl 0 rfl) ?_
  refine jn_e hs (fun K1 => ∀ (v2 : Int32) (H : Heap) (locs : List Loc) (ls : Array Slot), lv_has ls 5 [(0, .ref (ad 0)), (1, .int x1), (2, .int x2)] → va_P D vwCl (wM ad cI cB S1) H → va_S (AX 11 ad s.heap.size) s.heap H locs → K1 v2 = some (ro, So) → W p l e rmX7_decimalLess s m ([.ref (ad 0), .int x1, .int x2] : List Value).toArray below meth c H locs 0 0 (MQ below (uQ D (wM ad cI cB) (some (.int ro), So) (AX 11 ad s.heap.size)) ([.ref (ad 0), .int x1, .int x2] : List Value).toArray s 0 0 (AX 11 ad s.heap.size)) (F0 m 27 ls [.int v2])) ?_ (fun K1 J1 hs => ?_)
  · intro v2 H locs ls hl hP hS hs
    refine lv_istore_n (lv' := [(3, .int v2), (0, .ref (ad 0)), (1, .int x1), (2, .int x2)]) hx hb dX7_decimalLess_27 rfl hl (by decide) rfl (fun ls hl => ?_)
    refine lv_iload_n hx hb dX7_decimalLess_28 rfl (lv_at hl 0 rfl) ?_
    refine lv_iload_n hx hb dX7_decimalLess_29 rfl (lv_at hl 2 rfl) ?_
    refine lv_sipush (v := 240) hx hb dX7_decimalLess_30 (by decide) ?_
    refine lv_iand hx hb dX7_decimalLess_33 ?_
    refine lv_iadd hx hb dX7_decimalLess_34 ?_
    refine lv_iload_n hx hb dX7_decimalLess_35 rfl (lv_at hl 3 rfl) ?_
    refine lv_sipush (v := 240) hx hb dX7_decimalLess_36 (by decide) ?_
    refine lv_iand hx hb dX7_decimalLess_39 ?_
    refine lv_isub hx hb dX7_decimalLess_40 ?_
    obtain ⟨v3, h3, hs⟩ := lt_e hs
    refine u_top h3 ?_
    refine lv_istore_n (lv' := [(3, .int v3), (0, .ref (ad 0)), (1, .int x1), (2, .int x2)]) hx hb dX7_decimalLess_41 rfl hl (by decide) rfl (fun ls hl => ?_)
    refine lv_iload_n hx hb dX7_decimalLess_42 rfl (lv_at hl 0 rfl) ?_
    refine jn_e hs (fun K2 => ∀ (b1 : Bool) (H : Heap) (locs : List Loc) (ls : Array Slot), lv_has ls 5 [(3, .int v3), (0, .ref (ad 0))] → va_P D vwCl (wM ad cI cB S1) H → va_S (AX 11 ad s.heap.size) s.heap H locs → K2 b1 = some (ro, So) → W p l e rmX7_decimalLess s m ([.ref (ad 0), .int x1, .int x2] : List Value).toArray below meth c H locs 0 0 (MQ below (uQ D (wM ad cI cB) (some (.int ro), So) (AX 11 ad s.heap.size)) ([.ref (ad 0), .int x1, .int x2] : List Value).toArray s 0 0 (AX 11 ad s.heap.size)) (F0 m 51 ls [.int (zI b1)])) ?_ (fun K2 J2 hs => ?_)
    · intro b1 H locs ls hl hP hS hs
      refine lv_istore (lv' := [(4, .int (zI b1)), (3, .int v3), (0, .ref (ad 0))]) hx hb dX7_decimalLess_51 hl (by decide) rfl (fun ls hl => ?_)
      refine lv_iload hx hb dX7_decimalLess_53 (lv_at hl 0 rfl) ?_
      refine jn_e hs (fun K3 => ∀ (v4 : Int32) (H : Heap) (locs : List Loc) (ls : Array Slot), lv_has ls 5 [(4, .int (zI b1)), (0, .ref (ad 0))] → va_P D vwCl (wM ad cI cB S1) H → va_S (AX 11 ad s.heap.size) s.heap H locs → K3 v4 = some (ro, So) → W p l e rmX7_decimalLess s m ([.ref (ad 0), .int x1, .int x2] : List Value).toArray below meth c H locs 0 0 (MQ below (uQ D (wM ad cI cB) (some (.int ro), So) (AX 11 ad s.heap.size)) ([.ref (ad 0), .int x1, .int x2] : List Value).toArray s 0 0 (AX 11 ad s.heap.size)) (F0 m 66 ls [.int v4])) ?_ (fun K3 J3 hs => ?_)
      · intro v4 H locs ls hl hP hS hs
        refine lv_istore_n (lv' := [(3, .int v4), (4, .int (zI b1)), (0, .ref (ad 0))]) hx hb dX7_decimalLess_66 rfl hl (by decide) rfl (fun ls hl => ?_)
        refine lv_aload_n hx hb dX7_decimalLess_67 rfl (lv_at hl 2 rfl) ?_
        refine lv_iconst (v := 1) hx hb dX7_decimalLess_68 (by decide) ?_
        refine lv_iload hx hb dX7_decimalLess_69 (lv_at hl 1 rfl) ?_
        obtain ⟨S2, h4, hs⟩ := bv_e hs
        refine kX7_flag C tM_X7_160 ⟨Nat.le_of_ble_eq_true rfl, Nat.le_of_ble_eq_true rfl⟩ ⟨Nat.le_of_ble_eq_true rfl, Nat.le_of_ble_eq_true rfl⟩ hK hP hS hl.1 (rest := []) (Nat.le_of_ble_eq_true rfl) dX7_decimalLess_71 h4 (fun H locs hP hS => ?_)
        refine lv_aload_n hx hb dX7_decimalLess_74 rfl (lv_at hl 2 rfl) ?_
        refine lv_bipush (v := 16) hx hb dX7_decimalLess_75 (by decide) ?_
        refine lv_iload hx hb dX7_decimalLess_77 (lv_at hl 1 rfl) ?_
        obtain ⟨S3, h5, hs⟩ := bv_e hs
        refine kX7_flag C tM_X7_160 ⟨Nat.le_of_ble_eq_true rfl, Nat.le_of_ble_eq_true rfl⟩ ⟨Nat.le_of_ble_eq_true rfl, Nat.le_of_ble_eq_true rfl⟩ hK hP hS hl.1 (rest := []) (Nat.le_of_ble_eq_true rfl) dX7_decimalLess_79 h5 (fun H locs hP hS => ?_)
        refine lv_aload_n hx hb dX7_decimalLess_82 rfl (lv_at hl 2 rfl) ?_
        refine lv_iconst (v := 4) hx hb dX7_decimalLess_83 (by decide) ?_
        refine lv_aload_n hx hb dX7_decimalLess_84 rfl (lv_at hl 2 rfl) ?_
        refine lv_iconst (v := 4) hx hb dX7_decimalLess_85 (by decide) ?_
        obtain ⟨b2, S4, h6, hs⟩ := bd_e hs
        refine kX7_has C tM_X7_154 ⟨Nat.le_of_ble_eq_true rfl, Nat.le_of_ble_eq_true rfl⟩ ⟨Nat.le_of_ble_eq_true rfl, Nat.le_of_ble_eq_true rfl⟩ hK hP hS hl.1 (rest := [.int 4, .ref (ad 0)]) (Nat.le_of_ble_eq_true rfl) dX7_decimalLess_86 h6 (fun H locs hP hS => ?_)
        refine jn_e hs (fun K4 => ∀ (b3 : Bool) (H : Heap) (locs : List Loc) (ls : Array Slot), lv_has ls 5 [(3, .int v4)] → va_P D vwCl (wM ad cI cB S4) H → va_S (AX 11 ad s.heap.size) s.heap H locs → K4 b3 = some (ro, So) → W p l e rmX7_decimalLess s m ([.ref (ad 0), .int x1, .int x2] : List Value).toArray below meth c H locs 0 0 (MQ below (uQ D (wM ad cI cB) (some (.int ro), So) (AX 11 ad s.heap.size)) ([.ref (ad 0), .int x1, .int x2] : List Value).toArray s 0 0 (AX 11 ad s.heap.size)) (F0 m 105 ls [.int (zI b3), .int 4, .ref (ad 0)])) ?_ (fun K4 J4 hs => ?_)
        · intro b3 H locs ls hl hP hS hs
          obtain ⟨S5, h7, hs⟩ := bv_e hs
          refine kX7_flag C tM_X7_160 ⟨Nat.le_of_ble_eq_true rfl, Nat.le_of_ble_eq_true rfl⟩ ⟨Nat.le_of_ble_eq_true rfl, Nat.le_of_ble_eq_true rfl⟩ hK hP hS hl.1 (rest := []) (Nat.le_of_ble_eq_true rfl) dX7_decimalLess_105 h7 (fun H locs hP hS => ?_)
          refine lv_iload_n hx hb dX7_decimalLess_108 rfl (lv_at hl 0 rfl) ?_
          refine lv_sipush (v := 255) hx hb dX7_decimalLess_109 (by decide) ?_
          refine lv_iand hx hb dX7_decimalLess_112 ?_
          exact u_iret hx hb hr hlocks hP hS hs dX7_decimalLess_113
        ·
          refine lv_if_eq (tgt := 104) hx hb dX7_decimalLess_89 (by decide) (fun c1 => ?_) (fun c1 => ?_)
          · have hs := if_t c1 hs
            refine lv_iconst (v := 0) hx hb dX7_decimalLess_104 (by decide) ?_
            exact J4 false _ _ _ (lv_sub hl [0] rfl) hP hS hs
          · have hs := if_f c1 hs
            refine lv_iload_n hx hb dX7_decimalLess_92 rfl (lv_at hl 0 rfl) ?_
            refine lv_sipush (v := 255) hx hb dX7_decimalLess_93 (by decide) ?_
            refine lv_iand hx hb dX7_decimalLess_96 ?_
            refine lv_if_ne (tgt := 104) hx hb dX7_decimalLess_97 (by decide) (fun c2 => ?_) (fun c2 => ?_)
            · have hs := if_f c2 hs
              refine lv_iconst (v := 0) hx hb dX7_decimalLess_104 (by decide) ?_
              exact J4 false _ _ _ (lv_sub hl [0] rfl) hP hS hs
            · have hs := if_t c2 hs
              refine lv_iconst (v := 1) hx hb dX7_decimalLess_100 (by decide) ?_
              refine lv_goto (tgt := 105) hx hb dX7_decimalLess_101 (by decide) ?_
              exact J4 true _ _ _ (lv_sub hl [0] rfl) hP hS hs
      ·
        refine lv_if_eq (tgt := 65) hx hb dX7_decimalLess_55 (by decide) (fun c3 => ?_) (fun c3 => ?_)
        · have hs := if_t c3 hs
          refine lv_iload_n hx hb dX7_decimalLess_65 rfl (lv_at hl 1 rfl) ?_
          exact J3 v3 _ _ _ (lv_sub hl [0, 2] rfl) hP hS hs
        · have hs := if_f c3 hs
          refine lv_iload_n hx hb dX7_decimalLess_58 rfl (lv_at hl 1 rfl) ?_
          refine lv_bipush (v := 96) hx hb dX7_decimalLess_59 (by decide) ?_
          refine lv_isub hx hb dX7_decimalLess_61 ?_
          refine lv_goto (tgt := 66) hx hb dX7_decimalLess_62 (by decide) ?_
          exact J3 (v3 - 96) _ _ _ (lv_sub hl [0, 2] rfl) hP hS hs
    ·
      refine lv_if_ge (tgt := 50) hx hb dX7_decimalLess_43 (by decide) (fun c4 => ?_) (fun c4 => ?_)
      · have hs := if_t c4 hs
        refine lv_iconst (v := 0) hx hb dX7_decimalLess_50 (by decide) ?_
        exact J2 false _ _ _ (lv_sub hl [0, 1] rfl) hP hS hs
      · have hs := if_f c4 hs
        refine lv_iconst (v := 1) hx hb dX7_decimalLess_46 (by decide) ?_
        refine lv_goto (tgt := 51) hx hb dX7_decimalLess_47 (by decide) ?_
        exact J2 true _ _ _ (lv_sub hl [0, 1] rfl) hP hS hs
  ·
    refine lv_if_ge (tgt := 26) hx hb dX7_decimalLess_16 (by decide) (fun c5 => ?_) (fun c5 => ?_)
    · have hs := if_t c5 hs
      refine lv_iload_n hx hb dX7_decimalLess_26 rfl (lv_at hl 0 rfl) ?_
      exact J1 v1 _ _ _ (lv_sub hl [1, 2, 3] rfl) hP hS hs
    · have hs := if_f c5 hs
      refine lv_iload_n hx hb dX7_decimalLess_19 rfl (lv_at hl 0 rfl) ?_
      refine lv_bipush (v := 6) hx hb dX7_decimalLess_20 (by decide) ?_
      refine lv_isub hx hb dX7_decimalLess_22 ?_
      refine lv_goto (tgt := 27) hx hb dX7_decimalLess_23 (by decide) ?_
      exact J1 (v1 - 6) _ _ _ (lv_sub hl [1, 2, 3] rfl) hP hS hs
theorem kX7_decimalLess {p : Program} {l : Launch} {e : Env} {R : Room} {s : State} {m : MethodId} {args : Array Value} {below : List Frame} {meth : Method} {c : Code} {H : Heap} {locs : List Loc} {cells slots : Nat} {Q : State → Prop} {cc : ByteArray} {pc nL : Nat} {ls : Array Slot} {rest : List Value} {D : va_G} {ad : Nat → Nat} {cI cB : ClassId} {en : Nat → Nat} {S : St} {own : String} {index : Nat} {x1 : Int32} {x2 : Int32} {ro : Int32} {So : St} (C : CallFix p m c cc nL s args wG own) (hlk : Cond.methodLink own index yX7_decimalLess ∈ wG) (hR : rmX7_decimalLess.frames + 1 ≤ R.frames ∧ 8 + (5 + 11) + rmX7_decimalLess.locals ≤ R.locals) (hc : cells ≤ R.cells ∧ slots ≤ R.slots) (hK : KM D ad cI cB en s) (hP : va_P D vwCl (wM ad cI cB S) H) (hS : va_S (AX 11 ad s.heap.size) s.heap H locs) (hls : ls.size = nL) (hrest : (rest.map fun v => v.category).sum ≤ 8) (hd : decode cc pc = .ok (.invokevirtual index, 3)) (hs : fX7_decimalLess x1 x2 S = some (ro, So)) (k : ∀ (H : Heap) (locs : List Loc), va_P D vwCl (wM ad cI cB So) H → va_S (AX 11 ad s.heap.size) s.heap H locs → W p l e R s m args below meth c H locs cells slots Q (F0 m (pc + 3) ls (.int ro :: rest))) : W p l e R s m args below meth c H locs cells slots Q (F0 m pc ls (.int x2 :: .int x1 :: .ref (ad 0) :: rest)) :=
  u_callV (n := 2) (mX7_decimalLess l D ad cI cB en S x1 x2 ro So hs) C uK_M (wg_V hlk tI_X7_decimalLess tS_X7_decimalLess tN_X7 tK_X7_decimalLess) rfl rfl rfl (by decide +kernel) hR rfl (va_recv hK.1 hP (ci := 6) (q0 := 0) rfl rfl) hK hP hS hls hrest hd hc rfl k
def fX7_holds (x1 : Int32) (S : St) : Option (Bool × St) :=
    (bd (fX7_has 8 S) fun b1 S1 => (bd (fX7_has 2 S1) fun b2 S2 => (jn (fun (b3 : Bool) => (if x1 = 0 then (some (true, S2))
    else (if x1 = 1 then (some (false, S2))
    else (if x1 = 2 then (bd (fX7_has 1 S2) fun b4 S3 => (if (zI b4) = 0 then (bd (fX7_has 4 S3) fun b5 S4 => (if (zI b5) = 0 then (some (true, S4))
    else (some (false, S4))))
    else (some (false, S3))))
    else (if x1 = 3 then (bd (fX7_has 1 S2) fun b6 S5 => (if (zI b6) = 0 then (bd (fX7_has 4 S5) fun b7 S6 => (if (zI b7) = 0 then (some (false, S6))
    else (some (true, S6))))
    else (some (true, S5))))
    else (if x1 = 4 then (bd (fX7_has 1 S2) fun b8 S7 => (if (zI b8) = 0 then (some (true, S7))
    else (some (false, S7))))
    else (if x1 = 5 then (bd (fX7_has 1 S2) fun b9 S8 => (some (b9, S8)))
    else (if x1 = 6 then (bd (fX7_has 4 S2) fun b10 S9 => (if (zI b10) = 0 then (some (true, S9))
    else (some (false, S9))))
    else (if x1 = 7 then (bd (fX7_has 4 S2) fun b11 S10 => (some (b11, S10)))
    else (if x1 = 8 then (bd (fX7_has 2 S2) fun b12 S11 => (if (zI b12) = 0 then (some (true, S11))
    else (some (false, S11))))
    else (if x1 = 9 then (bd (fX7_has 2 S2) fun b13 S12 => (some (b13, S12)))
    else (if x1 = 10 then (bd (fX7_has 8 S2) fun b14 S13 => (if (zI b14) = 0 then (some (true, S13))
    else (some (false, S13))))
    else (if x1 = 11 then (bd (fX7_has 8 S2) fun b15 S14 => (some (b15, S14)))
    else (if x1 = 12 then (if (zI b3) = 0 then (some (true, S2))
    else (some (false, S2)))
    else (if x1 = 13 then (some (b3, S2))
    else (if x1 = 14 then (bd (fX7_has 4 S2) fun b16 S15 => (if (zI b16) = 0 then (if (zI b3) = 0 then (some (true, S15))
    else (some (false, S15)))
    else (some (false, S15))))
    else (bd (fX7_has 4 S2) fun b17 S16 => (if (zI b17) = 0 then (if (zI b3) = 0 then (some (false, S16))
    else (some (true, S16)))
    else (some (true, S16)))))))))))))))))))) fun K1 =>
    (if (zI b1) = (zI b2) then (K1 false)
    else (K1 true)))))
abbrev rmX7_holds : Room := { frames := 1, cells := 0, slots := 0, locals := 21 }
set_option maxRecDepth 100000 in
set_option maxHeartbeats 4000000 in
theorem mX7_holds (l : Launch) (D : va_G) (ad : Nat → Nat) (cI cB : ClassId) (en : Nat → Nat) (S : St) (x1 : Int32) (ro : Bool) (So : St) (hs : fX7_holds x1 S = some (ro, So)) : uM l yX7_holds (wg yX7_holds cX7_holds 3 (some .boolean)) rmX7_holds (KM D ad cI cB en) D (wM ad cI cB) (AX 11 ad) [.ref (ad 0), .int x1] S (some (.int (zI ro)), So) := by
  refine uM_start (by decide) rfl ?_
  intro p e s m below meth c hx hb hr hlocks hml hown hts hK hP
  have hT : ∀ w ∈ wG, w.before _ s = true := fun w h => hts w (List.mem_cons_of_mem _ h)
  have hS : va_S (AX 11 ad s.heap.size) s.heap s.heap [] := va_S.rf
  have hown : s.vm.findClass RX7 = some m.cls := hown
  have C : CallFix p m c cX7_holds 3 s _ wG RX7 := ⟨hx, hb, hml, hown, hT⟩
  have hl := lv_entry ([.ref (ad 0), .int x1]) (n := 3) (Nat.le_of_ble_eq_true rfl)
  rw [lg_entry_eq]
  generalize (lg_sl ([.ref (ad 0), .int x1]) ++ List.replicate (3 - (lg_sl ([.ref (ad 0), .int x1])).length) Slot.unset).toArray = ls at hl ⊢
  have hl : lv_has ls 3 [(0, .ref (ad 0)), (1, .int x1)] := hl
  unfold fX7_holds at hs
  refine lv_aload_n hx hb dX7_holds_0 rfl (lv_at hl 0 rfl) ?_
  refine lv_bipush (v := 8) hx hb dX7_holds_1 (by decide) ?_
  obtain ⟨b1, S1, h1, hs⟩ := bd_e hs
  refine kX7_has C tM_X7_154 ⟨Nat.le_of_ble_eq_true rfl, Nat.le_of_ble_eq_true rfl⟩ ⟨Nat.le_of_ble_eq_true rfl, Nat.le_of_ble_eq_true rfl⟩ hK hP hS hl.1 (rest := []) (Nat.le_of_ble_eq_true rfl) dX7_holds_3 h1 (fun H locs hP hS => ?_)
  refine lv_aload_n hx hb dX7_holds_6 rfl (lv_at hl 0 rfl) ?_
  refine lv_iconst (v := 2) hx hb dX7_holds_7 (by decide) ?_
  obtain ⟨b2, S2, h2, hs⟩ := bd_e hs
  refine kX7_has C tM_X7_154 ⟨Nat.le_of_ble_eq_true rfl, Nat.le_of_ble_eq_true rfl⟩ ⟨Nat.le_of_ble_eq_true rfl, Nat.le_of_ble_eq_true rfl⟩ hK hP hS hl.1 (rest := [.int (zI b1)]) (Nat.le_of_ble_eq_true rfl) dX7_holds_8 h2 (fun H locs hP hS => ?_)
  refine jn_e hs (fun K1 => ∀ (b3 : Bool) (H : Heap) (locs : List Loc) (ls : Array Slot), lv_has ls 3 [(0, .ref (ad 0)), (1, .int x1)] → va_P D vwCl (wM ad cI cB S2) H → va_S (AX 11 ad s.heap.size) s.heap H locs → K1 b3 = some (ro, So) → W p l e rmX7_holds s m ([.ref (ad 0), .int x1] : List Value).toArray below meth c H locs 0 0 (MQ below (uQ D (wM ad cI cB) (some (.int (zI ro)), So) (AX 11 ad s.heap.size)) ([.ref (ad 0), .int x1] : List Value).toArray s 0 0 (AX 11 ad s.heap.size)) (F0 m 19 ls [.int (zI b3)])) ?_ (fun K1 J1 hs => ?_)
  · intro b3 H locs ls hl hP hS hs
    refine lv_istore_n (lv' := [(2, .int (zI b3)), (0, .ref (ad 0)), (1, .int x1)]) hx hb dX7_holds_19 rfl hl (by decide) rfl (fun ls hl => ?_)
    refine lv_iload_n hx hb dX7_holds_20 rfl (lv_at hl 2 rfl) ?_
    by_cases c1 : x1 = 0
    · have hs := if_t c1 hs
      refine u_table (k := 0) (a := 0) (off := 75) (tgt := 96) hx hb dX7_holds_21 c1 (by decide) (by decide) (by decide) (by decide) (by decide) ?_
      refine lv_iconst (v := 1) hx hb dX7_holds_96 (by decide) ?_
      exact u_zret (v := true) hx hb hr hlocks hP hS hs dX7_holds_97
    have hs := if_f c1 hs
    by_cases c2 : x1 = 1
    · have hs := if_t c2 hs
      refine u_table (k := 1) (a := 1) (off := 77) (tgt := 98) hx hb dX7_holds_21 c2 (by decide) (by decide) (by decide) (by decide) (by decide) ?_
      refine lv_iconst (v := 0) hx hb dX7_holds_98 (by decide) ?_
      exact u_zret (v := false) hx hb hr hlocks hP hS hs dX7_holds_99
    have hs := if_f c2 hs
    by_cases c3 : x1 = 2
    · have hs := if_t c3 hs
      refine u_table (k := 2) (a := 2) (off := 79) (tgt := 100) hx hb dX7_holds_21 c3 (by decide) (by decide) (by decide) (by decide) (by decide) ?_
      refine lv_aload_n hx hb dX7_holds_100 rfl (lv_at hl 1 rfl) ?_
      refine lv_iconst (v := 1) hx hb dX7_holds_101 (by decide) ?_
      obtain ⟨b4, S3, h3, hs⟩ := bd_e hs
      refine kX7_has C tM_X7_154 ⟨Nat.le_of_ble_eq_true rfl, Nat.le_of_ble_eq_true rfl⟩ ⟨Nat.le_of_ble_eq_true rfl, Nat.le_of_ble_eq_true rfl⟩ hK hP hS hl.1 (rest := []) (Nat.le_of_ble_eq_true rfl) dX7_holds_102 h3 (fun H locs hP hS => ?_)
      refine lv_if_ne (tgt := 120) hx hb dX7_holds_105 (by decide) (fun c4 => ?_) (fun c4 => ?_)
      · have hs := if_f c4 hs
        refine lv_iconst (v := 0) hx hb dX7_holds_120 (by decide) ?_
        exact u_zret (v := false) hx hb hr hlocks hP hS hs dX7_holds_121
      · have hs := if_t c4 hs
        refine lv_aload_n hx hb dX7_holds_108 rfl (lv_at hl 1 rfl) ?_
        refine lv_iconst (v := 4) hx hb dX7_holds_109 (by decide) ?_
        obtain ⟨b5, S4, h4, hs⟩ := bd_e hs
        refine kX7_has C tM_X7_154 ⟨Nat.le_of_ble_eq_true rfl, Nat.le_of_ble_eq_true rfl⟩ ⟨Nat.le_of_ble_eq_true rfl, Nat.le_of_ble_eq_true rfl⟩ hK hP hS hl.1 (rest := []) (Nat.le_of_ble_eq_true rfl) dX7_holds_110 h4 (fun H locs hP hS => ?_)
        refine lv_if_ne (tgt := 120) hx hb dX7_holds_113 (by decide) (fun c5 => ?_) (fun c5 => ?_)
        · have hs := if_f c5 hs
          refine lv_iconst (v := 0) hx hb dX7_holds_120 (by decide) ?_
          exact u_zret (v := false) hx hb hr hlocks hP hS hs dX7_holds_121
        · have hs := if_t c5 hs
          refine lv_iconst (v := 1) hx hb dX7_holds_116 (by decide) ?_
          refine lv_goto (tgt := 121) hx hb dX7_holds_117 (by decide) ?_
          exact u_zret (v := true) hx hb hr hlocks hP hS hs dX7_holds_121
    have hs := if_f c3 hs
    by_cases c6 : x1 = 3
    · have hs := if_t c6 hs
      refine u_table (k := 3) (a := 3) (off := 101) (tgt := 122) hx hb dX7_holds_21 c6 (by decide) (by decide) (by decide) (by decide) (by decide) ?_
      refine lv_aload_n hx hb dX7_holds_122 rfl (lv_at hl 1 rfl) ?_
      refine lv_iconst (v := 1) hx hb dX7_holds_123 (by decide) ?_
      obtain ⟨b6, S5, h5, hs⟩ := bd_e hs
      refine kX7_has C tM_X7_154 ⟨Nat.le_of_ble_eq_true rfl, Nat.le_of_ble_eq_true rfl⟩ ⟨Nat.le_of_ble_eq_true rfl, Nat.le_of_ble_eq_true rfl⟩ hK hP hS hl.1 (rest := []) (Nat.le_of_ble_eq_true rfl) dX7_holds_124 h5 (fun H locs hP hS => ?_)
      refine lv_if_ne (tgt := 138) hx hb dX7_holds_127 (by decide) (fun c7 => ?_) (fun c7 => ?_)
      · have hs := if_f c7 hs
        refine lv_iconst (v := 1) hx hb dX7_holds_138 (by decide) ?_
        refine lv_goto (tgt := 143) hx hb dX7_holds_139 (by decide) ?_
        exact u_zret (v := true) hx hb hr hlocks hP hS hs dX7_holds_143
      · have hs := if_t c7 hs
        refine lv_aload_n hx hb dX7_holds_130 rfl (lv_at hl 1 rfl) ?_
        refine lv_iconst (v := 4) hx hb dX7_holds_131 (by decide) ?_
        obtain ⟨b7, S6, h6, hs⟩ := bd_e hs
        refine kX7_has C tM_X7_154 ⟨Nat.le_of_ble_eq_true rfl, Nat.le_of_ble_eq_true rfl⟩ ⟨Nat.le_of_ble_eq_true rfl, Nat.le_of_ble_eq_true rfl⟩ hK hP hS hl.1 (rest := []) (Nat.le_of_ble_eq_true rfl) dX7_holds_132 h6 (fun H locs hP hS => ?_)
        refine lv_if_eq (tgt := 142) hx hb dX7_holds_135 (by decide) (fun c8 => ?_) (fun c8 => ?_)
        · have hs := if_t c8 hs
          refine lv_iconst (v := 0) hx hb dX7_holds_142 (by decide) ?_
          exact u_zret (v := false) hx hb hr hlocks hP hS hs dX7_holds_143
        · have hs := if_f c8 hs
          refine lv_iconst (v := 1) hx hb dX7_holds_138 (by decide) ?_
          refine lv_goto (tgt := 143) hx hb dX7_holds_139 (by decide) ?_
          exact u_zret (v := true) hx hb hr hlocks hP hS hs dX7_holds_143
    have hs := if_f c6 hs
    by_cases c9 : x1 = 4
    · have hs := if_t c9 hs
      refine u_table (k := 4) (a := 4) (off := 123) (tgt := 144) hx hb dX7_holds_21 c9 (by decide) (by decide) (by decide) (by decide) (by decide) ?_
      refine lv_aload_n hx hb dX7_holds_144 rfl (lv_at hl 1 rfl) ?_
      refine lv_iconst (v := 1) hx hb dX7_holds_145 (by decide) ?_
      obtain ⟨b8, S7, h7, hs⟩ := bd_e hs
      refine kX7_has C tM_X7_154 ⟨Nat.le_of_ble_eq_true rfl, Nat.le_of_ble_eq_true rfl⟩ ⟨Nat.le_of_ble_eq_true rfl, Nat.le_of_ble_eq_true rfl⟩ hK hP hS hl.1 (rest := []) (Nat.le_of_ble_eq_true rfl) dX7_holds_146 h7 (fun H locs hP hS => ?_)
      refine lv_if_ne (tgt := 156) hx hb dX7_holds_149 (by decide) (fun c10 => ?_) (fun c10 => ?_)
      · have hs := if_f c10 hs
        refine lv_iconst (v := 0) hx hb dX7_holds_156 (by decide) ?_
        exact u_zret (v := false) hx hb hr hlocks hP hS hs dX7_holds_157
      · have hs := if_t c10 hs
        refine lv_iconst (v := 1) hx hb dX7_holds_152 (by decide) ?_
        refine lv_goto (tgt := 157) hx hb dX7_holds_153 (by decide) ?_
        exact u_zret (v := true) hx hb hr hlocks hP hS hs dX7_holds_157
    have hs := if_f c9 hs
    by_cases c11 : x1 = 5
    · have hs := if_t c11 hs
      refine u_table (k := 5) (a := 5) (off := 137) (tgt := 158) hx hb dX7_holds_21 c11 (by decide) (by decide) (by decide) (by decide) (by decide) ?_
      refine lv_aload_n hx hb dX7_holds_158 rfl (lv_at hl 1 rfl) ?_
      refine lv_iconst (v := 1) hx hb dX7_holds_159 (by decide) ?_
      obtain ⟨b9, S8, h8, hs⟩ := bd_e hs
      refine kX7_has C tM_X7_154 ⟨Nat.le_of_ble_eq_true rfl, Nat.le_of_ble_eq_true rfl⟩ ⟨Nat.le_of_ble_eq_true rfl, Nat.le_of_ble_eq_true rfl⟩ hK hP hS hl.1 (rest := []) (Nat.le_of_ble_eq_true rfl) dX7_holds_160 h8 (fun H locs hP hS => ?_)
      exact u_zret (v := b9) hx hb hr hlocks hP hS hs dX7_holds_163
    have hs := if_f c11 hs
    by_cases c12 : x1 = 6
    · have hs := if_t c12 hs
      refine u_table (k := 6) (a := 6) (off := 143) (tgt := 164) hx hb dX7_holds_21 c12 (by decide) (by decide) (by decide) (by decide) (by decide) ?_
      refine lv_aload_n hx hb dX7_holds_164 rfl (lv_at hl 1 rfl) ?_
      refine lv_iconst (v := 4) hx hb dX7_holds_165 (by decide) ?_
      obtain ⟨b10, S9, h9, hs⟩ := bd_e hs
      refine kX7_has C tM_X7_154 ⟨Nat.le_of_ble_eq_true rfl, Nat.le_of_ble_eq_true rfl⟩ ⟨Nat.le_of_ble_eq_true rfl, Nat.le_of_ble_eq_true rfl⟩ hK hP hS hl.1 (rest := []) (Nat.le_of_ble_eq_true rfl) dX7_holds_166 h9 (fun H locs hP hS => ?_)
      refine lv_if_ne (tgt := 176) hx hb dX7_holds_169 (by decide) (fun c13 => ?_) (fun c13 => ?_)
      · have hs := if_f c13 hs
        refine lv_iconst (v := 0) hx hb dX7_holds_176 (by decide) ?_
        exact u_zret (v := false) hx hb hr hlocks hP hS hs dX7_holds_177
      · have hs := if_t c13 hs
        refine lv_iconst (v := 1) hx hb dX7_holds_172 (by decide) ?_
        refine lv_goto (tgt := 177) hx hb dX7_holds_173 (by decide) ?_
        exact u_zret (v := true) hx hb hr hlocks hP hS hs dX7_holds_177
    have hs := if_f c12 hs
    by_cases c14 : x1 = 7
    · have hs := if_t c14 hs
      refine u_table (k := 7) (a := 7) (off := 157) (tgt := 178) hx hb dX7_holds_21 c14 (by decide) (by decide) (by decide) (by decide) (by decide) ?_
      refine lv_aload_n hx hb dX7_holds_178 rfl (lv_at hl 1 rfl) ?_
      refine lv_iconst (v := 4) hx hb dX7_holds_179 (by decide) ?_
      obtain ⟨b11, S10, h10, hs⟩ := bd_e hs
      refine kX7_has C tM_X7_154 ⟨Nat.le_of_ble_eq_true rfl, Nat.le_of_ble_eq_true rfl⟩ ⟨Nat.le_of_ble_eq_true rfl, Nat.le_of_ble_eq_true rfl⟩ hK hP hS hl.1 (rest := []) (Nat.le_of_ble_eq_true rfl) dX7_holds_180 h10 (fun H locs hP hS => ?_)
      exact u_zret (v := b11) hx hb hr hlocks hP hS hs dX7_holds_183
    have hs := if_f c14 hs
    by_cases c15 : x1 = 8
    · have hs := if_t c15 hs
      refine u_table (k := 8) (a := 8) (off := 163) (tgt := 184) hx hb dX7_holds_21 c15 (by decide) (by decide) (by decide) (by decide) (by decide) ?_
      refine lv_aload_n hx hb dX7_holds_184 rfl (lv_at hl 1 rfl) ?_
      refine lv_iconst (v := 2) hx hb dX7_holds_185 (by decide) ?_
      obtain ⟨b12, S11, h11, hs⟩ := bd_e hs
      refine kX7_has C tM_X7_154 ⟨Nat.le_of_ble_eq_true rfl, Nat.le_of_ble_eq_true rfl⟩ ⟨Nat.le_of_ble_eq_true rfl, Nat.le_of_ble_eq_true rfl⟩ hK hP hS hl.1 (rest := []) (Nat.le_of_ble_eq_true rfl) dX7_holds_186 h11 (fun H locs hP hS => ?_)
      refine lv_if_ne (tgt := 196) hx hb dX7_holds_189 (by decide) (fun c16 => ?_) (fun c16 => ?_)
      · have hs := if_f c16 hs
        refine lv_iconst (v := 0) hx hb dX7_holds_196 (by decide) ?_
        exact u_zret (v := false) hx hb hr hlocks hP hS hs dX7_holds_197
      · have hs := if_t c16 hs
        refine lv_iconst (v := 1) hx hb dX7_holds_192 (by decide) ?_
        refine lv_goto (tgt := 197) hx hb dX7_holds_193 (by decide) ?_
        exact u_zret (v := true) hx hb hr hlocks hP hS hs dX7_holds_197
    have hs := if_f c15 hs
    by_cases c17 : x1 = 9
    · have hs := if_t c17 hs
      refine u_table (k := 9) (a := 9) (off := 177) (tgt := 198) hx hb dX7_holds_21 c17 (by decide) (by decide) (by decide) (by decide) (by decide) ?_
      refine lv_aload_n hx hb dX7_holds_198 rfl (lv_at hl 1 rfl) ?_
      refine lv_iconst (v := 2) hx hb dX7_holds_199 (by decide) ?_
      obtain ⟨b13, S12, h12, hs⟩ := bd_e hs
      refine kX7_has C tM_X7_154 ⟨Nat.le_of_ble_eq_true rfl, Nat.le_of_ble_eq_true rfl⟩ ⟨Nat.le_of_ble_eq_true rfl, Nat.le_of_ble_eq_true rfl⟩ hK hP hS hl.1 (rest := []) (Nat.le_of_ble_eq_true rfl) dX7_holds_200 h12 (fun H locs hP hS => ?_)
      exact u_zret (v := b13) hx hb hr hlocks hP hS hs dX7_holds_203
    have hs := if_f c17 hs
    by_cases c18 : x1 = 10
    · have hs := if_t c18 hs
      refine u_table (k := 10) (a := 10) (off := 183) (tgt := 204) hx hb dX7_holds_21 c18 (by decide) (by decide) (by decide) (by decide) (by decide) ?_
      refine lv_aload_n hx hb dX7_holds_204 rfl (lv_at hl 1 rfl) ?_
      refine lv_bipush (v := 8) hx hb dX7_holds_205 (by decide) ?_
      obtain ⟨b14, S13, h13, hs⟩ := bd_e hs
      refine kX7_has C tM_X7_154 ⟨Nat.le_of_ble_eq_true rfl, Nat.le_of_ble_eq_true rfl⟩ ⟨Nat.le_of_ble_eq_true rfl, Nat.le_of_ble_eq_true rfl⟩ hK hP hS hl.1 (rest := []) (Nat.le_of_ble_eq_true rfl) dX7_holds_207 h13 (fun H locs hP hS => ?_)
      refine lv_if_ne (tgt := 217) hx hb dX7_holds_210 (by decide) (fun c19 => ?_) (fun c19 => ?_)
      · have hs := if_f c19 hs
        refine lv_iconst (v := 0) hx hb dX7_holds_217 (by decide) ?_
        exact u_zret (v := false) hx hb hr hlocks hP hS hs dX7_holds_218
      · have hs := if_t c19 hs
        refine lv_iconst (v := 1) hx hb dX7_holds_213 (by decide) ?_
        refine lv_goto (tgt := 218) hx hb dX7_holds_214 (by decide) ?_
        exact u_zret (v := true) hx hb hr hlocks hP hS hs dX7_holds_218
    have hs := if_f c18 hs
    by_cases c20 : x1 = 11
    · have hs := if_t c20 hs
      refine u_table (k := 11) (a := 11) (off := 198) (tgt := 219) hx hb dX7_holds_21 c20 (by decide) (by decide) (by decide) (by decide) (by decide) ?_
      refine lv_aload_n hx hb dX7_holds_219 rfl (lv_at hl 1 rfl) ?_
      refine lv_bipush (v := 8) hx hb dX7_holds_220 (by decide) ?_
      obtain ⟨b15, S14, h14, hs⟩ := bd_e hs
      refine kX7_has C tM_X7_154 ⟨Nat.le_of_ble_eq_true rfl, Nat.le_of_ble_eq_true rfl⟩ ⟨Nat.le_of_ble_eq_true rfl, Nat.le_of_ble_eq_true rfl⟩ hK hP hS hl.1 (rest := []) (Nat.le_of_ble_eq_true rfl) dX7_holds_222 h14 (fun H locs hP hS => ?_)
      exact u_zret (v := b15) hx hb hr hlocks hP hS hs dX7_holds_225
    have hs := if_f c20 hs
    by_cases c21 : x1 = 12
    · have hs := if_t c21 hs
      refine u_table (k := 12) (a := 12) (off := 205) (tgt := 226) hx hb dX7_holds_21 c21 (by decide) (by decide) (by decide) (by decide) (by decide) ?_
      refine lv_iload_n hx hb dX7_holds_226 rfl (lv_at hl 0 rfl) ?_
      refine lv_if_ne (tgt := 234) hx hb dX7_holds_227 (by decide) (fun c22 => ?_) (fun c22 => ?_)
      · have hs := if_f c22 hs
        refine lv_iconst (v := 0) hx hb dX7_holds_234 (by decide) ?_
        exact u_zret (v := false) hx hb hr hlocks hP hS hs dX7_holds_235
      · have hs := if_t c22 hs
        refine lv_iconst (v := 1) hx hb dX7_holds_230 (by decide) ?_
        refine lv_goto (tgt := 235) hx hb dX7_holds_231 (by decide) ?_
        exact u_zret (v := true) hx hb hr hlocks hP hS hs dX7_holds_235
    have hs := if_f c21 hs
    by_cases c23 : x1 = 13
    · have hs := if_t c23 hs
      refine u_table (k := 13) (a := 13) (off := 215) (tgt := 236) hx hb dX7_holds_21 c23 (by decide) (by decide) (by decide) (by decide) (by decide) ?_
      refine lv_iload_n hx hb dX7_holds_236 rfl (lv_at hl 0 rfl) ?_
      exact u_zret (v := b3) hx hb hr hlocks hP hS hs dX7_holds_237
    have hs := if_f c23 hs
    by_cases c24 : x1 = 14
    · have hs := if_t c24 hs
      refine u_table (k := 14) (a := 14) (off := 217) (tgt := 238) hx hb dX7_holds_21 c24 (by decide) (by decide) (by decide) (by decide) (by decide) ?_
      refine lv_aload_n hx hb dX7_holds_238 rfl (lv_at hl 1 rfl) ?_
      refine lv_iconst (v := 4) hx hb dX7_holds_239 (by decide) ?_
      obtain ⟨b16, S15, h15, hs⟩ := bd_e hs
      refine kX7_has C tM_X7_154 ⟨Nat.le_of_ble_eq_true rfl, Nat.le_of_ble_eq_true rfl⟩ ⟨Nat.le_of_ble_eq_true rfl, Nat.le_of_ble_eq_true rfl⟩ hK hP hS hl.1 (rest := []) (Nat.le_of_ble_eq_true rfl) dX7_holds_240 h15 (fun H locs hP hS => ?_)
      refine lv_if_ne (tgt := 254) hx hb dX7_holds_243 (by decide) (fun c25 => ?_) (fun c25 => ?_)
      · have hs := if_f c25 hs
        refine lv_iconst (v := 0) hx hb dX7_holds_254 (by decide) ?_
        exact u_zret (v := false) hx hb hr hlocks hP hS hs dX7_holds_255
      · have hs := if_t c25 hs
        refine lv_iload_n hx hb dX7_holds_246 rfl (lv_at hl 0 rfl) ?_
        refine lv_if_ne (tgt := 254) hx hb dX7_holds_247 (by decide) (fun c26 => ?_) (fun c26 => ?_)
        · have hs := if_f c26 hs
          refine lv_iconst (v := 0) hx hb dX7_holds_254 (by decide) ?_
          exact u_zret (v := false) hx hb hr hlocks hP hS hs dX7_holds_255
        · have hs := if_t c26 hs
          refine lv_iconst (v := 1) hx hb dX7_holds_250 (by decide) ?_
          refine lv_goto (tgt := 255) hx hb dX7_holds_251 (by decide) ?_
          exact u_zret (v := true) hx hb hr hlocks hP hS hs dX7_holds_255
    have hs := if_f c24 hs
    refine u_tableD (tgt := 256) hx hb dX7_holds_21 (fun hlo hhi => ?_) (by decide) ?_
    · have hz : (x1).toInt = 0 ∨ (x1).toInt = 1 ∨ (x1).toInt = 2 ∨ (x1).toInt = 3 ∨ (x1).toInt = 4 ∨ (x1).toInt = 5 ∨ (x1).toInt = 6 ∨ (x1).toInt = 7 ∨ (x1).toInt = 8 ∨ (x1).toInt = 9 ∨ (x1).toInt = 10 ∨ (x1).toInt = 11 ∨ (x1).toInt = 12 ∨ (x1).toInt = 13 ∨ (x1).toInt = 14 := by omega
      rcases hz with hz | hz | hz | hz | hz | hz | hz | hz | hz | hz | hz | hz | hz | hz | hz
      · exact absurd hz (lv_neT c1 (by decide))
      · exact absurd hz (lv_neT c2 (by decide))
      · exact absurd hz (lv_neT c3 (by decide))
      · exact absurd hz (lv_neT c6 (by decide))
      · exact absurd hz (lv_neT c9 (by decide))
      · exact absurd hz (lv_neT c11 (by decide))
      · exact absurd hz (lv_neT c12 (by decide))
      · exact absurd hz (lv_neT c14 (by decide))
      · exact absurd hz (lv_neT c15 (by decide))
      · exact absurd hz (lv_neT c17 (by decide))
      · exact absurd hz (lv_neT c18 (by decide))
      · exact absurd hz (lv_neT c20 (by decide))
      · exact absurd hz (lv_neT c21 (by decide))
      · exact absurd hz (lv_neT c23 (by decide))
      · exact absurd hz (lv_neT c24 (by decide))
    refine lv_aload_n hx hb dX7_holds_256 rfl (lv_at hl 1 rfl) ?_
    refine lv_iconst (v := 4) hx hb dX7_holds_257 (by decide) ?_
    obtain ⟨b17, S16, h16, hs⟩ := bd_e hs
    refine kX7_has C tM_X7_154 ⟨Nat.le_of_ble_eq_true rfl, Nat.le_of_ble_eq_true rfl⟩ ⟨Nat.le_of_ble_eq_true rfl, Nat.le_of_ble_eq_true rfl⟩ hK hP hS hl.1 (rest := []) (Nat.le_of_ble_eq_true rfl) dX7_holds_258 h16 (fun H locs hP hS => ?_)
    refine lv_if_ne (tgt := 268) hx hb dX7_holds_261 (by decide) (fun c27 => ?_) (fun c27 => ?_)
    · have hs := if_f c27 hs
      refine lv_iconst (v := 1) hx hb dX7_holds_268 (by decide) ?_
      refine lv_goto (tgt := 273) hx hb dX7_holds_269 (by decide) ?_
      exact u_zret (v := true) hx hb hr hlocks hP hS hs dX7_holds_273
    · have hs := if_t c27 hs
      refine lv_iload_n hx hb dX7_holds_264 rfl (lv_at hl 0 rfl) ?_
      refine lv_if_eq (tgt := 272) hx hb dX7_holds_265 (by decide) (fun c28 => ?_) (fun c28 => ?_)
      · have hs := if_t c28 hs
        refine lv_iconst (v := 0) hx hb dX7_holds_272 (by decide) ?_
        exact u_zret (v := false) hx hb hr hlocks hP hS hs dX7_holds_273
      · have hs := if_f c28 hs
        refine lv_iconst (v := 1) hx hb dX7_holds_268 (by decide) ?_
        refine lv_goto (tgt := 273) hx hb dX7_holds_269 (by decide) ?_
        exact u_zret (v := true) hx hb hr hlocks hP hS hs dX7_holds_273
  ·
    refine lv_icmp_eq (tgt := 18) hx hb dX7_holds_11 (by decide) (fun c29 => ?_) (fun c29 => ?_)
    · have hs := if_t c29 hs
      refine lv_iconst (v := 0) hx hb dX7_holds_18 (by decide) ?_
      exact J1 false _ _ _ (lv_sub hl [0, 1] rfl) hP hS hs
    · have hs := if_f c29 hs
      refine lv_iconst (v := 1) hx hb dX7_holds_14 (by decide) ?_
      refine lv_goto (tgt := 19) hx hb dX7_holds_15 (by decide) ?_
      exact J1 true _ _ _ (lv_sub hl [0, 1] rfl) hP hS hs
theorem kX7_holds {p : Program} {l : Launch} {e : Env} {R : Room} {s : State} {m : MethodId} {args : Array Value} {below : List Frame} {meth : Method} {c : Code} {H : Heap} {locs : List Loc} {cells slots : Nat} {Q : State → Prop} {cc : ByteArray} {pc nL : Nat} {ls : Array Slot} {rest : List Value} {D : va_G} {ad : Nat → Nat} {cI cB : ClassId} {en : Nat → Nat} {S : St} {own : String} {index : Nat} {x1 : Int32} {ro : Bool} {So : St} (C : CallFix p m c cc nL s args wG own) (hlk : Cond.methodLink own index yX7_holds ∈ wG) (hR : rmX7_holds.frames + 1 ≤ R.frames ∧ 8 + (3 + 11) + rmX7_holds.locals ≤ R.locals) (hc : cells ≤ R.cells ∧ slots ≤ R.slots) (hK : KM D ad cI cB en s) (hP : va_P D vwCl (wM ad cI cB S) H) (hS : va_S (AX 11 ad s.heap.size) s.heap H locs) (hls : ls.size = nL) (hrest : (rest.map fun v => v.category).sum ≤ 8) (hd : decode cc pc = .ok (.invokevirtual index, 3)) (hs : fX7_holds x1 S = some (ro, So)) (k : ∀ (H : Heap) (locs : List Loc), va_P D vwCl (wM ad cI cB So) H → va_S (AX 11 ad s.heap.size) s.heap H locs → W p l e R s m args below meth c H locs cells slots Q (F0 m (pc + 3) ls (.int (zI ro) :: rest))) : W p l e R s m args below meth c H locs cells slots Q (F0 m pc ls (.int x1 :: .ref (ad 0) :: rest)) :=
  u_callV (n := 1) (mX7_holds l D ad cI cB en S x1 ro So hs) C uK_M (wg_V hlk tI_X7_holds tS_X7_holds tN_X7 tK_X7_holds) rfl rfl rfl (by decide +kernel) hR rfl (va_recv hK.1 hP (ci := 6) (q0 := 0) rfl rfl) hK hP hS hls hrest hd hc rfl k
def fX7_sizeOf (x0 : Int32) (S : St) : Option (Int32 × St) :=
    (if x0 = 0 then (some (1, S))
    else (if x0 = 1 then (some (2, S))
    else (some (4, S))))
abbrev rmX7_sizeOf : Room := { frames := 0, cells := 0, slots := 0, locals := 0 }
set_option maxRecDepth 100000 in
set_option maxHeartbeats 4000000 in
theorem mX7_sizeOf (l : Launch) (D : va_G) (ad : Nat → Nat) (cI cB : ClassId) (en : Nat → Nat) (S : St) (x0 : Int32) (ro : Int32) (So : St) (hs : fX7_sizeOf x0 S = some (ro, So)) : uM l yX7_sizeOf (wg yX7_sizeOf cX7_sizeOf 1 (some .int)) rmX7_sizeOf (KM D ad cI cB en) D (wM ad cI cB) (AX 11 ad) [.int x0] S (some (.int ro), So) := by
  refine uM_start (by decide) rfl ?_
  intro p e s m below meth c hx hb hr hlocks hml hown hts hK hP
  have hT : ∀ w ∈ wG, w.before _ s = true := fun w h => hts w (List.mem_cons_of_mem _ h)
  have hS : va_S (AX 11 ad s.heap.size) s.heap s.heap [] := va_S.rf
  have hown : s.vm.findClass RX7 = some m.cls := hown
  have C : CallFix p m c cX7_sizeOf 1 s _ wG RX7 := ⟨hx, hb, hml, hown, hT⟩
  have hl := lv_entry ([.int x0]) (n := 1) (Nat.le_of_ble_eq_true rfl)
  rw [lg_entry_eq]
  generalize (lg_sl ([.int x0]) ++ List.replicate (1 - (lg_sl ([.int x0])).length) Slot.unset).toArray = ls at hl ⊢
  have hl : lv_has ls 1 [(0, .int x0)] := hl
  unfold fX7_sizeOf at hs
  refine lv_iload_n hx hb dX7_sizeOf_0 rfl (lv_at hl 0 rfl) ?_
  refine lv_if_ne (tgt := 8) hx hb dX7_sizeOf_1 (by decide) (fun c1 => ?_) (fun c1 => ?_)
  · have hs := if_f c1 hs
    refine lv_iload_n hx hb dX7_sizeOf_8 rfl (lv_at hl 0 rfl) ?_
    refine lv_iconst (v := 1) hx hb dX7_sizeOf_9 (by decide) ?_
    refine lv_icmp_ne (tgt := 17) hx hb dX7_sizeOf_10 (by decide) (fun c2 => ?_) (fun c2 => ?_)
    · have hs := if_f c2 hs
      refine lv_iconst (v := 4) hx hb dX7_sizeOf_17 (by decide) ?_
      exact u_iret hx hb hr hlocks hP hS hs dX7_sizeOf_18
    · have hs := if_t c2 hs
      refine lv_iconst (v := 2) hx hb dX7_sizeOf_13 (by decide) ?_
      refine lv_goto (tgt := 18) hx hb dX7_sizeOf_14 (by decide) ?_
      exact u_iret hx hb hr hlocks hP hS hs dX7_sizeOf_18
  · have hs := if_t c1 hs
    refine lv_iconst (v := 1) hx hb dX7_sizeOf_4 (by decide) ?_
    refine lv_goto (tgt := 18) hx hb dX7_sizeOf_5 (by decide) ?_
    exact u_iret hx hb hr hlocks hP hS hs dX7_sizeOf_18
theorem kX7_sizeOf {p : Program} {l : Launch} {e : Env} {R : Room} {s : State} {m : MethodId} {args : Array Value} {below : List Frame} {meth : Method} {c : Code} {H : Heap} {locs : List Loc} {cells slots : Nat} {Q : State → Prop} {cc : ByteArray} {pc nL : Nat} {ls : Array Slot} {rest : List Value} {D : va_G} {ad : Nat → Nat} {cI cB : ClassId} {en : Nat → Nat} {S : St} {own : String} {index : Nat} {x0 : Int32} {ro : Int32} {So : St} (C : CallFix p m c cc nL s args wG own) (hlk : Cond.methodLink own index yX7_sizeOf ∈ wG) (hR : rmX7_sizeOf.frames + 1 ≤ R.frames ∧ 8 + (1 + 11) + rmX7_sizeOf.locals ≤ R.locals) (hc : cells ≤ R.cells ∧ slots ≤ R.slots) (hK : KM D ad cI cB en s) (hP : va_P D vwCl (wM ad cI cB S) H) (hS : va_S (AX 11 ad s.heap.size) s.heap H locs) (hls : ls.size = nL) (hrest : (rest.map fun v => v.category).sum ≤ 8) (hd : decode cc pc = .ok (.invokestatic index, 3)) (hs : fX7_sizeOf x0 S = some (ro, So)) (k : ∀ (H : Heap) (locs : List Loc), va_P D vwCl (wM ad cI cB So) H → va_S (AX 11 ad s.heap.size) s.heap H locs → W p l e R s m args below meth c H locs cells slots Q (F0 m (pc + 3) ls (.int ro :: rest))) : W p l e R s m args below meth c H locs cells slots Q (F0 m pc ls (.int x0 :: rest)) :=
  u_callS (n := 1) (mX7_sizeOf l D ad cI cB en S x0 ro So hs) C uK_M (wg_S hlk tI_X7_sizeOf tN_X7 tK_X7_sizeOf) rfl rfl rfl (by decide +kernel) hR rfl hK hP hS hls hrest hd hc rfl k
def fX7_isUser  (S : St) : Option (Bool × St) :=
    (bd (fX7_has 8192 S) fun b1 S1 => (jn (fun (S2 : St) => (if (S2.1 6) ≤ 0 then (some (false, S2))
    else (some (true, S2)))) fun K1 =>
    (if (zI b1) = 0 then (bv (fX7_fault 8 0 S1) fun S3 => (K1 S3))
    else (K1 S1))))
abbrev rmX7_isUser : Room := { frames := 1, cells := 0, slots := 0, locals := 22 }
set_option maxRecDepth 100000 in
set_option maxHeartbeats 4000000 in
theorem mX7_isUser (l : Launch) (D : va_G) (ad : Nat → Nat) (cI cB : ClassId) (en : Nat → Nat) (S : St)  (ro : Bool) (So : St) (hs : fX7_isUser  S = some (ro, So)) : uM l yX7_isUser (wg yX7_isUser cX7_isUser 1 (some .boolean)) rmX7_isUser (KM D ad cI cB en) D (wM ad cI cB) (AX 11 ad) [.ref (ad 0)] S (some (.int (zI ro)), So) := by
  refine uM_start (by decide) rfl ?_
  intro p e s m below meth c hx hb hr hlocks hml hown hts hK hP
  have hT : ∀ w ∈ wG, w.before _ s = true := fun w h => hts w (List.mem_cons_of_mem _ h)
  have hS : va_S (AX 11 ad s.heap.size) s.heap s.heap [] := va_S.rf
  have hown : s.vm.findClass RX7 = some m.cls := hown
  have C : CallFix p m c cX7_isUser 1 s _ wG RX7 := ⟨hx, hb, hml, hown, hT⟩
  have hl := lv_entry ([.ref (ad 0)]) (n := 1) (Nat.le_of_ble_eq_true rfl)
  rw [lg_entry_eq]
  generalize (lg_sl ([.ref (ad 0)]) ++ List.replicate (1 - (lg_sl ([.ref (ad 0)])).length) Slot.unset).toArray = ls at hl ⊢
  have hl : lv_has ls 1 [(0, .ref (ad 0))] := hl
  unfold fX7_isUser at hs
  refine lv_aload_n hx hb dX7_isUser_0 rfl (lv_at hl 0 rfl) ?_
  refine lv_sipush (v := 8192) hx hb dX7_isUser_1 (by decide) ?_
  obtain ⟨b1, S1, h1, hs⟩ := bd_e hs
  refine kX7_has C tM_X7_154 ⟨Nat.le_of_ble_eq_true rfl, Nat.le_of_ble_eq_true rfl⟩ ⟨Nat.le_of_ble_eq_true rfl, Nat.le_of_ble_eq_true rfl⟩ hK hP hS hl.1 (rest := []) (Nat.le_of_ble_eq_true rfl) dX7_isUser_4 h1 (fun H locs hP hS => ?_)
  refine jn_e hs (fun K1 => ∀ (S2 : St) (H : Heap) (locs : List Loc) (ls : Array Slot), lv_has ls 1 [(0, .ref (ad 0))] → va_P D vwCl (wM ad cI cB S2) H → va_S (AX 11 ad s.heap.size) s.heap H locs → K1 S2 = some (ro, So) → W p l e rmX7_isUser s m ([.ref (ad 0)] : List Value).toArray below meth c H locs 0 0 (MQ below (uQ D (wM ad cI cB) (some (.int (zI ro)), So) (AX 11 ad s.heap.size)) ([.ref (ad 0)] : List Value).toArray s 0 0 (AX 11 ad s.heap.size)) (F0 m 17 ls [])) ?_ (fun K1 J1 hs => ?_)
  · intro S2 H locs ls hl hP hS hs
    refine lv_aload_n hx hb dX7_isUser_17 rfl (lv_at hl 0 rfl) ?_
    refine gM_X7_trouble hx hb hT hown hK hP (hT _ tF_X7_100) dX7_isUser_18 ?_
    refine lv_if_le (tgt := 28) hx hb dX7_isUser_21 (by decide) (fun c1 => ?_) (fun c1 => ?_)
    · have hs := if_t c1 hs
      refine lv_iconst (v := 0) hx hb dX7_isUser_28 (by decide) ?_
      exact u_zret (v := false) hx hb hr hlocks hP hS hs dX7_isUser_29
    · have hs := if_f c1 hs
      refine lv_iconst (v := 1) hx hb dX7_isUser_24 (by decide) ?_
      refine lv_goto (tgt := 29) hx hb dX7_isUser_25 (by decide) ?_
      exact u_zret (v := true) hx hb hr hlocks hP hS hs dX7_isUser_29
  ·
    refine lv_if_ne (tgt := 17) hx hb dX7_isUser_7 (by decide) (fun c2 => ?_) (fun c2 => ?_)
    · have hs := if_f c2 hs
      exact J1 S1 _ _ _ (lv_sub hl [0] rfl) hP hS hs
    · have hs := if_t c2 hs
      refine lv_aload_n hx hb dX7_isUser_10 rfl (lv_at hl 0 rfl) ?_
      refine lv_bipush (v := 8) hx hb dX7_isUser_11 (by decide) ?_
      refine lv_iconst (v := 0) hx hb dX7_isUser_13 (by decide) ?_
      obtain ⟨S3, h2, hs⟩ := bv_e hs
      refine kX7_fault C tM_X7_106 ⟨Nat.le_of_ble_eq_true rfl, Nat.le_of_ble_eq_true rfl⟩ ⟨Nat.le_of_ble_eq_true rfl, Nat.le_of_ble_eq_true rfl⟩ hK hP hS hl.1 (rest := []) (Nat.le_of_ble_eq_true rfl) dX7_isUser_14 h2 (fun H locs hP hS => ?_)
      exact J1 S3 _ _ _ (lv_sub hl [0] rfl) hP hS hs
theorem kX7_isUser {p : Program} {l : Launch} {e : Env} {R : Room} {s : State} {m : MethodId} {args : Array Value} {below : List Frame} {meth : Method} {c : Code} {H : Heap} {locs : List Loc} {cells slots : Nat} {Q : State → Prop} {cc : ByteArray} {pc nL : Nat} {ls : Array Slot} {rest : List Value} {D : va_G} {ad : Nat → Nat} {cI cB : ClassId} {en : Nat → Nat} {S : St} {own : String} {index : Nat}  {ro : Bool} {So : St} (C : CallFix p m c cc nL s args wG own) (hlk : Cond.methodLink own index yX7_isUser ∈ wG) (hR : rmX7_isUser.frames + 1 ≤ R.frames ∧ 8 + (1 + 11) + rmX7_isUser.locals ≤ R.locals) (hc : cells ≤ R.cells ∧ slots ≤ R.slots) (hK : KM D ad cI cB en s) (hP : va_P D vwCl (wM ad cI cB S) H) (hS : va_S (AX 11 ad s.heap.size) s.heap H locs) (hls : ls.size = nL) (hrest : (rest.map fun v => v.category).sum ≤ 8) (hd : decode cc pc = .ok (.invokevirtual index, 3)) (hs : fX7_isUser  S = some (ro, So)) (k : ∀ (H : Heap) (locs : List Loc), va_P D vwCl (wM ad cI cB So) H → va_S (AX 11 ad s.heap.size) s.heap H locs → W p l e R s m args below meth c H locs cells slots Q (F0 m (pc + 3) ls (.int (zI ro) :: rest))) : W p l e R s m args below meth c H locs cells slots Q (F0 m pc ls (.ref (ad 0) :: rest)) :=
  u_callV (n := 0) (mX7_isUser l D ad cI cB en S  ro So hs) C uK_M (wg_V hlk tI_X7_isUser tS_X7_isUser tN_X7 tK_X7_isUser) rfl rfl rfl (by decide +kernel) hR rfl (va_recv hK.1 hP (ci := 6) (q0 := 0) rfl rfl) hK hP hS hls hrest hd hc rfl k
def fX7_putSr (x1 : Int32) (S : St) : Option St :=
    (if (S.1 6) = 0 then (lt (sI S 2 (x1 &&& 42783)) fun S1 => (some S1))
    else (some S))
abbrev rmX7_putSr : Room := { frames := 0, cells := 0, slots := 0, locals := 0 }
set_option maxRecDepth 100000 in
set_option maxHeartbeats 4000000 in
theorem mX7_putSr (l : Launch) (D : va_G) (ad : Nat → Nat) (cI cB : ClassId) (en : Nat → Nat) (S : St) (x1 : Int32) (So : St) (hs : fX7_putSr x1 S = some So) : uM l yX7_putSr (wg yX7_putSr cX7_putSr 2 none) rmX7_putSr (KM D ad cI cB en) D (wM ad cI cB) (AX 11 ad) [.ref (ad 0), .int x1] S (none, So) := by
  refine uM_start (by decide) rfl ?_
  intro p e s m below meth c hx hb hr hlocks hml hown hts hK hP
  have hT : ∀ w ∈ wG, w.before _ s = true := fun w h => hts w (List.mem_cons_of_mem _ h)
  have hS : va_S (AX 11 ad s.heap.size) s.heap s.heap [] := va_S.rf
  have hown : s.vm.findClass RX7 = some m.cls := hown
  have C : CallFix p m c cX7_putSr 2 s _ wG RX7 := ⟨hx, hb, hml, hown, hT⟩
  have hl := lv_entry ([.ref (ad 0), .int x1]) (n := 2) (Nat.le_of_ble_eq_true rfl)
  rw [lg_entry_eq]
  generalize (lg_sl ([.ref (ad 0), .int x1]) ++ List.replicate (2 - (lg_sl ([.ref (ad 0), .int x1])).length) Slot.unset).toArray = ls at hl ⊢
  have hl : lv_has ls 2 [(0, .ref (ad 0)), (1, .int x1)] := hl
  unfold fX7_putSr at hs
  refine lv_aload_n hx hb dX7_putSr_0 rfl (lv_at hl 0 rfl) ?_
  refine gM_X7_trouble hx hb hT hown hK hP (hT _ tF_X7_100) dX7_putSr_1 ?_
  refine lv_if_ne (tgt := 15) hx hb dX7_putSr_4 (by decide) (fun c1 => ?_) (fun c1 => ?_)
  · have hs := if_f c1 hs
    exact u_vret hx hb hr hlocks hP hS hs dX7_putSr_15
  · have hs := if_t c1 hs
    refine lv_aload_n hx hb dX7_putSr_7 rfl (lv_at hl 0 rfl) ?_
    refine lv_iload_n hx hb dX7_putSr_8 rfl (lv_at hl 1 rfl) ?_
    refine lv_ldc (v := 42783) hx hb hown (hT _ tC_X7_78) dX7_putSr_9 ?_
    refine lv_iand hx hb dX7_putSr_11 ?_
    obtain ⟨S1, h1, hs⟩ := lt_e hs
    refine pM_X7_sr hx hb hT hown hK hP hS (hT _ tF_X7_50) dX7_putSr_12 (v := (x1 &&& 42783)) h1 (fun H locs hP hS => ?_)
    exact u_vret hx hb hr hlocks hP hS hs dX7_putSr_15
theorem kX7_putSr {p : Program} {l : Launch} {e : Env} {R : Room} {s : State} {m : MethodId} {args : Array Value} {below : List Frame} {meth : Method} {c : Code} {H : Heap} {locs : List Loc} {cells slots : Nat} {Q : State → Prop} {cc : ByteArray} {pc nL : Nat} {ls : Array Slot} {rest : List Value} {D : va_G} {ad : Nat → Nat} {cI cB : ClassId} {en : Nat → Nat} {S : St} {own : String} {index : Nat} {x1 : Int32} {So : St} (C : CallFix p m c cc nL s args wG own) (hlk : Cond.methodLink own index yX7_putSr ∈ wG) (hR : rmX7_putSr.frames + 1 ≤ R.frames ∧ 8 + (2 + 11) + rmX7_putSr.locals ≤ R.locals) (hc : cells ≤ R.cells ∧ slots ≤ R.slots) (hK : KM D ad cI cB en s) (hP : va_P D vwCl (wM ad cI cB S) H) (hS : va_S (AX 11 ad s.heap.size) s.heap H locs) (hls : ls.size = nL) (hrest : (rest.map fun v => v.category).sum ≤ 8) (hd : decode cc pc = .ok (.invokevirtual index, 3)) (hs : fX7_putSr x1 S = some So) (k : ∀ (H : Heap) (locs : List Loc), va_P D vwCl (wM ad cI cB So) H → va_S (AX 11 ad s.heap.size) s.heap H locs → W p l e R s m args below meth c H locs cells slots Q (F0 m (pc + 3) ls (rest))) : W p l e R s m args below meth c H locs cells slots Q (F0 m pc ls (.int x1 :: .ref (ad 0) :: rest)) :=
  u_callV (n := 1) (mX7_putSr l D ad cI cB en S x1 So hs) C uK_M (wg_V hlk tI_X7_putSr tS_X7_putSr tN_X7 tK_X7_putSr) rfl rfl rfl (by decide +kernel) hR rfl (va_recv hK.1 hP (ci := 6) (q0 := 0) rfl rfl) hK hP hS hls hrest hd hc rfl k
def fX7_mixed (x0 : Int32) (x1 : Int32) (x2 : Int32) (S : St) : Option (Int32 × St) :=
    (if x0 = 0 then (some ((x1 ||| x2), S))
    else (if x0 = 1 then (some ((x1 &&& x2), S))
    else (some ((x1 ^^^ x2), S))))
abbrev rmX7_mixed : Room := { frames := 0, cells := 0, slots := 0, locals := 0 }
set_option maxRecDepth 100000 in
set_option maxHeartbeats 4000000 in
theorem mX7_mixed (l : Launch) (D : va_G) (ad : Nat → Nat) (cI cB : ClassId) (en : Nat → Nat) (S : St) (x0 : Int32) (x1 : Int32) (x2 : Int32) (ro : Int32) (So : St) (hs : fX7_mixed x0 x1 x2 S = some (ro, So)) : uM l yX7_mixed (wg yX7_mixed cX7_mixed 3 (some .int)) rmX7_mixed (KM D ad cI cB en) D (wM ad cI cB) (AX 11 ad) [.int x0, .int x1, .int x2] S (some (.int ro), So) := by
  refine uM_start (by decide) rfl ?_
  intro p e s m below meth c hx hb hr hlocks hml hown hts hK hP
  have hT : ∀ w ∈ wG, w.before _ s = true := fun w h => hts w (List.mem_cons_of_mem _ h)
  have hS : va_S (AX 11 ad s.heap.size) s.heap s.heap [] := va_S.rf
  have hown : s.vm.findClass RX7 = some m.cls := hown
  have C : CallFix p m c cX7_mixed 3 s _ wG RX7 := ⟨hx, hb, hml, hown, hT⟩
  have hl := lv_entry ([.int x0, .int x1, .int x2]) (n := 3) (Nat.le_of_ble_eq_true rfl)
  rw [lg_entry_eq]
  generalize (lg_sl ([.int x0, .int x1, .int x2]) ++ List.replicate (3 - (lg_sl ([.int x0, .int x1, .int x2])).length) Slot.unset).toArray = ls at hl ⊢
  have hl : lv_has ls 3 [(0, .int x0), (1, .int x1), (2, .int x2)] := hl
  unfold fX7_mixed at hs
  refine lv_iload_n hx hb dX7_mixed_0 rfl (lv_at hl 0 rfl) ?_
  refine lv_if_ne (tgt := 10) hx hb dX7_mixed_1 (by decide) (fun c1 => ?_) (fun c1 => ?_)
  · have hs := if_f c1 hs
    refine lv_iload_n hx hb dX7_mixed_10 rfl (lv_at hl 0 rfl) ?_
    refine lv_iconst (v := 1) hx hb dX7_mixed_11 (by decide) ?_
    refine lv_icmp_ne (tgt := 21) hx hb dX7_mixed_12 (by decide) (fun c2 => ?_) (fun c2 => ?_)
    · have hs := if_f c2 hs
      refine lv_iload_n hx hb dX7_mixed_21 rfl (lv_at hl 1 rfl) ?_
      refine lv_iload_n hx hb dX7_mixed_22 rfl (lv_at hl 2 rfl) ?_
      refine lv_ixor hx hb dX7_mixed_23 ?_
      exact u_iret hx hb hr hlocks hP hS hs dX7_mixed_24
    · have hs := if_t c2 hs
      refine lv_iload_n hx hb dX7_mixed_15 rfl (lv_at hl 1 rfl) ?_
      refine lv_iload_n hx hb dX7_mixed_16 rfl (lv_at hl 2 rfl) ?_
      refine lv_iand hx hb dX7_mixed_17 ?_
      refine lv_goto (tgt := 24) hx hb dX7_mixed_18 (by decide) ?_
      exact u_iret hx hb hr hlocks hP hS hs dX7_mixed_24
  · have hs := if_t c1 hs
    refine lv_iload_n hx hb dX7_mixed_4 rfl (lv_at hl 1 rfl) ?_
    refine lv_iload_n hx hb dX7_mixed_5 rfl (lv_at hl 2 rfl) ?_
    refine lv_ior hx hb dX7_mixed_6 ?_
    refine lv_goto (tgt := 24) hx hb dX7_mixed_7 (by decide) ?_
    exact u_iret hx hb hr hlocks hP hS hs dX7_mixed_24
theorem kX7_mixed {p : Program} {l : Launch} {e : Env} {R : Room} {s : State} {m : MethodId} {args : Array Value} {below : List Frame} {meth : Method} {c : Code} {H : Heap} {locs : List Loc} {cells slots : Nat} {Q : State → Prop} {cc : ByteArray} {pc nL : Nat} {ls : Array Slot} {rest : List Value} {D : va_G} {ad : Nat → Nat} {cI cB : ClassId} {en : Nat → Nat} {S : St} {own : String} {index : Nat} {x0 : Int32} {x1 : Int32} {x2 : Int32} {ro : Int32} {So : St} (C : CallFix p m c cc nL s args wG own) (hlk : Cond.methodLink own index yX7_mixed ∈ wG) (hR : rmX7_mixed.frames + 1 ≤ R.frames ∧ 8 + (3 + 11) + rmX7_mixed.locals ≤ R.locals) (hc : cells ≤ R.cells ∧ slots ≤ R.slots) (hK : KM D ad cI cB en s) (hP : va_P D vwCl (wM ad cI cB S) H) (hS : va_S (AX 11 ad s.heap.size) s.heap H locs) (hls : ls.size = nL) (hrest : (rest.map fun v => v.category).sum ≤ 8) (hd : decode cc pc = .ok (.invokestatic index, 3)) (hs : fX7_mixed x0 x1 x2 S = some (ro, So)) (k : ∀ (H : Heap) (locs : List Loc), va_P D vwCl (wM ad cI cB So) H → va_S (AX 11 ad s.heap.size) s.heap H locs → W p l e R s m args below meth c H locs cells slots Q (F0 m (pc + 3) ls (.int ro :: rest))) : W p l e R s m args below meth c H locs cells slots Q (F0 m pc ls (.int x2 :: .int x1 :: .int x0 :: rest)) :=
  u_callS (n := 3) (mX7_mixed l D ad cI cB en S x0 x1 x2 ro So hs) C uK_M (wg_S hlk tI_X7_mixed tN_X7 tK_X7_mixed) rfl rfl rfl (by decide +kernel) hR rfl hK hP hS hls hrest hd hc rfl k
def fX7_toFlags (x1 : Int32) (S : St) : Option (Bool × St) :=
    (jn (fun (b1 : Bool) => (if (zI b1) = 0 then (bd (fX7_extension S) fun r1 S1 => (if (zI b1) = 0 then (bd (fX7_mixed x1 (S1.1 2) r1 S1) fun r2 S2 => (bv (fX7_putSr (((S1.1 2) &&& (-256 : Int32)) ||| (r2 &&& 255)) S2) fun S3 => (some (true, S3))))
    else (bd (fX7_mixed x1 (S1.1 2) r1 S1) fun r3 S4 => (bv (fX7_putSr r3 S4) fun S5 => (some (true, S5))))))
    else (bd (fX7_isUser S) fun b2 S6 => (if (zI b2) = 0 then (bd (fX7_extension S6) fun r4 S7 => (if (zI b1) = 0 then (bd (fX7_mixed x1 (S7.1 2) r4 S7) fun r5 S8 => (bv (fX7_putSr (((S7.1 2) &&& (-256 : Int32)) ||| (r5 &&& 255)) S8) fun S9 => (some (true, S9))))
    else (bd (fX7_mixed x1 (S7.1 2) r4 S7) fun r6 S10 => (bv (fX7_putSr r6 S10) fun S11 => (some (true, S11))))))
    else (some (true, S6)))))) fun K1 =>
    (if ((S.1 5) &&& 64) = 0 then (K1 false)
    else (K1 true)))
abbrev rmX7_toFlags : Room := { frames := 4, cells := 0, slots := 0, locals := 88 }
set_option maxRecDepth 100000 in
set_option maxHeartbeats 4000000 in
theorem mX7_toFlags (l : Launch) (D : va_G) (ad : Nat → Nat) (cI cB : ClassId) (en : Nat → Nat) (S : St) (x1 : Int32) (ro : Bool) (So : St) (hs : fX7_toFlags x1 S = some (ro, So)) : uM l yX7_toFlags (wg yX7_toFlags cX7_toFlags 4 (some .boolean)) rmX7_toFlags (KM D ad cI cB en) D (wM ad cI cB) (AX 11 ad) [.ref (ad 0), .int x1] S (some (.int (zI ro)), So) := by
  refine uM_start (by decide) rfl ?_
  intro p e s m below meth c hx hb hr hlocks hml hown hts hK hP
  have hT : ∀ w ∈ wG, w.before _ s = true := fun w h => hts w (List.mem_cons_of_mem _ h)
  have hS : va_S (AX 11 ad s.heap.size) s.heap s.heap [] := va_S.rf
  have hown : s.vm.findClass RX7 = some m.cls := hown
  have C : CallFix p m c cX7_toFlags 4 s _ wG RX7 := ⟨hx, hb, hml, hown, hT⟩
  have hl := lv_entry ([.ref (ad 0), .int x1]) (n := 4) (Nat.le_of_ble_eq_true rfl)
  rw [lg_entry_eq]
  generalize (lg_sl ([.ref (ad 0), .int x1]) ++ List.replicate (4 - (lg_sl ([.ref (ad 0), .int x1])).length) Slot.unset).toArray = ls at hl ⊢
  have hl : lv_has ls 4 [(0, .ref (ad 0)), (1, .int x1)] := hl
  unfold fX7_toFlags at hs
  refine lv_aload_n hx hb dX7_toFlags_0 rfl (lv_at hl 0 rfl) ?_
  refine gM_X7_op hx hb hT hown hK hP (hT _ tF_X7_174) dX7_toFlags_1 ?_
  refine lv_bipush (v := 64) hx hb dX7_toFlags_4 (by decide) ?_
  refine lv_iand hx hb dX7_toFlags_6 ?_
  refine jn_e hs (fun K1 => ∀ (b1 : Bool) (H : Heap) (locs : List Loc) (ls : Array Slot), lv_has ls 4 [(0, .ref (ad 0)), (1, .int x1)] → va_P D vwCl (wM ad cI cB S) H → va_S (AX 11 ad s.heap.size) s.heap H locs → K1 b1 = some (ro, So) → W p l e rmX7_toFlags s m ([.ref (ad 0), .int x1] : List Value).toArray below meth c H locs 0 0 (MQ below (uQ D (wM ad cI cB) (some (.int (zI ro)), So) (AX 11 ad s.heap.size)) ([.ref (ad 0), .int x1] : List Value).toArray s 0 0 (AX 11 ad s.heap.size)) (F0 m 15 ls [.int (zI b1)])) ?_ (fun K1 J1 hs => ?_)
  · intro b1 H locs ls hl hP hS hs
    refine lv_istore_n (lv' := [(2, .int (zI b1)), (0, .ref (ad 0)), (1, .int x1)]) hx hb dX7_toFlags_15 rfl hl (by decide) rfl (fun ls hl => ?_)
    refine lv_iload_n hx hb dX7_toFlags_16 rfl (lv_at hl 0 rfl) ?_
    refine lv_if_eq (tgt := 29) hx hb dX7_toFlags_17 (by decide) (fun c1 => ?_) (fun c1 => ?_)
    · have hs := if_t c1 hs
      refine lv_aload_n hx hb dX7_toFlags_29 rfl (lv_at hl 1 rfl) ?_
      obtain ⟨r1, S1, h1, hs⟩ := bd_e hs
      refine kX7_extension C tM_X7_125 ⟨Nat.le_of_ble_eq_true rfl, Nat.le_of_ble_eq_true rfl⟩ ⟨Nat.le_of_ble_eq_true rfl, Nat.le_of_ble_eq_true rfl⟩ hK hP hS hl.1 (rest := []) (Nat.le_of_ble_eq_true rfl) dX7_toFlags_30 h1 (fun H locs hP hS => ?_)
      refine lv_istore_n (lv' := [(3, .int r1), (2, .int (zI b1)), (0, .ref (ad 0)), (1, .int x1)]) hx hb dX7_toFlags_33 rfl hl (by decide) rfl (fun ls hl => ?_)
      refine lv_iload_n hx hb dX7_toFlags_34 rfl (lv_at hl 1 rfl) ?_
      refine lv_if_eq (tgt := 54) hx hb dX7_toFlags_35 (by decide) (fun c2 => ?_) (fun c2 => ?_)
      · have hs := if_t c2 hs
        refine lv_aload_n hx hb dX7_toFlags_54 rfl (lv_at hl 2 rfl) ?_
        refine lv_aload_n hx hb dX7_toFlags_55 rfl (lv_at hl 2 rfl) ?_
        refine gM_X7_sr hx hb hT hown hK hP (hT _ tF_X7_50) dX7_toFlags_56 ?_
        refine lv_sipush (v := (-256 : Int32)) hx hb dX7_toFlags_59 (by decide) ?_
        refine lv_iand hx hb dX7_toFlags_62 ?_
        refine lv_iload_n hx hb dX7_toFlags_63 rfl (lv_at hl 3 rfl) ?_
        refine lv_aload_n hx hb dX7_toFlags_64 rfl (lv_at hl 2 rfl) ?_
        refine gM_X7_sr hx hb hT hown hK hP (hT _ tF_X7_50) dX7_toFlags_65 ?_
        refine lv_iload_n hx hb dX7_toFlags_68 rfl (lv_at hl 0 rfl) ?_
        obtain ⟨r2, S2, h2, hs⟩ := bd_e hs
        refine kX7_mixed C tM_X7_181 ⟨Nat.le_of_ble_eq_true rfl, Nat.le_of_ble_eq_true rfl⟩ ⟨Nat.le_of_ble_eq_true rfl, Nat.le_of_ble_eq_true rfl⟩ hK hP hS hl.1 (rest := [.int ((S1.1 2) &&& (-256 : Int32)), .ref (ad 0)]) (Nat.le_of_ble_eq_true rfl) dX7_toFlags_69 h2 (fun H locs hP hS => ?_)
        refine lv_sipush (v := 255) hx hb dX7_toFlags_72 (by decide) ?_
        refine lv_iand hx hb dX7_toFlags_75 ?_
        refine lv_ior hx hb dX7_toFlags_76 ?_
        obtain ⟨S3, h3, hs⟩ := bv_e hs
        refine kX7_putSr C tM_X7_184 ⟨Nat.le_of_ble_eq_true rfl, Nat.le_of_ble_eq_true rfl⟩ ⟨Nat.le_of_ble_eq_true rfl, Nat.le_of_ble_eq_true rfl⟩ hK hP hS hl.1 (rest := []) (Nat.le_of_ble_eq_true rfl) dX7_toFlags_77 h3 (fun H locs hP hS => ?_)
        refine lv_iconst (v := 1) hx hb dX7_toFlags_80 (by decide) ?_
        exact u_zret (v := true) hx hb hr hlocks hP hS hs dX7_toFlags_81
      · have hs := if_f c2 hs
        refine lv_aload_n hx hb dX7_toFlags_38 rfl (lv_at hl 2 rfl) ?_
        refine lv_iload_n hx hb dX7_toFlags_39 rfl (lv_at hl 3 rfl) ?_
        refine lv_aload_n hx hb dX7_toFlags_40 rfl (lv_at hl 2 rfl) ?_
        refine gM_X7_sr hx hb hT hown hK hP (hT _ tF_X7_50) dX7_toFlags_41 ?_
        refine lv_iload_n hx hb dX7_toFlags_44 rfl (lv_at hl 0 rfl) ?_
        obtain ⟨r3, S4, h4, hs⟩ := bd_e hs
        refine kX7_mixed C tM_X7_181 ⟨Nat.le_of_ble_eq_true rfl, Nat.le_of_ble_eq_true rfl⟩ ⟨Nat.le_of_ble_eq_true rfl, Nat.le_of_ble_eq_true rfl⟩ hK hP hS hl.1 (rest := [.ref (ad 0)]) (Nat.le_of_ble_eq_true rfl) dX7_toFlags_45 h4 (fun H locs hP hS => ?_)
        obtain ⟨S5, h5, hs⟩ := bv_e hs
        refine kX7_putSr C tM_X7_184 ⟨Nat.le_of_ble_eq_true rfl, Nat.le_of_ble_eq_true rfl⟩ ⟨Nat.le_of_ble_eq_true rfl, Nat.le_of_ble_eq_true rfl⟩ hK hP hS hl.1 (rest := []) (Nat.le_of_ble_eq_true rfl) dX7_toFlags_48 h5 (fun H locs hP hS => ?_)
        refine lv_goto (tgt := 80) hx hb dX7_toFlags_51 (by decide) ?_
        refine lv_iconst (v := 1) hx hb dX7_toFlags_80 (by decide) ?_
        exact u_zret (v := true) hx hb hr hlocks hP hS hs dX7_toFlags_81
    · have hs := if_f c1 hs
      refine lv_aload_n hx hb dX7_toFlags_20 rfl (lv_at hl 1 rfl) ?_
      obtain ⟨b2, S6, h6, hs⟩ := bd_e hs
      refine kX7_isUser C tM_X7_177 ⟨Nat.le_of_ble_eq_true rfl, Nat.le_of_ble_eq_true rfl⟩ ⟨Nat.le_of_ble_eq_true rfl, Nat.le_of_ble_eq_true rfl⟩ hK hP hS hl.1 (rest := []) (Nat.le_of_ble_eq_true rfl) dX7_toFlags_21 h6 (fun H locs hP hS => ?_)
      refine lv_if_eq (tgt := 29) hx hb dX7_toFlags_24 (by decide) (fun c3 => ?_) (fun c3 => ?_)
      · have hs := if_t c3 hs
        refine lv_aload_n hx hb dX7_toFlags_29 rfl (lv_at hl 1 rfl) ?_
        obtain ⟨r4, S7, h7, hs⟩ := bd_e hs
        refine kX7_extension C tM_X7_125 ⟨Nat.le_of_ble_eq_true rfl, Nat.le_of_ble_eq_true rfl⟩ ⟨Nat.le_of_ble_eq_true rfl, Nat.le_of_ble_eq_true rfl⟩ hK hP hS hl.1 (rest := []) (Nat.le_of_ble_eq_true rfl) dX7_toFlags_30 h7 (fun H locs hP hS => ?_)
        refine lv_istore_n (lv' := [(3, .int r4), (2, .int (zI b1)), (0, .ref (ad 0)), (1, .int x1)]) hx hb dX7_toFlags_33 rfl hl (by decide) rfl (fun ls hl => ?_)
        refine lv_iload_n hx hb dX7_toFlags_34 rfl (lv_at hl 1 rfl) ?_
        refine lv_if_eq (tgt := 54) hx hb dX7_toFlags_35 (by decide) (fun c4 => ?_) (fun c4 => ?_)
        · have hs := if_t c4 hs
          refine lv_aload_n hx hb dX7_toFlags_54 rfl (lv_at hl 2 rfl) ?_
          refine lv_aload_n hx hb dX7_toFlags_55 rfl (lv_at hl 2 rfl) ?_
          refine gM_X7_sr hx hb hT hown hK hP (hT _ tF_X7_50) dX7_toFlags_56 ?_
          refine lv_sipush (v := (-256 : Int32)) hx hb dX7_toFlags_59 (by decide) ?_
          refine lv_iand hx hb dX7_toFlags_62 ?_
          refine lv_iload_n hx hb dX7_toFlags_63 rfl (lv_at hl 3 rfl) ?_
          refine lv_aload_n hx hb dX7_toFlags_64 rfl (lv_at hl 2 rfl) ?_
          refine gM_X7_sr hx hb hT hown hK hP (hT _ tF_X7_50) dX7_toFlags_65 ?_
          refine lv_iload_n hx hb dX7_toFlags_68 rfl (lv_at hl 0 rfl) ?_
          obtain ⟨r5, S8, h8, hs⟩ := bd_e hs
          refine kX7_mixed C tM_X7_181 ⟨Nat.le_of_ble_eq_true rfl, Nat.le_of_ble_eq_true rfl⟩ ⟨Nat.le_of_ble_eq_true rfl, Nat.le_of_ble_eq_true rfl⟩ hK hP hS hl.1 (rest := [.int ((S7.1 2) &&& (-256 : Int32)), .ref (ad 0)]) (Nat.le_of_ble_eq_true rfl) dX7_toFlags_69 h8 (fun H locs hP hS => ?_)
          refine lv_sipush (v := 255) hx hb dX7_toFlags_72 (by decide) ?_
          refine lv_iand hx hb dX7_toFlags_75 ?_
          refine lv_ior hx hb dX7_toFlags_76 ?_
          obtain ⟨S9, h9, hs⟩ := bv_e hs
          refine kX7_putSr C tM_X7_184 ⟨Nat.le_of_ble_eq_true rfl, Nat.le_of_ble_eq_true rfl⟩ ⟨Nat.le_of_ble_eq_true rfl, Nat.le_of_ble_eq_true rfl⟩ hK hP hS hl.1 (rest := []) (Nat.le_of_ble_eq_true rfl) dX7_toFlags_77 h9 (fun H locs hP hS => ?_)
          refine lv_iconst (v := 1) hx hb dX7_toFlags_80 (by decide) ?_
          exact u_zret (v := true) hx hb hr hlocks hP hS hs dX7_toFlags_81
        · have hs := if_f c4 hs
          refine lv_aload_n hx hb dX7_toFlags_38 rfl (lv_at hl 2 rfl) ?_
          refine lv_iload_n hx hb dX7_toFlags_39 rfl (lv_at hl 3 rfl) ?_
          refine lv_aload_n hx hb dX7_toFlags_40 rfl (lv_at hl 2 rfl) ?_
          refine gM_X7_sr hx hb hT hown hK hP (hT _ tF_X7_50) dX7_toFlags_41 ?_
          refine lv_iload_n hx hb dX7_toFlags_44 rfl (lv_at hl 0 rfl) ?_
          obtain ⟨r6, S10, h10, hs⟩ := bd_e hs
          refine kX7_mixed C tM_X7_181 ⟨Nat.le_of_ble_eq_true rfl, Nat.le_of_ble_eq_true rfl⟩ ⟨Nat.le_of_ble_eq_true rfl, Nat.le_of_ble_eq_true rfl⟩ hK hP hS hl.1 (rest := [.ref (ad 0)]) (Nat.le_of_ble_eq_true rfl) dX7_toFlags_45 h10 (fun H locs hP hS => ?_)
          obtain ⟨S11, h11, hs⟩ := bv_e hs
          refine kX7_putSr C tM_X7_184 ⟨Nat.le_of_ble_eq_true rfl, Nat.le_of_ble_eq_true rfl⟩ ⟨Nat.le_of_ble_eq_true rfl, Nat.le_of_ble_eq_true rfl⟩ hK hP hS hl.1 (rest := []) (Nat.le_of_ble_eq_true rfl) dX7_toFlags_48 h11 (fun H locs hP hS => ?_)
          refine lv_goto (tgt := 80) hx hb dX7_toFlags_51 (by decide) ?_
          refine lv_iconst (v := 1) hx hb dX7_toFlags_80 (by decide) ?_
          exact u_zret (v := true) hx hb hr hlocks hP hS hs dX7_toFlags_81
      · have hs := if_f c3 hs
        refine lv_iconst (v := 1) hx hb dX7_toFlags_27 (by decide) ?_
        exact u_zret (v := true) hx hb hr hlocks hP hS hs dX7_toFlags_28
  ·
    refine lv_if_eq (tgt := 14) hx hb dX7_toFlags_7 (by decide) (fun c5 => ?_) (fun c5 => ?_)
    · have hs := if_t c5 hs
      refine lv_iconst (v := 0) hx hb dX7_toFlags_14 (by decide) ?_
      exact J1 false _ _ _ (lv_sub hl [0, 1] rfl) hP hS hs
    · have hs := if_f c5 hs
      refine lv_iconst (v := 1) hx hb dX7_toFlags_10 (by decide) ?_
      refine lv_goto (tgt := 15) hx hb dX7_toFlags_11 (by decide) ?_
      exact J1 true _ _ _ (lv_sub hl [0, 1] rfl) hP hS hs
theorem kX7_toFlags {p : Program} {l : Launch} {e : Env} {R : Room} {s : State} {m : MethodId} {args : Array Value} {below : List Frame} {meth : Method} {c : Code} {H : Heap} {locs : List Loc} {cells slots : Nat} {Q : State → Prop} {cc : ByteArray} {pc nL : Nat} {ls : Array Slot} {rest : List Value} {D : va_G} {ad : Nat → Nat} {cI cB : ClassId} {en : Nat → Nat} {S : St} {own : String} {index : Nat} {x1 : Int32} {ro : Bool} {So : St} (C : CallFix p m c cc nL s args wG own) (hlk : Cond.methodLink own index yX7_toFlags ∈ wG) (hR : rmX7_toFlags.frames + 1 ≤ R.frames ∧ 8 + (4 + 11) + rmX7_toFlags.locals ≤ R.locals) (hc : cells ≤ R.cells ∧ slots ≤ R.slots) (hK : KM D ad cI cB en s) (hP : va_P D vwCl (wM ad cI cB S) H) (hS : va_S (AX 11 ad s.heap.size) s.heap H locs) (hls : ls.size = nL) (hrest : (rest.map fun v => v.category).sum ≤ 8) (hd : decode cc pc = .ok (.invokevirtual index, 3)) (hs : fX7_toFlags x1 S = some (ro, So)) (k : ∀ (H : Heap) (locs : List Loc), va_P D vwCl (wM ad cI cB So) H → va_S (AX 11 ad s.heap.size) s.heap H locs → W p l e R s m args below meth c H locs cells slots Q (F0 m (pc + 3) ls (.int (zI ro) :: rest))) : W p l e R s m args below meth c H locs cells slots Q (F0 m pc ls (.int x1 :: .ref (ad 0) :: rest)) :=
  u_callV (n := 1) (mX7_toFlags l D ad cI cB en S x1 ro So hs) C uK_M (wg_V hlk tI_X7_toFlags tS_X7_toFlags tN_X7 tK_X7_toFlags) rfl rfl rfl (by decide +kernel) hR rfl (va_recv hK.1 hP (ci := 6) (q0 := 0) rfl rfl) hK hP hS hls hrest hd hc rfl k
def fX7_movePeripheral_b1 (v4 : Int32) (v3 : Int32) (v2 : Int32) (k1 : Int32 → St → Option (Bool × St)) (v5 : Int32) (S3 : St) : Option (Bool × St) :=
    (if v4 ≤ v5 then (some (true, S3))
    else (gd (ixo v2 8 = true) (bv (fX7_setByte (v3 + (2 * v5)) ((S3.2.2 1 v2.toNatClampNeg) >>> ((8 * ((v4 - 1) - v5)) &&& 31)) S3) fun S4 => (lt (v5 + 1) fun v6 => (k1 v6 S4)))))
def fX7_movePeripheral_l1 (v4 : Int32) (v3 : Int32) (v2 : Int32) : Nat → Int32 → St → Option (Bool × St)
  | 0 => fun _ _ => none
  | n + 1 => fX7_movePeripheral_b1 v4 v3 v2 (fX7_movePeripheral_l1 v4 v3 v2 n)
def fX7_movePeripheral_b2 (v4 : Int32) (v3 : Int32) (v2 : Int32) (k2 : Int32 → Int32 → St → Option (Bool × St)) (v7 : Int32) (v8 : Int32) (S5 : St) : Option (Bool × St) :=
    (if v4 ≤ v7 then (gd (ixo v2 8 = true) (bd (fX7_joined (S5.2.2 1 v2.toNatClampNeg) v8 v4 S5) fun r3 S6 => (gd (ixo v2 8 = true) (lt (sA S6 1 v2.toNatClampNeg r3) fun S7 => (some (true, S7))))))
    else (bd (fX7_byteAt (v3 + (2 * v7)) S5) fun r4 S8 => (lt (((v8 <<< ((8 : Int32) &&& 31)) ||| r4) : Int32) fun v9 => (lt (v7 + 1) fun v10 => (k2 v10 v9 S8)))))
def fX7_movePeripheral_l2 (v4 : Int32) (v3 : Int32) (v2 : Int32) : Nat → Int32 → Int32 → St → Option (Bool × St)
  | 0 => fun _ _ _ => none
  | n + 1 => fX7_movePeripheral_b2 v4 v3 v2 (fX7_movePeripheral_l2 v4 v3 v2 n)
def fX7_movePeripheral  (S : St) : Option (Bool × St) :=
    (lt ((((S.1 5) >>> ((6 : Int32) &&& 31)) &&& 3) : Int32) fun v1 => (lt ((((S.1 5) >>> ((9 : Int32) &&& 31)) &&& 7) : Int32) fun v2 => (bd (fX7_getA ((S.1 5) &&& 7) S) fun r1 S1 => (bd (fX7_extension S1) fun r2 S2 => (lt ((r1 + (r2.toInt16.toInt32)) : Int32) fun v3 => (jn (fun (v4 : Int32) => (if 2 ≤ v1 then (fX7_movePeripheral_l1 v4 v3 v2 5 0 S2)
    else (fX7_movePeripheral_l2 v4 v3 v2 5 0 0 S2))) fun K1 =>
    (if (v1 &&& 1) = 1 then (K1 4)
    else (K1 2))))))))
abbrev rmX7_movePeripheral : Room := { frames := 4, cells := 0, slots := 0, locals := 88 }
set_option maxRecDepth 100000 in
set_option maxHeartbeats 4000000 in
theorem mX7_movePeripheral (l : Launch) (D : va_G) (ad : Nat → Nat) (cI cB : ClassId) (en : Nat → Nat) (S : St)  (ro : Bool) (So : St) (hs : fX7_movePeripheral  S = some (ro, So)) : uM l yX7_movePeripheral (wg yX7_movePeripheral cX7_movePeripheral 7 (some .boolean)) rmX7_movePeripheral (KM D ad cI cB en) D (wM ad cI cB) (AX 11 ad) [.ref (ad 0)] S (some (.int (zI ro)), So) := by
  refine uM_start (by decide) rfl ?_
  intro p e s m below meth c hx hb hr hlocks hml hown hts hK hP
  have hT : ∀ w ∈ wG, w.before _ s = true := fun w h => hts w (List.mem_cons_of_mem _ h)
  have hS : va_S (AX 11 ad s.heap.size) s.heap s.heap [] := va_S.rf
  have hown : s.vm.findClass RX7 = some m.cls := hown
  have C : CallFix p m c cX7_movePeripheral 7 s _ wG RX7 := ⟨hx, hb, hml, hown, hT⟩
  have hl := lv_entry ([.ref (ad 0)]) (n := 7) (Nat.le_of_ble_eq_true rfl)
  rw [lg_entry_eq]
  generalize (lg_sl ([.ref (ad 0)]) ++ List.replicate (7 - (lg_sl ([.ref (ad 0)])).length) Slot.unset).toArray = ls at hl ⊢
  have hl : lv_has ls 7 [(0, .ref (ad 0))] := hl
  unfold fX7_movePeripheral at hs
  refine lv_aload_n hx hb dX7_movePeripheral_0 rfl (lv_at hl 0 rfl) ?_
  refine gM_X7_op hx hb hT hown hK hP (hT _ tF_X7_174) dX7_movePeripheral_1 ?_
  refine lv_bipush (v := 6) hx hb dX7_movePeripheral_4 (by decide) ?_
  refine lv_ishr hx hb dX7_movePeripheral_6 ?_
  refine lv_iconst (v := 3) hx hb dX7_movePeripheral_7 (by decide) ?_
  refine lv_iand hx hb dX7_movePeripheral_8 ?_
  obtain ⟨v1, h1, hs⟩ := lt_e hs
  refine u_top h1 ?_
  refine lv_istore_n (lv' := [(1, .int v1), (0, .ref (ad 0))]) hx hb dX7_movePeripheral_9 rfl hl (by decide) rfl (fun ls hl => ?_)
  refine lv_aload_n hx hb dX7_movePeripheral_10 rfl (lv_at hl 1 rfl) ?_
  refine gM_X7_op hx hb hT hown hK hP (hT _ tF_X7_174) dX7_movePeripheral_11 ?_
  refine lv_bipush (v := 9) hx hb dX7_movePeripheral_14 (by decide) ?_
  refine lv_ishr hx hb dX7_movePeripheral_16 ?_
  refine lv_bipush (v := 7) hx hb dX7_movePeripheral_17 (by decide) ?_
  refine lv_iand hx hb dX7_movePeripheral_19 ?_
  obtain ⟨v2, h2, hs⟩ := lt_e hs
  refine u_top h2 ?_
  refine lv_istore_n (lv' := [(2, .int v2), (1, .int v1), (0, .ref (ad 0))]) hx hb dX7_movePeripheral_20 rfl hl (by decide) rfl (fun ls hl => ?_)
  refine lv_aload_n hx hb dX7_movePeripheral_21 rfl (lv_at hl 2 rfl) ?_
  refine lv_aload_n hx hb dX7_movePeripheral_22 rfl (lv_at hl 2 rfl) ?_
  refine gM_X7_op hx hb hT hown hK hP (hT _ tF_X7_174) dX7_movePeripheral_23 ?_
  refine lv_bipush (v := 7) hx hb dX7_movePeripheral_26 (by decide) ?_
  refine lv_iand hx hb dX7_movePeripheral_28 ?_
  obtain ⟨r1, S1, h3, hs⟩ := bd_e hs
  refine kX7_getA C tM_X7_70 ⟨Nat.le_of_ble_eq_true rfl, Nat.le_of_ble_eq_true rfl⟩ ⟨Nat.le_of_ble_eq_true rfl, Nat.le_of_ble_eq_true rfl⟩ hK hP hS hl.1 (rest := []) (Nat.le_of_ble_eq_true rfl) dX7_movePeripheral_29 h3 (fun H locs hP hS => ?_)
  refine lv_aload_n hx hb dX7_movePeripheral_32 rfl (lv_at hl 2 rfl) ?_
  obtain ⟨r2, S2, h4, hs⟩ := bd_e hs
  refine kX7_extension C tM_X7_125 ⟨Nat.le_of_ble_eq_true rfl, Nat.le_of_ble_eq_true rfl⟩ ⟨Nat.le_of_ble_eq_true rfl, Nat.le_of_ble_eq_true rfl⟩ hK hP hS hl.1 (rest := [.int r1]) (Nat.le_of_ble_eq_true rfl) dX7_movePeripheral_33 h4 (fun H locs hP hS => ?_)
  refine lv_i2s (v := (r2.toInt16.toInt32)) hx hb dX7_movePeripheral_36 rfl ?_
  refine lv_iadd hx hb dX7_movePeripheral_37 ?_
  obtain ⟨v3, h5, hs⟩ := lt_e hs
  refine u_top h5 ?_
  refine lv_istore_n (lv' := [(3, .int v3), (2, .int v2), (1, .int v1), (0, .ref (ad 0))]) hx hb dX7_movePeripheral_38 rfl hl (by decide) rfl (fun ls hl => ?_)
  refine lv_iload_n hx hb dX7_movePeripheral_39 rfl (lv_at hl 2 rfl) ?_
  refine lv_iconst (v := 1) hx hb dX7_movePeripheral_40 (by decide) ?_
  refine lv_iand hx hb dX7_movePeripheral_41 ?_
  refine lv_iconst (v := 1) hx hb dX7_movePeripheral_42 (by decide) ?_
  refine jn_e hs (fun K1 => ∀ (v4 : Int32) (H : Heap) (locs : List Loc) (ls : Array Slot), lv_has ls 7 [(3, .int v3), (2, .int v2), (1, .int v1), (0, .ref (ad 0))] → va_P D vwCl (wM ad cI cB S2) H → va_S (AX 11 ad s.heap.size) s.heap H locs → K1 v4 = some (ro, So) → W p l e rmX7_movePeripheral s m ([.ref (ad 0)] : List Value).toArray below meth c H locs 0 0 (MQ below (uQ D (wM ad cI cB) (some (.int (zI ro)), So) (AX 11 ad s.heap.size)) ([.ref (ad 0)] : List Value).toArray s 0 0 (AX 11 ad s.heap.size)) (F0 m 51 ls [.int v4])) ?_ (fun K1 J1 hs => ?_)
  · intro v4 H locs ls hl hP hS hs
    refine lv_istore (lv' := [(4, .int v4), (3, .int v3), (2, .int v2), (1, .int v1), (0, .ref (ad 0))]) hx hb dX7_movePeripheral_51 hl (by decide) rfl (fun ls hl => ?_)
    refine lv_iload_n hx hb dX7_movePeripheral_53 rfl (lv_at hl 3 rfl) ?_
    refine lv_iconst (v := 2) hx hb dX7_movePeripheral_54 (by decide) ?_
    refine lv_icmp_ge (tgt := 117) hx hb dX7_movePeripheral_55 (by decide) (fun c1 => ?_) (fun c1 => ?_)
    · have hs := if_t c1 hs
      refine lv_iconst (v := 0) hx hb dX7_movePeripheral_117 (by decide) ?_
      refine lv_istore (lv' := [(5, .int 0), (4, .int v4), (3, .int v3), (2, .int v2), (1, .int v1), (0, .ref (ad 0))]) hx hb dX7_movePeripheral_118 hl (by decide) rfl (fun ls hl => ?_)
      have L1 : ∀ (n : Nat) (v5 : Int32) (S3 : St) (H : Heap) (locs : List Loc) (ls : Array Slot), lv_has ls 7 [(5, .int v5), (4, .int v4), (3, .int v3), (2, .int v2), (0, .ref (ad 0))] → va_P D vwCl (wM ad cI cB S3) H → va_S (AX 11 ad s.heap.size) s.heap H locs → fX7_movePeripheral_l1 v4 v3 v2 n v5 S3 = some (ro, So) → W p l e rmX7_movePeripheral s m ([.ref (ad 0)] : List Value).toArray below meth c H locs 0 0 (MQ below (uQ D (wM ad cI cB) (some (.int (zI ro)), So) (AX 11 ad s.heap.size)) ([.ref (ad 0)] : List Value).toArray s 0 0 (AX 11 ad s.heap.size)) (F0 m 120 ls []) := by
        intro n
        induction n with
        | zero => intro v5 S3 H locs ls hl hP hS hs; cases hs
        | succ n ih =>
          intro v5 S3 H locs ls hl hP hS hs
          have hs : fX7_movePeripheral_b1 v4 v3 v2 (fX7_movePeripheral_l1 v4 v3 v2 n) v5 S3 = some (ro, So) := hs
          unfold fX7_movePeripheral_b1 at hs
          refine lv_iload hx hb dX7_movePeripheral_120 (lv_at hl 0 rfl) ?_
          refine lv_iload hx hb dX7_movePeripheral_122 (lv_at hl 1 rfl) ?_
          refine lv_icmp_ge (tgt := 160) hx hb dX7_movePeripheral_124 (by decide) (fun c2 => ?_) (fun c2 => ?_)
          · have hs := if_t c2 hs
            refine lv_iconst (v := 1) hx hb dX7_movePeripheral_160 (by decide) ?_
            exact u_zret (v := true) hx hb hr hlocks hP hS hs dX7_movePeripheral_161
          · have hs := if_f c2 hs
            refine lv_aload_n hx hb dX7_movePeripheral_127 rfl (lv_at hl 4 rfl) ?_
            refine lv_iload_n hx hb dX7_movePeripheral_128 rfl (lv_at hl 2 rfl) ?_
            refine lv_iconst (v := 2) hx hb dX7_movePeripheral_129 (by decide) ?_
            refine lv_iload hx hb dX7_movePeripheral_130 (lv_at hl 0 rfl) ?_
            refine lv_imul hx hb dX7_movePeripheral_132 ?_
            refine lv_iadd hx hb dX7_movePeripheral_133 ?_
            refine lv_aload_n hx hb dX7_movePeripheral_134 rfl (lv_at hl 4 rfl) ?_
            refine gM_X7_d hx hb hT hown hK hP (hT _ tF_X7_13) dX7_movePeripheral_135 ?_
            refine lv_iload_n hx hb dX7_movePeripheral_138 rfl (lv_at hl 3 rfl) ?_
            obtain ⟨h6, hs⟩ := gd_e hs
            refine lM_d hx hb hK hP (ixo_in h6) dX7_movePeripheral_139 ?_
            refine lv_bipush (v := 8) hx hb dX7_movePeripheral_140 (by decide) ?_
            refine lv_iload hx hb dX7_movePeripheral_142 (lv_at hl 1 rfl) ?_
            refine lv_iconst (v := 1) hx hb dX7_movePeripheral_144 (by decide) ?_
            refine lv_isub hx hb dX7_movePeripheral_145 ?_
            refine lv_iload hx hb dX7_movePeripheral_146 (lv_at hl 0 rfl) ?_
            refine lv_isub hx hb dX7_movePeripheral_148 ?_
            refine lv_imul hx hb dX7_movePeripheral_149 ?_
            refine lv_ishr hx hb dX7_movePeripheral_150 ?_
            obtain ⟨S4, h7, hs⟩ := bv_e hs
            refine kX7_setByte C tM_X7_85 ⟨Nat.le_of_ble_eq_true rfl, Nat.le_of_ble_eq_true rfl⟩ ⟨Nat.le_of_ble_eq_true rfl, Nat.le_of_ble_eq_true rfl⟩ hK hP hS hl.1 (rest := []) (Nat.le_of_ble_eq_true rfl) dX7_movePeripheral_151 h7 (fun H locs hP hS => ?_)
            obtain ⟨v6, h8, hs⟩ := lt_e hs
            refine lv_iinc (v := v6) (lv' := [(5, .int v6), (4, .int v4), (3, .int v3), (2, .int v2), (0, .ref (ad 0))]) hx hb dX7_movePeripheral_154 hl (k := 0) rfl (by rw [h8]; rfl) (by decide) rfl (fun ls hl => ?_)
            refine lv_goto (tgt := 120) hx hb dX7_movePeripheral_157 (by decide) ?_
            exact ih v6 S4 _ _ _ (lv_sub hl [0, 1, 2, 3, 4] rfl) hP hS hs
      exact L1 5 0 S2 _ _ _ (lv_sub hl [0, 1, 2, 3, 5] rfl) hP hS hs
    · have hs := if_f c1 hs
      refine lv_iconst (v := 0) hx hb dX7_movePeripheral_58 (by decide) ?_
      refine lv_istore (lv' := [(5, .int 0), (4, .int v4), (3, .int v3), (2, .int v2), (1, .int v1), (0, .ref (ad 0))]) hx hb dX7_movePeripheral_59 hl (by decide) rfl (fun ls hl => ?_)
      refine lv_iconst (v := 0) hx hb dX7_movePeripheral_61 (by decide) ?_
      refine lv_istore (lv' := [(6, .int 0), (5, .int 0), (4, .int v4), (3, .int v3), (2, .int v2), (1, .int v1), (0, .ref (ad 0))]) hx hb dX7_movePeripheral_62 hl (by decide) rfl (fun ls hl => ?_)
      have L2 : ∀ (n : Nat) (v7 : Int32) (v8 : Int32) (S5 : St) (H : Heap) (locs : List Loc) (ls : Array Slot), lv_has ls 7 [(6, .int v7), (5, .int v8), (4, .int v4), (3, .int v3), (2, .int v2), (0, .ref (ad 0))] → va_P D vwCl (wM ad cI cB S5) H → va_S (AX 11 ad s.heap.size) s.heap H locs → fX7_movePeripheral_l2 v4 v3 v2 n v7 v8 S5 = some (ro, So) → W p l e rmX7_movePeripheral s m ([.ref (ad 0)] : List Value).toArray below meth c H locs 0 0 (MQ below (uQ D (wM ad cI cB) (some (.int (zI ro)), So) (AX 11 ad s.heap.size)) ([.ref (ad 0)] : List Value).toArray s 0 0 (AX 11 ad s.heap.size)) (F0 m 64 ls []) := by
        intro n
        induction n with
        | zero => intro v7 v8 S5 H locs ls hl hP hS hs; cases hs
        | succ n ih =>
          intro v7 v8 S5 H locs ls hl hP hS hs
          have hs : fX7_movePeripheral_b2 v4 v3 v2 (fX7_movePeripheral_l2 v4 v3 v2 n) v7 v8 S5 = some (ro, So) := hs
          unfold fX7_movePeripheral_b2 at hs
          refine lv_iload hx hb dX7_movePeripheral_64 (lv_at hl 0 rfl) ?_
          refine lv_iload hx hb dX7_movePeripheral_66 (lv_at hl 2 rfl) ?_
          refine lv_icmp_ge (tgt := 95) hx hb dX7_movePeripheral_68 (by decide) (fun c3 => ?_) (fun c3 => ?_)
          · have hs := if_t c3 hs
            refine lv_aload_n hx hb dX7_movePeripheral_95 rfl (lv_at hl 5 rfl) ?_
            refine gM_X7_d hx hb hT hown hK hP (hT _ tF_X7_13) dX7_movePeripheral_96 ?_
            refine lv_iload_n hx hb dX7_movePeripheral_99 rfl (lv_at hl 4 rfl) ?_
            refine lv_aload_n hx hb dX7_movePeripheral_100 rfl (lv_at hl 5 rfl) ?_
            refine gM_X7_d hx hb hT hown hK hP (hT _ tF_X7_13) dX7_movePeripheral_101 ?_
            refine lv_iload_n hx hb dX7_movePeripheral_104 rfl (lv_at hl 4 rfl) ?_
            obtain ⟨h9, hs⟩ := gd_e hs
            refine lM_d hx hb hK hP (ixo_in h9) dX7_movePeripheral_105 ?_
            refine lv_iload hx hb dX7_movePeripheral_106 (lv_at hl 1 rfl) ?_
            refine lv_iload hx hb dX7_movePeripheral_108 (lv_at hl 2 rfl) ?_
            obtain ⟨r3, S6, h10, hs⟩ := bd_e hs
            refine kX7_joined C tM_X7_150 ⟨Nat.le_of_ble_eq_true rfl, Nat.le_of_ble_eq_true rfl⟩ ⟨Nat.le_of_ble_eq_true rfl, Nat.le_of_ble_eq_true rfl⟩ hK hP hS hl.1 (rest := [.int v2, .ref (ad 2)]) (Nat.le_of_ble_eq_true rfl) dX7_movePeripheral_110 h10 (fun H locs hP hS => ?_)
            obtain ⟨h11, hs⟩ := gd_e hs
            obtain ⟨S7, h12, hs⟩ := lt_e hs
            refine sM_d hx hb hK hP hS (v := r3) (ixo_in h11) dX7_movePeripheral_113 h12 (fun H locs hP hS => ?_)
            refine lv_goto (tgt := 160) hx hb dX7_movePeripheral_114 (by decide) ?_
            refine lv_iconst (v := 1) hx hb dX7_movePeripheral_160 (by decide) ?_
            exact u_zret (v := true) hx hb hr hlocks hP hS hs dX7_movePeripheral_161
          · have hs := if_f c3 hs
            refine lv_iload hx hb dX7_movePeripheral_71 (lv_at hl 1 rfl) ?_
            refine lv_bipush (v := 8) hx hb dX7_movePeripheral_73 (by decide) ?_
            refine lv_ishl hx hb dX7_movePeripheral_75 ?_
            refine lv_aload_n hx hb dX7_movePeripheral_76 rfl (lv_at hl 5 rfl) ?_
            refine lv_iload_n hx hb dX7_movePeripheral_77 rfl (lv_at hl 3 rfl) ?_
            refine lv_iconst (v := 2) hx hb dX7_movePeripheral_78 (by decide) ?_
            refine lv_iload hx hb dX7_movePeripheral_79 (lv_at hl 0 rfl) ?_
            refine lv_imul hx hb dX7_movePeripheral_81 ?_
            refine lv_iadd hx hb dX7_movePeripheral_82 ?_
            obtain ⟨r4, S8, h13, hs⟩ := bd_e hs
            refine kX7_byteAt C tM_X7_82 ⟨Nat.le_of_ble_eq_true rfl, Nat.le_of_ble_eq_true rfl⟩ ⟨Nat.le_of_ble_eq_true rfl, Nat.le_of_ble_eq_true rfl⟩ hK hP hS hl.1 (rest := [.int (v8 <<< ((8 : Int32) &&& 31))]) (Nat.le_of_ble_eq_true rfl) dX7_movePeripheral_83 h13 (fun H locs hP hS => ?_)
            refine lv_ior hx hb dX7_movePeripheral_86 ?_
            obtain ⟨v9, h14, hs⟩ := lt_e hs
            refine u_top h14 ?_
            refine lv_istore (lv' := [(5, .int v9), (6, .int v7), (4, .int v4), (3, .int v3), (2, .int v2), (0, .ref (ad 0))]) hx hb dX7_movePeripheral_87 hl (by decide) rfl (fun ls hl => ?_)
            obtain ⟨v10, h15, hs⟩ := lt_e hs
            refine lv_iinc (v := v10) (lv' := [(6, .int v10), (5, .int v9), (4, .int v4), (3, .int v3), (2, .int v2), (0, .ref (ad 0))]) hx hb dX7_movePeripheral_89 hl (k := 1) rfl (by rw [h15]; rfl) (by decide) rfl (fun ls hl => ?_)
            refine lv_goto (tgt := 64) hx hb dX7_movePeripheral_92 (by decide) ?_
            exact ih v10 v9 S8 _ _ _ (lv_sub hl [0, 1, 2, 3, 4, 5] rfl) hP hS hs
      exact L2 5 0 0 S2 _ _ _ (lv_sub hl [0, 1, 2, 3, 4, 6] rfl) hP hS hs
  ·
    refine lv_icmp_ne (tgt := 50) hx hb dX7_movePeripheral_43 (by decide) (fun c4 => ?_) (fun c4 => ?_)
    · have hs := if_f c4 hs
      refine lv_iconst (v := 2) hx hb dX7_movePeripheral_50 (by decide) ?_
      exact J1 2 _ _ _ (lv_sub hl [0, 1, 2, 3] rfl) hP hS hs
    · have hs := if_t c4 hs
      refine lv_iconst (v := 4) hx hb dX7_movePeripheral_46 (by decide) ?_
      refine lv_goto (tgt := 51) hx hb dX7_movePeripheral_47 (by decide) ?_
      exact J1 4 _ _ _ (lv_sub hl [0, 1, 2, 3] rfl) hP hS hs
theorem kX7_movePeripheral {p : Program} {l : Launch} {e : Env} {R : Room} {s : State} {m : MethodId} {args : Array Value} {below : List Frame} {meth : Method} {c : Code} {H : Heap} {locs : List Loc} {cells slots : Nat} {Q : State → Prop} {cc : ByteArray} {pc nL : Nat} {ls : Array Slot} {rest : List Value} {D : va_G} {ad : Nat → Nat} {cI cB : ClassId} {en : Nat → Nat} {S : St} {own : String} {index : Nat}  {ro : Bool} {So : St} (C : CallFix p m c cc nL s args wG own) (hlk : Cond.methodLink own index yX7_movePeripheral ∈ wG) (hR : rmX7_movePeripheral.frames + 1 ≤ R.frames ∧ 8 + (7 + 11) + rmX7_movePeripheral.locals ≤ R.locals) (hc : cells ≤ R.cells ∧ slots ≤ R.slots) (hK : KM D ad cI cB en s) (hP : va_P D vwCl (wM ad cI cB S) H) (hS : va_S (AX 11 ad s.heap.size) s.heap H locs) (hls : ls.size = nL) (hrest : (rest.map fun v => v.category).sum ≤ 8) (hd : decode cc pc = .ok (.invokevirtual index, 3)) (hs : fX7_movePeripheral  S = some (ro, So)) (k : ∀ (H : Heap) (locs : List Loc), va_P D vwCl (wM ad cI cB So) H → va_S (AX 11 ad s.heap.size) s.heap H locs → W p l e R s m args below meth c H locs cells slots Q (F0 m (pc + 3) ls (.int (zI ro) :: rest))) : W p l e R s m args below meth c H locs cells slots Q (F0 m pc ls (.ref (ad 0) :: rest)) :=
  u_callV (n := 0) (mX7_movePeripheral l D ad cI cB en S  ro So hs) C uK_M (wg_V hlk tI_X7_movePeripheral tS_X7_movePeripheral tN_X7 tK_X7_movePeripheral) rfl rfl rfl (by decide +kernel) hR rfl (va_recv hK.1 hP (ci := 6) (q0 := 0) rfl rfl) hK hP hS hls hrest hd hc rfl k
def fX7_oneBit (x1 : Int32) (z2 : Bool) (S : St) : Option (Bool × St) :=
    (lt (((S.1 5) &&& 63) : Int32) fun v1 => (jn (fun (v2 : Int32) => (bd (fX7_fits v1 v2 1 S) fun b1 S1 => (if (zI b1) = 0 then (some (false, S1))
    else (if (zI z2) = 0 then (jn (fun (v3 : Int32) (S2 : St) => (jn (fun (v4 : Int32) => (jn (fun (v5 : Int32) => (lt ((v3 &&& v5) : Int32) fun v6 => (bv (fX7_operand v1 v4 S2) fun S3 => (bd (fX7_take v4 S3) fun r1 S4 => (jn (fun (b2 : Bool) => (bv (fX7_flag 4 b2 S4) fun S5 => (if x1 ≤ 0 then (some (true, S5))
    else (lt ((1 <<< (v6 &&& 31)) : Int32) fun v7 => (jn (fun (v8 : Int32) => (bv (fX7_give v8 v4 S5) fun S6 => (some (true, S6)))) fun K6 =>
    (if x1 = 1 then (K6 (r1 ^^^ v7))
    else (if x1 = 2 then (K6 (r1 &&& (v7 ^^^ (-1 : Int32))))
    else (K6 (r1 ||| v7))))))))) fun K5 =>
    (if ((r1 >>> (v6 &&& 31)) &&& 1) = 0 then (K5 true)
    else (K5 false))))))) fun K4 =>
    (if v4 = 4 then (K4 31)
    else (K4 7)))) fun K3 =>
    (if (v1 >>> ((3 : Int32) &&& 31)) = 0 then (K3 4)
    else (K3 1)))) fun K2 =>
    (if (zI z2) = 0 then (gd (ixo (((S1.1 5) >>> ((9 : Int32) &&& 31)) &&& 7) 8 = true) (K2 (S1.2.2 1 (((S1.1 5) >>> ((9 : Int32) &&& 31)) &&& 7).toNatClampNeg) S1))
    else (bd (fX7_extension S1) fun r2 S7 => (K2 r2 S7))))
    else (if v1 = 60 then (some (false, S1))
    else (jn (fun (v9 : Int32) (S8 : St) => (jn (fun (v10 : Int32) => (jn (fun (v11 : Int32) => (lt ((v9 &&& v11) : Int32) fun v12 => (bv (fX7_operand v1 v10 S8) fun S9 => (bd (fX7_take v10 S9) fun r3 S10 => (jn (fun (b3 : Bool) => (bv (fX7_flag 4 b3 S10) fun S11 => (if x1 ≤ 0 then (some (true, S11))
    else (lt ((1 <<< (v12 &&& 31)) : Int32) fun v13 => (jn (fun (v14 : Int32) => (bv (fX7_give v14 v10 S11) fun S12 => (some (true, S12)))) fun K11 =>
    (if x1 = 1 then (K11 (r3 ^^^ v13))
    else (if x1 = 2 then (K11 (r3 &&& (v13 ^^^ (-1 : Int32))))
    else (K11 (r3 ||| v13))))))))) fun K10 =>
    (if ((r3 >>> (v12 &&& 31)) &&& 1) = 0 then (K10 true)
    else (K10 false))))))) fun K9 =>
    (if v10 = 4 then (K9 31)
    else (K9 7)))) fun K8 =>
    (if (v1 >>> ((3 : Int32) &&& 31)) = 0 then (K8 4)
    else (K8 1)))) fun K7 =>
    (if (zI z2) = 0 then (gd (ixo (((S1.1 5) >>> ((9 : Int32) &&& 31)) &&& 7) 8 = true) (K7 (S1.2.2 1 (((S1.1 5) >>> ((9 : Int32) &&& 31)) &&& 7).toNatClampNeg) S1))
    else (bd (fX7_extension S1) fun r4 S13 => (K7 r4 S13))))))))) fun K1 =>
    (if x1 = 0 then (K1 1)
    else (K1 4))))
abbrev rmX7_oneBit : Room := { frames := 6, cells := 0, slots := 0, locals := 138 }
set_option maxRecDepth 100000 in
set_option maxHeartbeats 4000000 in
theorem mX7_oneBit (l : Launch) (D : va_G) (ad : Nat → Nat) (cI cB : ClassId) (en : Nat → Nat) (S : St) (x1 : Int32) (z2 : Bool) (ro : Bool) (So : St) (hs : fX7_oneBit x1 z2 S = some (ro, So)) : uM l yX7_oneBit (wg yX7_oneBit cX7_oneBit 8 (some .boolean)) rmX7_oneBit (KM D ad cI cB en) D (wM ad cI cB) (AX 11 ad) [.ref (ad 0), .int x1, .int (zI z2)] S (some (.int (zI ro)), So) := by
  refine uM_start (by decide) rfl ?_
  intro p e s m below meth c hx hb hr hlocks hml hown hts hK hP
  have hT : ∀ w ∈ wG, w.before _ s = true := fun w h => hts w (List.mem_cons_of_mem _ h)
  have hS : va_S (AX 11 ad s.heap.size) s.heap s.heap [] := va_S.rf
  have hown : s.vm.findClass RX7 = some m.cls := hown
  have C : CallFix p m c cX7_oneBit 8 s _ wG RX7 := ⟨hx, hb, hml, hown, hT⟩
  have hl := lv_entry ([.ref (ad 0), .int x1, .int (zI z2)]) (n := 8) (Nat.le_of_ble_eq_true rfl)
  rw [lg_entry_eq]
  generalize (lg_sl ([.ref (ad 0), .int x1, .int (zI z2)]) ++ List.replicate (8 - (lg_sl ([.ref (ad 0), .int x1, .int (zI z2)])).length) Slot.unset).toArray = ls at hl ⊢
  have hl : lv_has ls 8 [(0, .ref (ad 0)), (1, .int x1), (2, .int (zI z2))] := hl
  unfold fX7_oneBit at hs
  refine lv_aload_n hx hb dX7_oneBit_0 rfl (lv_at hl 0 rfl) ?_
  refine gM_X7_op hx hb hT hown hK hP (hT _ tF_X7_174) dX7_oneBit_1 ?_
  refine lv_bipush (v := 63) hx hb dX7_oneBit_4 (by decide) ?_
  refine lv_iand hx hb dX7_oneBit_6 ?_
  obtain ⟨v1, h1, hs⟩ := lt_e hs
  refine u_top h1 ?_
  refine lv_istore_n (lv' := [(3, .int v1), (0, .ref (ad 0)), (1, .int x1), (2, .int (zI z2))]) hx hb dX7_oneBit_7 rfl hl (by decide) rfl (fun ls hl => ?_)
  refine lv_iload_n hx hb dX7_oneBit_8 rfl (lv_at hl 0 rfl) ?_
  refine lv_iload_n hx hb dX7_oneBit_9 rfl (lv_at hl 2 rfl) ?_
  refine jn_e hs (fun K1 => ∀ (v2 : Int32) (H : Heap) (locs : List Loc) (ls : Array Slot), lv_has ls 8 [(3, .int v1), (0, .ref (ad 0)), (1, .int x1), (2, .int (zI z2))] → va_P D vwCl (wM ad cI cB S) H → va_S (AX 11 ad s.heap.size) s.heap H locs → K1 v2 = some (ro, So) → W p l e rmX7_oneBit s m ([.ref (ad 0), .int x1, .int (zI z2)] : List Value).toArray below meth c H locs 0 0 (MQ below (uQ D (wM ad cI cB) (some (.int (zI ro)), So) (AX 11 ad s.heap.size)) ([.ref (ad 0), .int x1, .int (zI z2)] : List Value).toArray s 0 0 (AX 11 ad s.heap.size)) (F0 m 18 ls [.int v2, .int v1])) ?_ (fun K1 J1 hs => ?_)
  · intro v2 H locs ls hl hP hS hs
    refine lv_iconst (v := 1) hx hb dX7_oneBit_18 (by decide) ?_
    obtain ⟨b1, S1, h2, hs⟩ := bd_e hs
    refine kX7_fits C tM_X7_188 ⟨Nat.le_of_ble_eq_true rfl, Nat.le_of_ble_eq_true rfl⟩ ⟨Nat.le_of_ble_eq_true rfl, Nat.le_of_ble_eq_true rfl⟩ hK hP hS hl.1 (rest := []) (Nat.le_of_ble_eq_true rfl) dX7_oneBit_19 h2 (fun H locs hP hS => ?_)
    refine lv_if_eq (tgt := 35) hx hb dX7_oneBit_22 (by decide) (fun c1 => ?_) (fun c1 => ?_)
    · have hs := if_t c1 hs
      refine lv_iconst (v := 0) hx hb dX7_oneBit_35 (by decide) ?_
      exact u_zret (v := false) hx hb hr hlocks hP hS hs dX7_oneBit_36
    · have hs := if_f c1 hs
      refine lv_iload_n hx hb dX7_oneBit_25 rfl (lv_at hl 3 rfl) ?_
      refine lv_if_eq (tgt := 37) hx hb dX7_oneBit_26 (by decide) (fun c2 => ?_) (fun c2 => ?_)
      · have hs := if_t c2 hs
        refine lv_iload_n hx hb dX7_oneBit_37 rfl (lv_at hl 3 rfl) ?_
        refine jn_e hs (fun K2 => ∀ (v3 : Int32) (S2 : St) (H : Heap) (locs : List Loc) (ls : Array Slot), lv_has ls 8 [(3, .int v1), (0, .ref (ad 0)), (1, .int x1)] → va_P D vwCl (wM ad cI cB S2) H → va_S (AX 11 ad s.heap.size) s.heap H locs → K2 v3 S2 = some (ro, So) → W p l e rmX7_oneBit s m ([.ref (ad 0), .int x1, .int (zI z2)] : List Value).toArray below meth c H locs 0 0 (MQ below (uQ D (wM ad cI cB) (some (.int (zI ro)), So) (AX 11 ad s.heap.size)) ([.ref (ad 0), .int x1, .int (zI z2)] : List Value).toArray s 0 0 (AX 11 ad s.heap.size)) (F0 m 63 ls [.int v3])) ?_ (fun K2 J2 hs => ?_)
        · intro v3 S2 H locs ls hl hP hS hs
          refine lv_istore (lv' := [(4, .int v3), (3, .int v1), (0, .ref (ad 0)), (1, .int x1)]) hx hb dX7_oneBit_63 hl (by decide) rfl (fun ls hl => ?_)
          refine lv_iload_n hx hb dX7_oneBit_65 rfl (lv_at hl 1 rfl) ?_
          refine lv_iconst (v := 3) hx hb dX7_oneBit_66 (by decide) ?_
          refine lv_ishr hx hb dX7_oneBit_67 ?_
          refine jn_e hs (fun K3 => ∀ (v4 : Int32) (H : Heap) (locs : List Loc) (ls : Array Slot), lv_has ls 8 [(4, .int v3), (3, .int v1), (0, .ref (ad 0)), (1, .int x1)] → va_P D vwCl (wM ad cI cB S2) H → va_S (AX 11 ad s.heap.size) s.heap H locs → K3 v4 = some (ro, So) → W p l e rmX7_oneBit s m ([.ref (ad 0), .int x1, .int (zI z2)] : List Value).toArray below meth c H locs 0 0 (MQ below (uQ D (wM ad cI cB) (some (.int (zI ro)), So) (AX 11 ad s.heap.size)) ([.ref (ad 0), .int x1, .int (zI z2)] : List Value).toArray s 0 0 (AX 11 ad s.heap.size)) (F0 m 76 ls [.int v4])) ?_ (fun K3 J3 hs => ?_)
          · intro v4 H locs ls hl hP hS hs
            refine lv_istore (lv' := [(5, .int v4), (4, .int v3), (3, .int v1), (0, .ref (ad 0)), (1, .int x1)]) hx hb dX7_oneBit_76 hl (by decide) rfl (fun ls hl => ?_)
            refine lv_iload hx hb dX7_oneBit_78 (lv_at hl 1 rfl) ?_
            refine lv_iload hx hb dX7_oneBit_80 (lv_at hl 0 rfl) ?_
            refine lv_iconst (v := 4) hx hb dX7_oneBit_82 (by decide) ?_
            refine jn_e hs (fun K4 => ∀ (v5 : Int32) (H : Heap) (locs : List Loc) (ls : Array Slot), lv_has ls 8 [(5, .int v4), (3, .int v1), (0, .ref (ad 0)), (1, .int x1)] → va_P D vwCl (wM ad cI cB S2) H → va_S (AX 11 ad s.heap.size) s.heap H locs → K4 v5 = some (ro, So) → W p l e rmX7_oneBit s m ([.ref (ad 0), .int x1, .int (zI z2)] : List Value).toArray below meth c H locs 0 0 (MQ below (uQ D (wM ad cI cB) (some (.int (zI ro)), So) (AX 11 ad s.heap.size)) ([.ref (ad 0), .int x1, .int (zI z2)] : List Value).toArray s 0 0 (AX 11 ad s.heap.size)) (F0 m 93 ls [.int v5, .int v3])) ?_ (fun K4 J4 hs => ?_)
            · intro v5 H locs ls hl hP hS hs
              refine lv_iand hx hb dX7_oneBit_93 ?_
              obtain ⟨v6, h3, hs⟩ := lt_e hs
              refine u_top h3 ?_
              refine lv_istore (lv' := [(4, .int v6), (5, .int v4), (3, .int v1), (0, .ref (ad 0)), (1, .int x1)]) hx hb dX7_oneBit_94 hl (by decide) rfl (fun ls hl => ?_)
              refine lv_aload_n hx hb dX7_oneBit_96 rfl (lv_at hl 3 rfl) ?_
              refine lv_iload_n hx hb dX7_oneBit_97 rfl (lv_at hl 2 rfl) ?_
              refine lv_iload hx hb dX7_oneBit_98 (lv_at hl 1 rfl) ?_
              obtain ⟨S3, h4, hs⟩ := bv_e hs
              refine kX7_operand C tM_X7_192 ⟨Nat.le_of_ble_eq_true rfl, Nat.le_of_ble_eq_true rfl⟩ ⟨Nat.le_of_ble_eq_true rfl, Nat.le_of_ble_eq_true rfl⟩ hK hP hS hl.1 (rest := []) (Nat.le_of_ble_eq_true rfl) dX7_oneBit_100 h4 (fun H locs hP hS => ?_)
              refine lv_aload_n hx hb dX7_oneBit_103 rfl (lv_at hl 3 rfl) ?_
              refine lv_iload hx hb dX7_oneBit_104 (lv_at hl 1 rfl) ?_
              obtain ⟨r1, S4, h5, hs⟩ := bd_e hs
              refine kX7_take C tM_X7_195 ⟨Nat.le_of_ble_eq_true rfl, Nat.le_of_ble_eq_true rfl⟩ ⟨Nat.le_of_ble_eq_true rfl, Nat.le_of_ble_eq_true rfl⟩ hK hP hS hl.1 (rest := []) (Nat.le_of_ble_eq_true rfl) dX7_oneBit_106 h5 (fun H locs hP hS => ?_)
              refine lv_istore (lv' := [(6, .int r1), (4, .int v6), (5, .int v4), (3, .int v1), (0, .ref (ad 0)), (1, .int x1)]) hx hb dX7_oneBit_109 hl (by decide) rfl (fun ls hl => ?_)
              refine lv_aload_n hx hb dX7_oneBit_111 rfl (lv_at hl 4 rfl) ?_
              refine lv_iconst (v := 4) hx hb dX7_oneBit_112 (by decide) ?_
              refine lv_iload hx hb dX7_oneBit_113 (lv_at hl 0 rfl) ?_
              refine lv_iload hx hb dX7_oneBit_115 (lv_at hl 1 rfl) ?_
              refine lv_ishr hx hb dX7_oneBit_117 ?_
              refine lv_iconst (v := 1) hx hb dX7_oneBit_118 (by decide) ?_
              refine lv_iand hx hb dX7_oneBit_119 ?_
              refine jn_e hs (fun K5 => ∀ (b2 : Bool) (H : Heap) (locs : List Loc) (ls : Array Slot), lv_has ls 8 [(6, .int r1), (4, .int v6), (5, .int v4), (0, .ref (ad 0)), (1, .int x1)] → va_P D vwCl (wM ad cI cB S4) H → va_S (AX 11 ad s.heap.size) s.heap H locs → K5 b2 = some (ro, So) → W p l e rmX7_oneBit s m ([.ref (ad 0), .int x1, .int (zI z2)] : List Value).toArray below meth c H locs 0 0 (MQ below (uQ D (wM ad cI cB) (some (.int (zI ro)), So) (AX 11 ad s.heap.size)) ([.ref (ad 0), .int x1, .int (zI z2)] : List Value).toArray s 0 0 (AX 11 ad s.heap.size)) (F0 m 128 ls [.int (zI b2), .int 4, .ref (ad 0)])) ?_ (fun K5 J5 hs => ?_)
              · intro b2 H locs ls hl hP hS hs
                obtain ⟨S5, h6, hs⟩ := bv_e hs
                refine kX7_flag C tM_X7_160 ⟨Nat.le_of_ble_eq_true rfl, Nat.le_of_ble_eq_true rfl⟩ ⟨Nat.le_of_ble_eq_true rfl, Nat.le_of_ble_eq_true rfl⟩ hK hP hS hl.1 (rest := []) (Nat.le_of_ble_eq_true rfl) dX7_oneBit_128 h6 (fun H locs hP hS => ?_)
                refine lv_iload_n hx hb dX7_oneBit_131 rfl (lv_at hl 4 rfl) ?_
                refine lv_if_le (tgt := 180) hx hb dX7_oneBit_132 (by decide) (fun c3 => ?_) (fun c3 => ?_)
                · have hs := if_t c3 hs
                  refine lv_iconst (v := 1) hx hb dX7_oneBit_180 (by decide) ?_
                  exact u_zret (v := true) hx hb hr hlocks hP hS hs dX7_oneBit_181
                · have hs := if_f c3 hs
                  refine lv_iconst (v := 1) hx hb dX7_oneBit_135 (by decide) ?_
                  refine lv_iload hx hb dX7_oneBit_136 (lv_at hl 1 rfl) ?_
                  refine lv_ishl hx hb dX7_oneBit_138 ?_
                  obtain ⟨v7, h7, hs⟩ := lt_e hs
                  refine u_top h7 ?_
                  refine lv_istore (lv' := [(7, .int v7), (6, .int r1), (4, .int v6), (5, .int v4), (0, .ref (ad 0)), (1, .int x1)]) hx hb dX7_oneBit_139 hl (by decide) rfl (fun ls hl => ?_)
                  refine lv_aload_n hx hb dX7_oneBit_141 rfl (lv_at hl 4 rfl) ?_
                  refine lv_iload_n hx hb dX7_oneBit_142 rfl (lv_at hl 5 rfl) ?_
                  refine lv_iconst (v := 1) hx hb dX7_oneBit_143 (by decide) ?_
                  refine jn_e hs (fun K6 => ∀ (v8 : Int32) (H : Heap) (locs : List Loc) (ls : Array Slot), lv_has ls 8 [(5, .int v4)] → va_P D vwCl (wM ad cI cB S5) H → va_S (AX 11 ad s.heap.size) s.heap H locs → K6 v8 = some (ro, So) → W p l e rmX7_oneBit s m ([.ref (ad 0), .int x1, .int (zI z2)] : List Value).toArray below meth c H locs 0 0 (MQ below (uQ D (wM ad cI cB) (some (.int (zI ro)), So) (AX 11 ad s.heap.size)) ([.ref (ad 0), .int x1, .int (zI z2)] : List Value).toArray s 0 0 (AX 11 ad s.heap.size)) (F0 m 175 ls [.int v8, .ref (ad 0)])) ?_ (fun K6 J6 hs => ?_)
                  · intro v8 H locs ls hl hP hS hs
                    refine lv_iload hx hb dX7_oneBit_175 (lv_at hl 0 rfl) ?_
                    obtain ⟨S6, h8, hs⟩ := bv_e hs
                    refine kX7_give C tM_X7_198 ⟨Nat.le_of_ble_eq_true rfl, Nat.le_of_ble_eq_true rfl⟩ ⟨Nat.le_of_ble_eq_true rfl, Nat.le_of_ble_eq_true rfl⟩ hK hP hS hl.1 (rest := []) (Nat.le_of_ble_eq_true rfl) dX7_oneBit_177 h8 (fun H locs hP hS => ?_)
                    refine lv_iconst (v := 1) hx hb dX7_oneBit_180 (by decide) ?_
                    exact u_zret (v := true) hx hb hr hlocks hP hS hs dX7_oneBit_181
                  ·
                    refine lv_icmp_ne (tgt := 155) hx hb dX7_oneBit_144 (by decide) (fun c4 => ?_) (fun c4 => ?_)
                    · have hs := if_f c4 hs
                      refine lv_iload_n hx hb dX7_oneBit_155 rfl (lv_at hl 5 rfl) ?_
                      refine lv_iconst (v := 2) hx hb dX7_oneBit_156 (by decide) ?_
                      refine lv_icmp_ne (tgt := 170) hx hb dX7_oneBit_157 (by decide) (fun c5 => ?_) (fun c5 => ?_)
                      · have hs := if_f c5 hs
                        refine lv_iload hx hb dX7_oneBit_170 (lv_at hl 1 rfl) ?_
                        refine lv_iload hx hb dX7_oneBit_172 (lv_at hl 0 rfl) ?_
                        refine lv_ior hx hb dX7_oneBit_174 ?_
                        exact J6 (r1 ||| v7) _ _ _ (lv_sub hl [3] rfl) hP hS hs
                      · have hs := if_t c5 hs
                        refine lv_iload hx hb dX7_oneBit_160 (lv_at hl 1 rfl) ?_
                        refine lv_iload hx hb dX7_oneBit_162 (lv_at hl 0 rfl) ?_
                        refine lv_iconst (v := (-1 : Int32)) hx hb dX7_oneBit_164 (by decide) ?_
                        refine lv_ixor hx hb dX7_oneBit_165 ?_
                        refine lv_iand hx hb dX7_oneBit_166 ?_
                        refine lv_goto (tgt := 175) hx hb dX7_oneBit_167 (by decide) ?_
                        exact J6 (r1 &&& (v7 ^^^ (-1 : Int32))) _ _ _ (lv_sub hl [3] rfl) hP hS hs
                    · have hs := if_t c4 hs
                      refine lv_iload hx hb dX7_oneBit_147 (lv_at hl 1 rfl) ?_
                      refine lv_iload hx hb dX7_oneBit_149 (lv_at hl 0 rfl) ?_
                      refine lv_ixor hx hb dX7_oneBit_151 ?_
                      refine lv_goto (tgt := 175) hx hb dX7_oneBit_152 (by decide) ?_
                      exact J6 (r1 ^^^ v7) _ _ _ (lv_sub hl [3] rfl) hP hS hs
              ·
                refine lv_if_ne (tgt := 127) hx hb dX7_oneBit_120 (by decide) (fun c6 => ?_) (fun c6 => ?_)
                · have hs := if_f c6 hs
                  refine lv_iconst (v := 0) hx hb dX7_oneBit_127 (by decide) ?_
                  exact J5 false _ _ _ (lv_sub hl [0, 1, 2, 4, 5] rfl) hP hS hs
                · have hs := if_t c6 hs
                  refine lv_iconst (v := 1) hx hb dX7_oneBit_123 (by decide) ?_
                  refine lv_goto (tgt := 128) hx hb dX7_oneBit_124 (by decide) ?_
                  exact J5 true _ _ _ (lv_sub hl [0, 1, 2, 4, 5] rfl) hP hS hs
            ·
              refine lv_icmp_ne (tgt := 91) hx hb dX7_oneBit_83 (by decide) (fun c7 => ?_) (fun c7 => ?_)
              · have hs := if_f c7 hs
                refine lv_bipush (v := 7) hx hb dX7_oneBit_91 (by decide) ?_
                exact J4 7 _ _ _ (lv_sub hl [0, 2, 3, 4] rfl) hP hS hs
              · have hs := if_t c7 hs
                refine lv_bipush (v := 31) hx hb dX7_oneBit_86 (by decide) ?_
                refine lv_goto (tgt := 93) hx hb dX7_oneBit_88 (by decide) ?_
                exact J4 31 _ _ _ (lv_sub hl [0, 2, 3, 4] rfl) hP hS hs
          ·
            refine lv_if_ne (tgt := 75) hx hb dX7_oneBit_68 (by decide) (fun c8 => ?_) (fun c8 => ?_)
            · have hs := if_f c8 hs
              refine lv_iconst (v := 1) hx hb dX7_oneBit_75 (by decide) ?_
              exact J3 1 _ _ _ (lv_sub hl [0, 1, 2, 3] rfl) hP hS hs
            · have hs := if_t c8 hs
              refine lv_iconst (v := 4) hx hb dX7_oneBit_71 (by decide) ?_
              refine lv_goto (tgt := 76) hx hb dX7_oneBit_72 (by decide) ?_
              exact J3 4 _ _ _ (lv_sub hl [0, 1, 2, 3] rfl) hP hS hs
        ·
          refine lv_if_eq (tgt := 48) hx hb dX7_oneBit_38 (by decide) (fun c9 => ?_) (fun c9 => ?_)
          · have hs := if_t c9 hs
            refine lv_aload_n hx hb dX7_oneBit_48 rfl (lv_at hl 1 rfl) ?_
            refine gM_X7_d hx hb hT hown hK hP (hT _ tF_X7_13) dX7_oneBit_49 ?_
            refine lv_aload_n hx hb dX7_oneBit_52 rfl (lv_at hl 1 rfl) ?_
            refine gM_X7_op hx hb hT hown hK hP (hT _ tF_X7_174) dX7_oneBit_53 ?_
            refine lv_bipush (v := 9) hx hb dX7_oneBit_56 (by decide) ?_
            refine lv_ishr hx hb dX7_oneBit_58 ?_
            refine lv_bipush (v := 7) hx hb dX7_oneBit_59 (by decide) ?_
            refine lv_iand hx hb dX7_oneBit_61 ?_
            obtain ⟨h9, hs⟩ := gd_e hs
            refine lM_d hx hb hK hP (ixo_in h9) dX7_oneBit_62 ?_
            exact J2 (S1.2.2 1 (((S1.1 5) >>> ((9 : Int32) &&& 31)) &&& 7).toNatClampNeg) S1 _ _ _ (lv_sub hl [0, 1, 2] rfl) hP hS hs
          · have hs := if_f c9 hs
            refine lv_aload_n hx hb dX7_oneBit_41 rfl (lv_at hl 1 rfl) ?_
            obtain ⟨r2, S7, h10, hs⟩ := bd_e hs
            refine kX7_extension C tM_X7_125 ⟨Nat.le_of_ble_eq_true rfl, Nat.le_of_ble_eq_true rfl⟩ ⟨Nat.le_of_ble_eq_true rfl, Nat.le_of_ble_eq_true rfl⟩ hK hP hS hl.1 (rest := []) (Nat.le_of_ble_eq_true rfl) dX7_oneBit_42 h10 (fun H locs hP hS => ?_)
            refine lv_goto (tgt := 63) hx hb dX7_oneBit_45 (by decide) ?_
            exact J2 r2 S7 _ _ _ (lv_sub hl [0, 1, 2] rfl) hP hS hs
      · have hs := if_f c2 hs
        refine lv_iload_n hx hb dX7_oneBit_29 rfl (lv_at hl 0 rfl) ?_
        refine lv_bipush (v := 60) hx hb dX7_oneBit_30 (by decide) ?_
        refine lv_icmp_ne (tgt := 37) hx hb dX7_oneBit_32 (by decide) (fun c10 => ?_) (fun c10 => ?_)
        · have hs := if_f c10 hs
          refine lv_iload_n hx hb dX7_oneBit_37 rfl (lv_at hl 3 rfl) ?_
          refine jn_e hs (fun K7 => ∀ (v9 : Int32) (S8 : St) (H : Heap) (locs : List Loc) (ls : Array Slot), lv_has ls 8 [(3, .int v1), (0, .ref (ad 0)), (1, .int x1)] → va_P D vwCl (wM ad cI cB S8) H → va_S (AX 11 ad s.heap.size) s.heap H locs → K7 v9 S8 = some (ro, So) → W p l e rmX7_oneBit s m ([.ref (ad 0), .int x1, .int (zI z2)] : List Value).toArray below meth c H locs 0 0 (MQ below (uQ D (wM ad cI cB) (some (.int (zI ro)), So) (AX 11 ad s.heap.size)) ([.ref (ad 0), .int x1, .int (zI z2)] : List Value).toArray s 0 0 (AX 11 ad s.heap.size)) (F0 m 63 ls [.int v9])) ?_ (fun K7 J7 hs => ?_)
          · intro v9 S8 H locs ls hl hP hS hs
            refine lv_istore (lv' := [(4, .int v9), (3, .int v1), (0, .ref (ad 0)), (1, .int x1)]) hx hb dX7_oneBit_63 hl (by decide) rfl (fun ls hl => ?_)
            refine lv_iload_n hx hb dX7_oneBit_65 rfl (lv_at hl 1 rfl) ?_
            refine lv_iconst (v := 3) hx hb dX7_oneBit_66 (by decide) ?_
            refine lv_ishr hx hb dX7_oneBit_67 ?_
            refine jn_e hs (fun K8 => ∀ (v10 : Int32) (H : Heap) (locs : List Loc) (ls : Array Slot), lv_has ls 8 [(4, .int v9), (3, .int v1), (0, .ref (ad 0)), (1, .int x1)] → va_P D vwCl (wM ad cI cB S8) H → va_S (AX 11 ad s.heap.size) s.heap H locs → K8 v10 = some (ro, So) → W p l e rmX7_oneBit s m ([.ref (ad 0), .int x1, .int (zI z2)] : List Value).toArray below meth c H locs 0 0 (MQ below (uQ D (wM ad cI cB) (some (.int (zI ro)), So) (AX 11 ad s.heap.size)) ([.ref (ad 0), .int x1, .int (zI z2)] : List Value).toArray s 0 0 (AX 11 ad s.heap.size)) (F0 m 76 ls [.int v10])) ?_ (fun K8 J8 hs => ?_)
            · intro v10 H locs ls hl hP hS hs
              refine lv_istore (lv' := [(5, .int v10), (4, .int v9), (3, .int v1), (0, .ref (ad 0)), (1, .int x1)]) hx hb dX7_oneBit_76 hl (by decide) rfl (fun ls hl => ?_)
              refine lv_iload hx hb dX7_oneBit_78 (lv_at hl 1 rfl) ?_
              refine lv_iload hx hb dX7_oneBit_80 (lv_at hl 0 rfl) ?_
              refine lv_iconst (v := 4) hx hb dX7_oneBit_82 (by decide) ?_
              refine jn_e hs (fun K9 => ∀ (v11 : Int32) (H : Heap) (locs : List Loc) (ls : Array Slot), lv_has ls 8 [(5, .int v10), (3, .int v1), (0, .ref (ad 0)), (1, .int x1)] → va_P D vwCl (wM ad cI cB S8) H → va_S (AX 11 ad s.heap.size) s.heap H locs → K9 v11 = some (ro, So) → W p l e rmX7_oneBit s m ([.ref (ad 0), .int x1, .int (zI z2)] : List Value).toArray below meth c H locs 0 0 (MQ below (uQ D (wM ad cI cB) (some (.int (zI ro)), So) (AX 11 ad s.heap.size)) ([.ref (ad 0), .int x1, .int (zI z2)] : List Value).toArray s 0 0 (AX 11 ad s.heap.size)) (F0 m 93 ls [.int v11, .int v9])) ?_ (fun K9 J9 hs => ?_)
              · intro v11 H locs ls hl hP hS hs
                refine lv_iand hx hb dX7_oneBit_93 ?_
                obtain ⟨v12, h11, hs⟩ := lt_e hs
                refine u_top h11 ?_
                refine lv_istore (lv' := [(4, .int v12), (5, .int v10), (3, .int v1), (0, .ref (ad 0)), (1, .int x1)]) hx hb dX7_oneBit_94 hl (by decide) rfl (fun ls hl => ?_)
                refine lv_aload_n hx hb dX7_oneBit_96 rfl (lv_at hl 3 rfl) ?_
                refine lv_iload_n hx hb dX7_oneBit_97 rfl (lv_at hl 2 rfl) ?_
                refine lv_iload hx hb dX7_oneBit_98 (lv_at hl 1 rfl) ?_
                obtain ⟨S9, h12, hs⟩ := bv_e hs
                refine kX7_operand C tM_X7_192 ⟨Nat.le_of_ble_eq_true rfl, Nat.le_of_ble_eq_true rfl⟩ ⟨Nat.le_of_ble_eq_true rfl, Nat.le_of_ble_eq_true rfl⟩ hK hP hS hl.1 (rest := []) (Nat.le_of_ble_eq_true rfl) dX7_oneBit_100 h12 (fun H locs hP hS => ?_)
                refine lv_aload_n hx hb dX7_oneBit_103 rfl (lv_at hl 3 rfl) ?_
                refine lv_iload hx hb dX7_oneBit_104 (lv_at hl 1 rfl) ?_
                obtain ⟨r3, S10, h13, hs⟩ := bd_e hs
                refine kX7_take C tM_X7_195 ⟨Nat.le_of_ble_eq_true rfl, Nat.le_of_ble_eq_true rfl⟩ ⟨Nat.le_of_ble_eq_true rfl, Nat.le_of_ble_eq_true rfl⟩ hK hP hS hl.1 (rest := []) (Nat.le_of_ble_eq_true rfl) dX7_oneBit_106 h13 (fun H locs hP hS => ?_)
                refine lv_istore (lv' := [(6, .int r3), (4, .int v12), (5, .int v10), (3, .int v1), (0, .ref (ad 0)), (1, .int x1)]) hx hb dX7_oneBit_109 hl (by decide) rfl (fun ls hl => ?_)
                refine lv_aload_n hx hb dX7_oneBit_111 rfl (lv_at hl 4 rfl) ?_
                refine lv_iconst (v := 4) hx hb dX7_oneBit_112 (by decide) ?_
                refine lv_iload hx hb dX7_oneBit_113 (lv_at hl 0 rfl) ?_
                refine lv_iload hx hb dX7_oneBit_115 (lv_at hl 1 rfl) ?_
                refine lv_ishr hx hb dX7_oneBit_117 ?_
                refine lv_iconst (v := 1) hx hb dX7_oneBit_118 (by decide) ?_
                refine lv_iand hx hb dX7_oneBit_119 ?_
                refine jn_e hs (fun K10 => ∀ (b3 : Bool) (H : Heap) (locs : List Loc) (ls : Array Slot), lv_has ls 8 [(6, .int r3), (4, .int v12), (5, .int v10), (0, .ref (ad 0)), (1, .int x1)] → va_P D vwCl (wM ad cI cB S10) H → va_S (AX 11 ad s.heap.size) s.heap H locs → K10 b3 = some (ro, So) → W p l e rmX7_oneBit s m ([.ref (ad 0), .int x1, .int (zI z2)] : List Value).toArray below meth c H locs 0 0 (MQ below (uQ D (wM ad cI cB) (some (.int (zI ro)), So) (AX 11 ad s.heap.size)) ([.ref (ad 0), .int x1, .int (zI z2)] : List Value).toArray s 0 0 (AX 11 ad s.heap.size)) (F0 m 128 ls [.int (zI b3), .int 4, .ref (ad 0)])) ?_ (fun K10 J10 hs => ?_)
                · intro b3 H locs ls hl hP hS hs
                  obtain ⟨S11, h14, hs⟩ := bv_e hs
                  refine kX7_flag C tM_X7_160 ⟨Nat.le_of_ble_eq_true rfl, Nat.le_of_ble_eq_true rfl⟩ ⟨Nat.le_of_ble_eq_true rfl, Nat.le_of_ble_eq_true rfl⟩ hK hP hS hl.1 (rest := []) (Nat.le_of_ble_eq_true rfl) dX7_oneBit_128 h14 (fun H locs hP hS => ?_)
                  refine lv_iload_n hx hb dX7_oneBit_131 rfl (lv_at hl 4 rfl) ?_
                  refine lv_if_le (tgt := 180) hx hb dX7_oneBit_132 (by decide) (fun c11 => ?_) (fun c11 => ?_)
                  · have hs := if_t c11 hs
                    refine lv_iconst (v := 1) hx hb dX7_oneBit_180 (by decide) ?_
                    exact u_zret (v := true) hx hb hr hlocks hP hS hs dX7_oneBit_181
                  · have hs := if_f c11 hs
                    refine lv_iconst (v := 1) hx hb dX7_oneBit_135 (by decide) ?_
                    refine lv_iload hx hb dX7_oneBit_136 (lv_at hl 1 rfl) ?_
                    refine lv_ishl hx hb dX7_oneBit_138 ?_
                    obtain ⟨v13, h15, hs⟩ := lt_e hs
                    refine u_top h15 ?_
                    refine lv_istore (lv' := [(7, .int v13), (6, .int r3), (4, .int v12), (5, .int v10), (0, .ref (ad 0)), (1, .int x1)]) hx hb dX7_oneBit_139 hl (by decide) rfl (fun ls hl => ?_)
                    refine lv_aload_n hx hb dX7_oneBit_141 rfl (lv_at hl 4 rfl) ?_
                    refine lv_iload_n hx hb dX7_oneBit_142 rfl (lv_at hl 5 rfl) ?_
                    refine lv_iconst (v := 1) hx hb dX7_oneBit_143 (by decide) ?_
                    refine jn_e hs (fun K11 => ∀ (v14 : Int32) (H : Heap) (locs : List Loc) (ls : Array Slot), lv_has ls 8 [(5, .int v10)] → va_P D vwCl (wM ad cI cB S11) H → va_S (AX 11 ad s.heap.size) s.heap H locs → K11 v14 = some (ro, So) → W p l e rmX7_oneBit s m ([.ref (ad 0), .int x1, .int (zI z2)] : List Value).toArray below meth c H locs 0 0 (MQ below (uQ D (wM ad cI cB) (some (.int (zI ro)), So) (AX 11 ad s.heap.size)) ([.ref (ad 0), .int x1, .int (zI z2)] : List Value).toArray s 0 0 (AX 11 ad s.heap.size)) (F0 m 175 ls [.int v14, .ref (ad 0)])) ?_ (fun K11 J11 hs => ?_)
                    · intro v14 H locs ls hl hP hS hs
                      refine lv_iload hx hb dX7_oneBit_175 (lv_at hl 0 rfl) ?_
                      obtain ⟨S12, h16, hs⟩ := bv_e hs
                      refine kX7_give C tM_X7_198 ⟨Nat.le_of_ble_eq_true rfl, Nat.le_of_ble_eq_true rfl⟩ ⟨Nat.le_of_ble_eq_true rfl, Nat.le_of_ble_eq_true rfl⟩ hK hP hS hl.1 (rest := []) (Nat.le_of_ble_eq_true rfl) dX7_oneBit_177 h16 (fun H locs hP hS => ?_)
                      refine lv_iconst (v := 1) hx hb dX7_oneBit_180 (by decide) ?_
                      exact u_zret (v := true) hx hb hr hlocks hP hS hs dX7_oneBit_181
                    ·
                      refine lv_icmp_ne (tgt := 155) hx hb dX7_oneBit_144 (by decide) (fun c12 => ?_) (fun c12 => ?_)
                      · have hs := if_f c12 hs
                        refine lv_iload_n hx hb dX7_oneBit_155 rfl (lv_at hl 5 rfl) ?_
                        refine lv_iconst (v := 2) hx hb dX7_oneBit_156 (by decide) ?_
                        refine lv_icmp_ne (tgt := 170) hx hb dX7_oneBit_157 (by decide) (fun c13 => ?_) (fun c13 => ?_)
                        · have hs := if_f c13 hs
                          refine lv_iload hx hb dX7_oneBit_170 (lv_at hl 1 rfl) ?_
                          refine lv_iload hx hb dX7_oneBit_172 (lv_at hl 0 rfl) ?_
                          refine lv_ior hx hb dX7_oneBit_174 ?_
                          exact J11 (r3 ||| v13) _ _ _ (lv_sub hl [3] rfl) hP hS hs
                        · have hs := if_t c13 hs
                          refine lv_iload hx hb dX7_oneBit_160 (lv_at hl 1 rfl) ?_
                          refine lv_iload hx hb dX7_oneBit_162 (lv_at hl 0 rfl) ?_
                          refine lv_iconst (v := (-1 : Int32)) hx hb dX7_oneBit_164 (by decide) ?_
                          refine lv_ixor hx hb dX7_oneBit_165 ?_
                          refine lv_iand hx hb dX7_oneBit_166 ?_
                          refine lv_goto (tgt := 175) hx hb dX7_oneBit_167 (by decide) ?_
                          exact J11 (r3 &&& (v13 ^^^ (-1 : Int32))) _ _ _ (lv_sub hl [3] rfl) hP hS hs
                      · have hs := if_t c12 hs
                        refine lv_iload hx hb dX7_oneBit_147 (lv_at hl 1 rfl) ?_
                        refine lv_iload hx hb dX7_oneBit_149 (lv_at hl 0 rfl) ?_
                        refine lv_ixor hx hb dX7_oneBit_151 ?_
                        refine lv_goto (tgt := 175) hx hb dX7_oneBit_152 (by decide) ?_
                        exact J11 (r3 ^^^ v13) _ _ _ (lv_sub hl [3] rfl) hP hS hs
                ·
                  refine lv_if_ne (tgt := 127) hx hb dX7_oneBit_120 (by decide) (fun c14 => ?_) (fun c14 => ?_)
                  · have hs := if_f c14 hs
                    refine lv_iconst (v := 0) hx hb dX7_oneBit_127 (by decide) ?_
                    exact J10 false _ _ _ (lv_sub hl [0, 1, 2, 4, 5] rfl) hP hS hs
                  · have hs := if_t c14 hs
                    refine lv_iconst (v := 1) hx hb dX7_oneBit_123 (by decide) ?_
                    refine lv_goto (tgt := 128) hx hb dX7_oneBit_124 (by decide) ?_
                    exact J10 true _ _ _ (lv_sub hl [0, 1, 2, 4, 5] rfl) hP hS hs
              ·
                refine lv_icmp_ne (tgt := 91) hx hb dX7_oneBit_83 (by decide) (fun c15 => ?_) (fun c15 => ?_)
                · have hs := if_f c15 hs
                  refine lv_bipush (v := 7) hx hb dX7_oneBit_91 (by decide) ?_
                  exact J9 7 _ _ _ (lv_sub hl [0, 2, 3, 4] rfl) hP hS hs
                · have hs := if_t c15 hs
                  refine lv_bipush (v := 31) hx hb dX7_oneBit_86 (by decide) ?_
                  refine lv_goto (tgt := 93) hx hb dX7_oneBit_88 (by decide) ?_
                  exact J9 31 _ _ _ (lv_sub hl [0, 2, 3, 4] rfl) hP hS hs
            ·
              refine lv_if_ne (tgt := 75) hx hb dX7_oneBit_68 (by decide) (fun c16 => ?_) (fun c16 => ?_)
              · have hs := if_f c16 hs
                refine lv_iconst (v := 1) hx hb dX7_oneBit_75 (by decide) ?_
                exact J8 1 _ _ _ (lv_sub hl [0, 1, 2, 3] rfl) hP hS hs
              · have hs := if_t c16 hs
                refine lv_iconst (v := 4) hx hb dX7_oneBit_71 (by decide) ?_
                refine lv_goto (tgt := 76) hx hb dX7_oneBit_72 (by decide) ?_
                exact J8 4 _ _ _ (lv_sub hl [0, 1, 2, 3] rfl) hP hS hs
          ·
            refine lv_if_eq (tgt := 48) hx hb dX7_oneBit_38 (by decide) (fun c17 => ?_) (fun c17 => ?_)
            · have hs := if_t c17 hs
              refine lv_aload_n hx hb dX7_oneBit_48 rfl (lv_at hl 1 rfl) ?_
              refine gM_X7_d hx hb hT hown hK hP (hT _ tF_X7_13) dX7_oneBit_49 ?_
              refine lv_aload_n hx hb dX7_oneBit_52 rfl (lv_at hl 1 rfl) ?_
              refine gM_X7_op hx hb hT hown hK hP (hT _ tF_X7_174) dX7_oneBit_53 ?_
              refine lv_bipush (v := 9) hx hb dX7_oneBit_56 (by decide) ?_
              refine lv_ishr hx hb dX7_oneBit_58 ?_
              refine lv_bipush (v := 7) hx hb dX7_oneBit_59 (by decide) ?_
              refine lv_iand hx hb dX7_oneBit_61 ?_
              obtain ⟨h17, hs⟩ := gd_e hs
              refine lM_d hx hb hK hP (ixo_in h17) dX7_oneBit_62 ?_
              exact J7 (S1.2.2 1 (((S1.1 5) >>> ((9 : Int32) &&& 31)) &&& 7).toNatClampNeg) S1 _ _ _ (lv_sub hl [0, 1, 2] rfl) hP hS hs
            · have hs := if_f c17 hs
              refine lv_aload_n hx hb dX7_oneBit_41 rfl (lv_at hl 1 rfl) ?_
              obtain ⟨r4, S13, h18, hs⟩ := bd_e hs
              refine kX7_extension C tM_X7_125 ⟨Nat.le_of_ble_eq_true rfl, Nat.le_of_ble_eq_true rfl⟩ ⟨Nat.le_of_ble_eq_true rfl, Nat.le_of_ble_eq_true rfl⟩ hK hP hS hl.1 (rest := []) (Nat.le_of_ble_eq_true rfl) dX7_oneBit_42 h18 (fun H locs hP hS => ?_)
              refine lv_goto (tgt := 63) hx hb dX7_oneBit_45 (by decide) ?_
              exact J7 r4 S13 _ _ _ (lv_sub hl [0, 1, 2] rfl) hP hS hs
        · have hs := if_t c10 hs
          refine lv_iconst (v := 0) hx hb dX7_oneBit_35 (by decide) ?_
          exact u_zret (v := false) hx hb hr hlocks hP hS hs dX7_oneBit_36
  ·
    refine lv_if_ne (tgt := 17) hx hb dX7_oneBit_10 (by decide) (fun c18 => ?_) (fun c18 => ?_)
    · have hs := if_f c18 hs
      refine lv_iconst (v := 4) hx hb dX7_oneBit_17 (by decide) ?_
      exact J1 4 _ _ _ (lv_sub hl [0, 1, 2, 3] rfl) hP hS hs
    · have hs := if_t c18 hs
      refine lv_iconst (v := 1) hx hb dX7_oneBit_13 (by decide) ?_
      refine lv_goto (tgt := 18) hx hb dX7_oneBit_14 (by decide) ?_
      exact J1 1 _ _ _ (lv_sub hl [0, 1, 2, 3] rfl) hP hS hs
theorem kX7_oneBit {p : Program} {l : Launch} {e : Env} {R : Room} {s : State} {m : MethodId} {args : Array Value} {below : List Frame} {meth : Method} {c : Code} {H : Heap} {locs : List Loc} {cells slots : Nat} {Q : State → Prop} {cc : ByteArray} {pc nL : Nat} {ls : Array Slot} {rest : List Value} {D : va_G} {ad : Nat → Nat} {cI cB : ClassId} {en : Nat → Nat} {S : St} {own : String} {index : Nat} {x1 : Int32} {z2 : Bool} {ro : Bool} {So : St} (C : CallFix p m c cc nL s args wG own) (hlk : Cond.methodLink own index yX7_oneBit ∈ wG) (hR : rmX7_oneBit.frames + 1 ≤ R.frames ∧ 8 + (8 + 11) + rmX7_oneBit.locals ≤ R.locals) (hc : cells ≤ R.cells ∧ slots ≤ R.slots) (hK : KM D ad cI cB en s) (hP : va_P D vwCl (wM ad cI cB S) H) (hS : va_S (AX 11 ad s.heap.size) s.heap H locs) (hls : ls.size = nL) (hrest : (rest.map fun v => v.category).sum ≤ 8) (hd : decode cc pc = .ok (.invokevirtual index, 3)) (hs : fX7_oneBit x1 z2 S = some (ro, So)) (k : ∀ (H : Heap) (locs : List Loc), va_P D vwCl (wM ad cI cB So) H → va_S (AX 11 ad s.heap.size) s.heap H locs → W p l e R s m args below meth c H locs cells slots Q (F0 m (pc + 3) ls (.int (zI ro) :: rest))) : W p l e R s m args below meth c H locs cells slots Q (F0 m pc ls (.int (zI z2) :: .int x1 :: .ref (ad 0) :: rest)) :=
  u_callV (n := 2) (mX7_oneBit l D ad cI cB en S x1 z2 ro So hs) C uK_M (wg_V hlk tI_X7_oneBit tS_X7_oneBit tN_X7 tK_X7_oneBit) rfl rfl rfl (by decide +kernel) hR rfl (va_recv hK.1 hP (ci := 6) (q0 := 0) rfl rfl) hK hP hS hls hrest hd hc rfl k
def fX7_group0  (S : St) : Option (Bool × St) :=
    (lt ((((S.1 5) >>> ((6 : Int32) &&& 31)) &&& 3) : Int32) fun v1 => (lt ((((S.1 5) >>> ((9 : Int32) &&& 31)) &&& 7) : Int32) fun v2 => (if ((S.1 5) &&& 256) = 0 then (if v2 = 4 then (bd (fX7_oneBit v1 true S) fun b8 S35 => (some (b8, S35)))
    else (jn (fun (v3 : Int32) => (if ((S.1 5) &&& 63) = 60 then (if 2 ≤ v1 then (if v2 = 7 then (some (false, S))
    else (if v1 = 3 then (some (false, S))
    else (bd (fX7_fits ((S.1 5) &&& 63) 4 1 S) fun b3 S12 => (if (zI b3) = 0 then (some (false, S12))
    else (bd (fX7_sizeOf v1 S12) fun r6 S13 => (bd (fX7_immediate r6 S13) fun r7 S14 => (bv (fX7_operand ((S14.1 5) &&& 63) r6 S14) fun S15 => (bd (fX7_take r6 S15) fun r8 S16 => (if 3 ≤ v3 then (if v2 = 6 then (bv (fX7_compare r8 r7 r6 S16) fun S19 => (some (true, S19)))
    else (jn (fun (b4 : Bool) => (bd (fX7_reckon r8 r7 0 b4 r6 true false S16) fun r9 S17 => (bv (fX7_give r9 r6 S17) fun S18 => (some (true, S18))))) fun K3 =>
    (if v2 = 2 then (K3 true)
    else (K3 false))))
    else (bd (fX7_mixed v3 r8 r7 S16) fun r10 S20 => (bv (fX7_logic r10 r6 S20) fun S21 => (bv (fX7_give r10 r6 S21) fun S22 => (some (true, S22))))))))))))))
    else (if 3 ≤ v3 then (if v2 = 7 then (some (false, S))
    else (if v1 = 3 then (some (false, S))
    else (bd (fX7_fits ((S.1 5) &&& 63) 4 1 S) fun b5 S23 => (if (zI b5) = 0 then (some (false, S23))
    else (bd (fX7_sizeOf v1 S23) fun r11 S24 => (bd (fX7_immediate r11 S24) fun r12 S25 => (bv (fX7_operand ((S25.1 5) &&& 63) r11 S25) fun S26 => (bd (fX7_take r11 S26) fun r13 S27 => (if 3 ≤ v3 then (if v2 = 6 then (bv (fX7_compare r13 r12 r11 S27) fun S30 => (some (true, S30)))
    else (jn (fun (b6 : Bool) => (bd (fX7_reckon r13 r12 0 b6 r11 true false S27) fun r14 S28 => (bv (fX7_give r14 r11 S28) fun S29 => (some (true, S29))))) fun K4 =>
    (if v2 = 2 then (K4 true)
    else (K4 false))))
    else (bd (fX7_mixed v3 r13 r12 S27) fun r15 S31 => (bv (fX7_logic r15 r11 S31) fun S32 => (bv (fX7_give r15 r11 S32) fun S33 => (some (true, S33))))))))))))))
    else (bd (fX7_toFlags v3 S) fun b7 S34 => (some (b7, S34)))))
    else (if v2 = 7 then (some (false, S))
    else (if v1 = 3 then (some (false, S))
    else (bd (fX7_fits ((S.1 5) &&& 63) 4 1 S) fun b1 S1 => (if (zI b1) = 0 then (some (false, S1))
    else (bd (fX7_sizeOf v1 S1) fun r1 S2 => (bd (fX7_immediate r1 S2) fun r2 S3 => (bv (fX7_operand ((S3.1 5) &&& 63) r1 S3) fun S4 => (bd (fX7_take r1 S4) fun r3 S5 => (if 3 ≤ v3 then (if v2 = 6 then (bv (fX7_compare r3 r2 r1 S5) fun S8 => (some (true, S8)))
    else (jn (fun (b2 : Bool) => (bd (fX7_reckon r3 r2 0 b2 r1 true false S5) fun r4 S6 => (bv (fX7_give r4 r1 S6) fun S7 => (some (true, S7))))) fun K2 =>
    (if v2 = 2 then (K2 true)
    else (K2 false))))
    else (bd (fX7_mixed v3 r3 r2 S5) fun r5 S9 => (bv (fX7_logic r5 r1 S9) fun S10 => (bv (fX7_give r5 r1 S10) fun S11 => (some (true, S11)))))))))))))))) fun K1 =>
    (if v2 = 0 then (K1 0)
    else (if v2 = 1 then (K1 1)
    else (if v2 = 5 then (K1 2)
    else (K1 3))))))
    else (if (((S.1 5) >>> ((3 : Int32) &&& 31)) &&& 7) = 1 then (bd (fX7_movePeripheral S) fun b10 S37 => (some (b10, S37)))
    else (bd (fX7_oneBit v1 false S) fun b9 S36 => (some (b9, S36)))))))
abbrev rmX7_group0 : Room := { frames := 7, cells := 0, slots := 0, locals := 165 }
set_option maxRecDepth 100000 in
set_option maxHeartbeats 4000000 in
theorem mX7_group0 (l : Launch) (D : va_G) (ad : Nat → Nat) (cI cB : ClassId) (en : Nat → Nat) (S : St)  (ro : Bool) (So : St) (hs : fX7_group0  S = some (ro, So)) : uM l yX7_group0 (wg yX7_group0 cX7_group0 8 (some .boolean)) rmX7_group0 (KM D ad cI cB en) D (wM ad cI cB) (AX 11 ad) [.ref (ad 0)] S (some (.int (zI ro)), So) := by
  refine uM_start (by decide) rfl ?_
  intro p e s m below meth c hx hb hr hlocks hml hown hts hK hP
  have hT : ∀ w ∈ wG, w.before _ s = true := fun w h => hts w (List.mem_cons_of_mem _ h)
  have hS : va_S (AX 11 ad s.heap.size) s.heap s.heap [] := va_S.rf
  have hown : s.vm.findClass RX7 = some m.cls := hown
  have C : CallFix p m c cX7_group0 8 s _ wG RX7 := ⟨hx, hb, hml, hown, hT⟩
  have hl := lv_entry ([.ref (ad 0)]) (n := 8) (Nat.le_of_ble_eq_true rfl)
  rw [lg_entry_eq]
  generalize (lg_sl ([.ref (ad 0)]) ++ List.replicate (8 - (lg_sl ([.ref (ad 0)])).length) Slot.unset).toArray = ls at hl ⊢
  have hl : lv_has ls 8 [(0, .ref (ad 0))] := hl
  unfold fX7_group0 at hs
  refine lv_aload_n hx hb dX7_group0_0 rfl (lv_at hl 0 rfl) ?_
  refine gM_X7_op hx hb hT hown hK hP (hT _ tF_X7_174) dX7_group0_1 ?_
  refine lv_bipush (v := 6) hx hb dX7_group0_4 (by decide) ?_
  refine lv_ishr hx hb dX7_group0_6 ?_
  refine lv_iconst (v := 3) hx hb dX7_group0_7 (by decide) ?_
  refine lv_iand hx hb dX7_group0_8 ?_
  obtain ⟨v1, h1, hs⟩ := lt_e hs
  refine u_top h1 ?_
  refine lv_istore_n (lv' := [(1, .int v1), (0, .ref (ad 0))]) hx hb dX7_group0_9 rfl hl (by decide) rfl (fun ls hl => ?_)
  refine lv_aload_n hx hb dX7_group0_10 rfl (lv_at hl 1 rfl) ?_
  refine gM_X7_op hx hb hT hown hK hP (hT _ tF_X7_174) dX7_group0_11 ?_
  refine lv_bipush (v := 9) hx hb dX7_group0_14 (by decide) ?_
  refine lv_ishr hx hb dX7_group0_16 ?_
  refine lv_bipush (v := 7) hx hb dX7_group0_17 (by decide) ?_
  refine lv_iand hx hb dX7_group0_19 ?_
  obtain ⟨v2, h2, hs⟩ := lt_e hs
  refine u_top h2 ?_
  refine lv_istore_n (lv' := [(2, .int v2), (1, .int v1), (0, .ref (ad 0))]) hx hb dX7_group0_20 rfl hl (by decide) rfl (fun ls hl => ?_)
  refine lv_aload_n hx hb dX7_group0_21 rfl (lv_at hl 2 rfl) ?_
  refine gM_X7_op hx hb hT hown hK hP (hT _ tF_X7_174) dX7_group0_22 ?_
  refine lv_sipush (v := 256) hx hb dX7_group0_25 (by decide) ?_
  refine lv_iand hx hb dX7_group0_28 ?_
  refine lv_if_eq (tgt := 59) hx hb dX7_group0_29 (by decide) (fun c1 => ?_) (fun c1 => ?_)
  · have hs := if_t c1 hs
    refine lv_iload_n hx hb dX7_group0_59 rfl (lv_at hl 0 rfl) ?_
    refine lv_iconst (v := 4) hx hb dX7_group0_60 (by decide) ?_
    refine lv_icmp_ne (tgt := 71) hx hb dX7_group0_61 (by decide) (fun c2 => ?_) (fun c2 => ?_)
    · have hs := if_f c2 hs
      refine lv_iload_n hx hb dX7_group0_71 rfl (lv_at hl 0 rfl) ?_
      refine jn_e hs (fun K1 => ∀ (v3 : Int32) (H : Heap) (locs : List Loc) (ls : Array Slot), lv_has ls 8 [(2, .int v2), (1, .int v1), (0, .ref (ad 0))] → va_P D vwCl (wM ad cI cB S) H → va_S (AX 11 ad s.heap.size) s.heap H locs → K1 v3 = some (ro, So) → W p l e rmX7_group0 s m ([.ref (ad 0)] : List Value).toArray below meth c H locs 0 0 (MQ below (uQ D (wM ad cI cB) (some (.int (zI ro)), So) (AX 11 ad s.heap.size)) ([.ref (ad 0)] : List Value).toArray s 0 0 (AX 11 ad s.heap.size)) (F0 m 98 ls [.int v3])) ?_ (fun K1 J1 hs => ?_)
      · intro v3 H locs ls hl hP hS hs
        refine lv_istore_n (lv' := [(3, .int v3), (2, .int v2), (1, .int v1), (0, .ref (ad 0))]) hx hb dX7_group0_98 rfl hl (by decide) rfl (fun ls hl => ?_)
        refine lv_aload_n hx hb dX7_group0_99 rfl (lv_at hl 3 rfl) ?_
        refine gM_X7_op hx hb hT hown hK hP (hT _ tF_X7_174) dX7_group0_100 ?_
        refine lv_bipush (v := 63) hx hb dX7_group0_103 (by decide) ?_
        refine lv_iand hx hb dX7_group0_105 ?_
        refine lv_bipush (v := 60) hx hb dX7_group0_106 (by decide) ?_
        refine lv_icmp_ne (tgt := 127) hx hb dX7_group0_108 (by decide) (fun c3 => ?_) (fun c3 => ?_)
        · have hs := if_f c3 hs
          refine lv_iload_n hx hb dX7_group0_127 rfl (lv_at hl 1 rfl) ?_
          refine lv_bipush (v := 7) hx hb dX7_group0_128 (by decide) ?_
          refine lv_icmp_eq (tgt := 153) hx hb dX7_group0_130 (by decide) (fun c4 => ?_) (fun c4 => ?_)
          · have hs := if_t c4 hs
            refine lv_iconst (v := 0) hx hb dX7_group0_153 (by decide) ?_
            exact u_zret (v := false) hx hb hr hlocks hP hS hs dX7_group0_154
          · have hs := if_f c4 hs
            refine lv_iload_n hx hb dX7_group0_133 rfl (lv_at hl 2 rfl) ?_
            refine lv_iconst (v := 3) hx hb dX7_group0_134 (by decide) ?_
            refine lv_icmp_eq (tgt := 153) hx hb dX7_group0_135 (by decide) (fun c5 => ?_) (fun c5 => ?_)
            · have hs := if_t c5 hs
              refine lv_iconst (v := 0) hx hb dX7_group0_153 (by decide) ?_
              exact u_zret (v := false) hx hb hr hlocks hP hS hs dX7_group0_154
            · have hs := if_f c5 hs
              refine lv_aload_n hx hb dX7_group0_138 rfl (lv_at hl 3 rfl) ?_
              refine gM_X7_op hx hb hT hown hK hP (hT _ tF_X7_174) dX7_group0_139 ?_
              refine lv_bipush (v := 63) hx hb dX7_group0_142 (by decide) ?_
              refine lv_iand hx hb dX7_group0_144 ?_
              refine lv_iconst (v := 4) hx hb dX7_group0_145 (by decide) ?_
              refine lv_iconst (v := 1) hx hb dX7_group0_146 (by decide) ?_
              obtain ⟨b1, S1, h3, hs⟩ := bd_e hs
              refine kX7_fits C tM_X7_188 ⟨Nat.le_of_ble_eq_true rfl, Nat.le_of_ble_eq_true rfl⟩ ⟨Nat.le_of_ble_eq_true rfl, Nat.le_of_ble_eq_true rfl⟩ hK hP hS hl.1 (rest := []) (Nat.le_of_ble_eq_true rfl) dX7_group0_147 h3 (fun H locs hP hS => ?_)
              refine lv_if_ne (tgt := 155) hx hb dX7_group0_150 (by decide) (fun c6 => ?_) (fun c6 => ?_)
              · have hs := if_f c6 hs
                refine lv_iload_n hx hb dX7_group0_155 rfl (lv_at hl 2 rfl) ?_
                obtain ⟨r1, S2, h4, hs⟩ := bd_e hs
                refine kX7_sizeOf C tM_X7_211 ⟨Nat.le_of_ble_eq_true rfl, Nat.le_of_ble_eq_true rfl⟩ ⟨Nat.le_of_ble_eq_true rfl, Nat.le_of_ble_eq_true rfl⟩ hK hP hS hl.1 (rest := []) (Nat.le_of_ble_eq_true rfl) dX7_group0_156 h4 (fun H locs hP hS => ?_)
                refine lv_istore (lv' := [(4, .int r1), (3, .int v3), (2, .int v2), (1, .int v1), (0, .ref (ad 0))]) hx hb dX7_group0_159 hl (by decide) rfl (fun ls hl => ?_)
                refine lv_aload_n hx hb dX7_group0_161 rfl (lv_at hl 4 rfl) ?_
                refine lv_iload hx hb dX7_group0_162 (lv_at hl 0 rfl) ?_
                obtain ⟨r2, S3, h5, hs⟩ := bd_e hs
                refine kX7_immediate C tM_X7_141 ⟨Nat.le_of_ble_eq_true rfl, Nat.le_of_ble_eq_true rfl⟩ ⟨Nat.le_of_ble_eq_true rfl, Nat.le_of_ble_eq_true rfl⟩ hK hP hS hl.1 (rest := []) (Nat.le_of_ble_eq_true rfl) dX7_group0_164 h5 (fun H locs hP hS => ?_)
                refine lv_istore (lv' := [(5, .int r2), (4, .int r1), (3, .int v3), (2, .int v2), (1, .int v1), (0, .ref (ad 0))]) hx hb dX7_group0_167 hl (by decide) rfl (fun ls hl => ?_)
                refine lv_aload_n hx hb dX7_group0_169 rfl (lv_at hl 5 rfl) ?_
                refine lv_aload_n hx hb dX7_group0_170 rfl (lv_at hl 5 rfl) ?_
                refine gM_X7_op hx hb hT hown hK hP (hT _ tF_X7_174) dX7_group0_171 ?_
                refine lv_bipush (v := 63) hx hb dX7_group0_174 (by decide) ?_
                refine lv_iand hx hb dX7_group0_176 ?_
                refine lv_iload hx hb dX7_group0_177 (lv_at hl 1 rfl) ?_
                obtain ⟨S4, h6, hs⟩ := bv_e hs
                refine kX7_operand C tM_X7_192 ⟨Nat.le_of_ble_eq_true rfl, Nat.le_of_ble_eq_true rfl⟩ ⟨Nat.le_of_ble_eq_true rfl, Nat.le_of_ble_eq_true rfl⟩ hK hP hS hl.1 (rest := []) (Nat.le_of_ble_eq_true rfl) dX7_group0_179 h6 (fun H locs hP hS => ?_)
                refine lv_aload_n hx hb dX7_group0_182 rfl (lv_at hl 5 rfl) ?_
                refine lv_iload hx hb dX7_group0_183 (lv_at hl 1 rfl) ?_
                obtain ⟨r3, S5, h7, hs⟩ := bd_e hs
                refine kX7_take C tM_X7_195 ⟨Nat.le_of_ble_eq_true rfl, Nat.le_of_ble_eq_true rfl⟩ ⟨Nat.le_of_ble_eq_true rfl, Nat.le_of_ble_eq_true rfl⟩ hK hP hS hl.1 (rest := []) (Nat.le_of_ble_eq_true rfl) dX7_group0_185 h7 (fun H locs hP hS => ?_)
                refine lv_istore (lv' := [(6, .int r3), (5, .int r2), (4, .int r1), (3, .int v3), (2, .int v2), (1, .int v1), (0, .ref (ad 0))]) hx hb dX7_group0_188 hl (by decide) rfl (fun ls hl => ?_)
                refine lv_iload_n hx hb dX7_group0_190 rfl (lv_at hl 3 rfl) ?_
                refine lv_iconst (v := 3) hx hb dX7_group0_191 (by decide) ?_
                refine lv_icmp_ge (tgt := 224) hx hb dX7_group0_192 (by decide) (fun c7 => ?_) (fun c7 => ?_)
                · have hs := if_t c7 hs
                  refine lv_iload_n hx hb dX7_group0_224 rfl (lv_at hl 4 rfl) ?_
                  refine lv_bipush (v := 6) hx hb dX7_group0_225 (by decide) ?_
                  refine lv_icmp_ne (tgt := 243) hx hb dX7_group0_227 (by decide) (fun c8 => ?_) (fun c8 => ?_)
                  · have hs := if_f c8 hs
                    refine lv_aload_n hx hb dX7_group0_243 rfl (lv_at hl 6 rfl) ?_
                    refine lv_aload_n hx hb dX7_group0_244 rfl (lv_at hl 6 rfl) ?_
                    refine lv_iload hx hb dX7_group0_245 (lv_at hl 0 rfl) ?_
                    refine lv_iload hx hb dX7_group0_247 (lv_at hl 1 rfl) ?_
                    refine lv_iconst (v := 0) hx hb dX7_group0_249 (by decide) ?_
                    refine lv_iload_n hx hb dX7_group0_250 rfl (lv_at hl 4 rfl) ?_
                    refine lv_iconst (v := 2) hx hb dX7_group0_251 (by decide) ?_
                    refine jn_e hs (fun K2 => ∀ (b2 : Bool) (H : Heap) (locs : List Loc) (ls : Array Slot), lv_has ls 8 [(4, .int r1)] → va_P D vwCl (wM ad cI cB S5) H → va_S (AX 11 ad s.heap.size) s.heap H locs → K2 b2 = some (ro, So) → W p l e rmX7_group0 s m ([.ref (ad 0)] : List Value).toArray below meth c H locs 0 0 (MQ below (uQ D (wM ad cI cB) (some (.int (zI ro)), So) (AX 11 ad s.heap.size)) ([.ref (ad 0)] : List Value).toArray s 0 0 (AX 11 ad s.heap.size)) (F0 m 260 ls [.int (zI b2), .int 0, .int r2, .int r3, .ref (ad 0), .ref (ad 0)])) ?_ (fun K2 J2 hs => ?_)
                    · intro b2 H locs ls hl hP hS hs
                      refine lv_iload hx hb dX7_group0_260 (lv_at hl 0 rfl) ?_
                      refine lv_iconst (v := 1) hx hb dX7_group0_262 (by decide) ?_
                      refine lv_iconst (v := 0) hx hb dX7_group0_263 (by decide) ?_
                      obtain ⟨r4, S6, h8, hs⟩ := bd_e hs
                      refine kX7_reckon C tM_X7_167 ⟨Nat.le_of_ble_eq_true rfl, Nat.le_of_ble_eq_true rfl⟩ ⟨Nat.le_of_ble_eq_true rfl, Nat.le_of_ble_eq_true rfl⟩ hK hP hS hl.1 (rest := [.ref (ad 0)]) (Nat.le_of_ble_eq_true rfl) dX7_group0_264 h8 (fun H locs hP hS => ?_)
                      refine lv_iload hx hb dX7_group0_267 (lv_at hl 0 rfl) ?_
                      obtain ⟨S7, h9, hs⟩ := bv_e hs
                      refine kX7_give C tM_X7_198 ⟨Nat.le_of_ble_eq_true rfl, Nat.le_of_ble_eq_true rfl⟩ ⟨Nat.le_of_ble_eq_true rfl, Nat.le_of_ble_eq_true rfl⟩ hK hP hS hl.1 (rest := []) (Nat.le_of_ble_eq_true rfl) dX7_group0_269 h9 (fun H locs hP hS => ?_)
                      refine lv_iconst (v := 1) hx hb dX7_group0_272 (by decide) ?_
                      exact u_zret (v := true) hx hb hr hlocks hP hS hs dX7_group0_273
                    ·
                      refine lv_icmp_ne (tgt := 259) hx hb dX7_group0_252 (by decide) (fun c9 => ?_) (fun c9 => ?_)
                      · have hs := if_f c9 hs
                        refine lv_iconst (v := 0) hx hb dX7_group0_259 (by decide) ?_
                        exact J2 false _ _ _ (lv_sub hl [2] rfl) hP hS hs
                      · have hs := if_t c9 hs
                        refine lv_iconst (v := 1) hx hb dX7_group0_255 (by decide) ?_
                        refine lv_goto (tgt := 260) hx hb dX7_group0_256 (by decide) ?_
                        exact J2 true _ _ _ (lv_sub hl [2] rfl) hP hS hs
                  · have hs := if_t c8 hs
                    refine lv_aload_n hx hb dX7_group0_230 rfl (lv_at hl 6 rfl) ?_
                    refine lv_iload hx hb dX7_group0_231 (lv_at hl 0 rfl) ?_
                    refine lv_iload hx hb dX7_group0_233 (lv_at hl 1 rfl) ?_
                    refine lv_iload hx hb dX7_group0_235 (lv_at hl 2 rfl) ?_
                    obtain ⟨S8, h10, hs⟩ := bv_e hs
                    refine kX7_compare C tM_X7_217 ⟨Nat.le_of_ble_eq_true rfl, Nat.le_of_ble_eq_true rfl⟩ ⟨Nat.le_of_ble_eq_true rfl, Nat.le_of_ble_eq_true rfl⟩ hK hP hS hl.1 (rest := []) (Nat.le_of_ble_eq_true rfl) dX7_group0_237 h10 (fun H locs hP hS => ?_)
                    refine lv_goto (tgt := 272) hx hb dX7_group0_240 (by decide) ?_
                    refine lv_iconst (v := 1) hx hb dX7_group0_272 (by decide) ?_
                    exact u_zret (v := true) hx hb hr hlocks hP hS hs dX7_group0_273
                · have hs := if_f c7 hs
                  refine lv_iload_n hx hb dX7_group0_195 rfl (lv_at hl 3 rfl) ?_
                  refine lv_iload hx hb dX7_group0_196 (lv_at hl 0 rfl) ?_
                  refine lv_iload hx hb dX7_group0_198 (lv_at hl 1 rfl) ?_
                  obtain ⟨r5, S9, h11, hs⟩ := bd_e hs
                  refine kX7_mixed C tM_X7_181 ⟨Nat.le_of_ble_eq_true rfl, Nat.le_of_ble_eq_true rfl⟩ ⟨Nat.le_of_ble_eq_true rfl, Nat.le_of_ble_eq_true rfl⟩ hK hP hS hl.1 (rest := []) (Nat.le_of_ble_eq_true rfl) dX7_group0_200 h11 (fun H locs hP hS => ?_)
                  refine lv_istore (lv' := [(7, .int r5), (6, .int r3), (5, .int r2), (4, .int r1), (3, .int v3), (2, .int v2), (1, .int v1), (0, .ref (ad 0))]) hx hb dX7_group0_203 hl (by decide) rfl (fun ls hl => ?_)
                  refine lv_aload_n hx hb dX7_group0_205 rfl (lv_at hl 7 rfl) ?_
                  refine lv_iload hx hb dX7_group0_206 (lv_at hl 0 rfl) ?_
                  refine lv_iload hx hb dX7_group0_208 (lv_at hl 3 rfl) ?_
                  obtain ⟨S10, h12, hs⟩ := bv_e hs
                  refine kX7_logic C tM_X7_214 ⟨Nat.le_of_ble_eq_true rfl, Nat.le_of_ble_eq_true rfl⟩ ⟨Nat.le_of_ble_eq_true rfl, Nat.le_of_ble_eq_true rfl⟩ hK hP hS hl.1 (rest := []) (Nat.le_of_ble_eq_true rfl) dX7_group0_210 h12 (fun H locs hP hS => ?_)
                  refine lv_aload_n hx hb dX7_group0_213 rfl (lv_at hl 7 rfl) ?_
                  refine lv_iload hx hb dX7_group0_214 (lv_at hl 0 rfl) ?_
                  refine lv_iload hx hb dX7_group0_216 (lv_at hl 3 rfl) ?_
                  obtain ⟨S11, h13, hs⟩ := bv_e hs
                  refine kX7_give C tM_X7_198 ⟨Nat.le_of_ble_eq_true rfl, Nat.le_of_ble_eq_true rfl⟩ ⟨Nat.le_of_ble_eq_true rfl, Nat.le_of_ble_eq_true rfl⟩ hK hP hS hl.1 (rest := []) (Nat.le_of_ble_eq_true rfl) dX7_group0_218 h13 (fun H locs hP hS => ?_)
                  refine lv_goto (tgt := 272) hx hb dX7_group0_221 (by decide) ?_
                  refine lv_iconst (v := 1) hx hb dX7_group0_272 (by decide) ?_
                  exact u_zret (v := true) hx hb hr hlocks hP hS hs dX7_group0_273
              · have hs := if_t c6 hs
                refine lv_iconst (v := 0) hx hb dX7_group0_153 (by decide) ?_
                exact u_zret (v := false) hx hb hr hlocks hP hS hs dX7_group0_154
        · have hs := if_t c3 hs
          refine lv_iload_n hx hb dX7_group0_111 rfl (lv_at hl 2 rfl) ?_
          refine lv_iconst (v := 2) hx hb dX7_group0_112 (by decide) ?_
          refine lv_icmp_ge (tgt := 127) hx hb dX7_group0_113 (by decide) (fun c10 => ?_) (fun c10 => ?_)
          · have hs := if_t c10 hs
            refine lv_iload_n hx hb dX7_group0_127 rfl (lv_at hl 1 rfl) ?_
            refine lv_bipush (v := 7) hx hb dX7_group0_128 (by decide) ?_
            refine lv_icmp_eq (tgt := 153) hx hb dX7_group0_130 (by decide) (fun c11 => ?_) (fun c11 => ?_)
            · have hs := if_t c11 hs
              refine lv_iconst (v := 0) hx hb dX7_group0_153 (by decide) ?_
              exact u_zret (v := false) hx hb hr hlocks hP hS hs dX7_group0_154
            · have hs := if_f c11 hs
              refine lv_iload_n hx hb dX7_group0_133 rfl (lv_at hl 2 rfl) ?_
              refine lv_iconst (v := 3) hx hb dX7_group0_134 (by decide) ?_
              refine lv_icmp_eq (tgt := 153) hx hb dX7_group0_135 (by decide) (fun c12 => ?_) (fun c12 => ?_)
              · have hs := if_t c12 hs
                refine lv_iconst (v := 0) hx hb dX7_group0_153 (by decide) ?_
                exact u_zret (v := false) hx hb hr hlocks hP hS hs dX7_group0_154
              · have hs := if_f c12 hs
                refine lv_aload_n hx hb dX7_group0_138 rfl (lv_at hl 3 rfl) ?_
                refine gM_X7_op hx hb hT hown hK hP (hT _ tF_X7_174) dX7_group0_139 ?_
                refine lv_bipush (v := 63) hx hb dX7_group0_142 (by decide) ?_
                refine lv_iand hx hb dX7_group0_144 ?_
                refine lv_iconst (v := 4) hx hb dX7_group0_145 (by decide) ?_
                refine lv_iconst (v := 1) hx hb dX7_group0_146 (by decide) ?_
                obtain ⟨b3, S12, h14, hs⟩ := bd_e hs
                refine kX7_fits C tM_X7_188 ⟨Nat.le_of_ble_eq_true rfl, Nat.le_of_ble_eq_true rfl⟩ ⟨Nat.le_of_ble_eq_true rfl, Nat.le_of_ble_eq_true rfl⟩ hK hP hS hl.1 (rest := []) (Nat.le_of_ble_eq_true rfl) dX7_group0_147 h14 (fun H locs hP hS => ?_)
                refine lv_if_ne (tgt := 155) hx hb dX7_group0_150 (by decide) (fun c13 => ?_) (fun c13 => ?_)
                · have hs := if_f c13 hs
                  refine lv_iload_n hx hb dX7_group0_155 rfl (lv_at hl 2 rfl) ?_
                  obtain ⟨r6, S13, h15, hs⟩ := bd_e hs
                  refine kX7_sizeOf C tM_X7_211 ⟨Nat.le_of_ble_eq_true rfl, Nat.le_of_ble_eq_true rfl⟩ ⟨Nat.le_of_ble_eq_true rfl, Nat.le_of_ble_eq_true rfl⟩ hK hP hS hl.1 (rest := []) (Nat.le_of_ble_eq_true rfl) dX7_group0_156 h15 (fun H locs hP hS => ?_)
                  refine lv_istore (lv' := [(4, .int r6), (3, .int v3), (2, .int v2), (1, .int v1), (0, .ref (ad 0))]) hx hb dX7_group0_159 hl (by decide) rfl (fun ls hl => ?_)
                  refine lv_aload_n hx hb dX7_group0_161 rfl (lv_at hl 4 rfl) ?_
                  refine lv_iload hx hb dX7_group0_162 (lv_at hl 0 rfl) ?_
                  obtain ⟨r7, S14, h16, hs⟩ := bd_e hs
                  refine kX7_immediate C tM_X7_141 ⟨Nat.le_of_ble_eq_true rfl, Nat.le_of_ble_eq_true rfl⟩ ⟨Nat.le_of_ble_eq_true rfl, Nat.le_of_ble_eq_true rfl⟩ hK hP hS hl.1 (rest := []) (Nat.le_of_ble_eq_true rfl) dX7_group0_164 h16 (fun H locs hP hS => ?_)
                  refine lv_istore (lv' := [(5, .int r7), (4, .int r6), (3, .int v3), (2, .int v2), (1, .int v1), (0, .ref (ad 0))]) hx hb dX7_group0_167 hl (by decide) rfl (fun ls hl => ?_)
                  refine lv_aload_n hx hb dX7_group0_169 rfl (lv_at hl 5 rfl) ?_
                  refine lv_aload_n hx hb dX7_group0_170 rfl (lv_at hl 5 rfl) ?_
                  refine gM_X7_op hx hb hT hown hK hP (hT _ tF_X7_174) dX7_group0_171 ?_
                  refine lv_bipush (v := 63) hx hb dX7_group0_174 (by decide) ?_
                  refine lv_iand hx hb dX7_group0_176 ?_
                  refine lv_iload hx hb dX7_group0_177 (lv_at hl 1 rfl) ?_
                  obtain ⟨S15, h17, hs⟩ := bv_e hs
                  refine kX7_operand C tM_X7_192 ⟨Nat.le_of_ble_eq_true rfl, Nat.le_of_ble_eq_true rfl⟩ ⟨Nat.le_of_ble_eq_true rfl, Nat.le_of_ble_eq_true rfl⟩ hK hP hS hl.1 (rest := []) (Nat.le_of_ble_eq_true rfl) dX7_group0_179 h17 (fun H locs hP hS => ?_)
                  refine lv_aload_n hx hb dX7_group0_182 rfl (lv_at hl 5 rfl) ?_
                  refine lv_iload hx hb dX7_group0_183 (lv_at hl 1 rfl) ?_
                  obtain ⟨r8, S16, h18, hs⟩ := bd_e hs
                  refine kX7_take C tM_X7_195 ⟨Nat.le_of_ble_eq_true rfl, Nat.le_of_ble_eq_true rfl⟩ ⟨Nat.le_of_ble_eq_true rfl, Nat.le_of_ble_eq_true rfl⟩ hK hP hS hl.1 (rest := []) (Nat.le_of_ble_eq_true rfl) dX7_group0_185 h18 (fun H locs hP hS => ?_)
                  refine lv_istore (lv' := [(6, .int r8), (5, .int r7), (4, .int r6), (3, .int v3), (2, .int v2), (1, .int v1), (0, .ref (ad 0))]) hx hb dX7_group0_188 hl (by decide) rfl (fun ls hl => ?_)
                  refine lv_iload_n hx hb dX7_group0_190 rfl (lv_at hl 3 rfl) ?_
                  refine lv_iconst (v := 3) hx hb dX7_group0_191 (by decide) ?_
                  refine lv_icmp_ge (tgt := 224) hx hb dX7_group0_192 (by decide) (fun c14 => ?_) (fun c14 => ?_)
                  · have hs := if_t c14 hs
                    refine lv_iload_n hx hb dX7_group0_224 rfl (lv_at hl 4 rfl) ?_
                    refine lv_bipush (v := 6) hx hb dX7_group0_225 (by decide) ?_
                    refine lv_icmp_ne (tgt := 243) hx hb dX7_group0_227 (by decide) (fun c15 => ?_) (fun c15 => ?_)
                    · have hs := if_f c15 hs
                      refine lv_aload_n hx hb dX7_group0_243 rfl (lv_at hl 6 rfl) ?_
                      refine lv_aload_n hx hb dX7_group0_244 rfl (lv_at hl 6 rfl) ?_
                      refine lv_iload hx hb dX7_group0_245 (lv_at hl 0 rfl) ?_
                      refine lv_iload hx hb dX7_group0_247 (lv_at hl 1 rfl) ?_
                      refine lv_iconst (v := 0) hx hb dX7_group0_249 (by decide) ?_
                      refine lv_iload_n hx hb dX7_group0_250 rfl (lv_at hl 4 rfl) ?_
                      refine lv_iconst (v := 2) hx hb dX7_group0_251 (by decide) ?_
                      refine jn_e hs (fun K3 => ∀ (b4 : Bool) (H : Heap) (locs : List Loc) (ls : Array Slot), lv_has ls 8 [(4, .int r6)] → va_P D vwCl (wM ad cI cB S16) H → va_S (AX 11 ad s.heap.size) s.heap H locs → K3 b4 = some (ro, So) → W p l e rmX7_group0 s m ([.ref (ad 0)] : List Value).toArray below meth c H locs 0 0 (MQ below (uQ D (wM ad cI cB) (some (.int (zI ro)), So) (AX 11 ad s.heap.size)) ([.ref (ad 0)] : List Value).toArray s 0 0 (AX 11 ad s.heap.size)) (F0 m 260 ls [.int (zI b4), .int 0, .int r7, .int r8, .ref (ad 0), .ref (ad 0)])) ?_ (fun K3 J3 hs => ?_)
                      · intro b4 H locs ls hl hP hS hs
                        refine lv_iload hx hb dX7_group0_260 (lv_at hl 0 rfl) ?_
                        refine lv_iconst (v := 1) hx hb dX7_group0_262 (by decide) ?_
                        refine lv_iconst (v := 0) hx hb dX7_group0_263 (by decide) ?_
                        obtain ⟨r9, S17, h19, hs⟩ := bd_e hs
                        refine kX7_reckon C tM_X7_167 ⟨Nat.le_of_ble_eq_true rfl, Nat.le_of_ble_eq_true rfl⟩ ⟨Nat.le_of_ble_eq_true rfl, Nat.le_of_ble_eq_true rfl⟩ hK hP hS hl.1 (rest := [.ref (ad 0)]) (Nat.le_of_ble_eq_true rfl) dX7_group0_264 h19 (fun H locs hP hS => ?_)
                        refine lv_iload hx hb dX7_group0_267 (lv_at hl 0 rfl) ?_
                        obtain ⟨S18, h20, hs⟩ := bv_e hs
                        refine kX7_give C tM_X7_198 ⟨Nat.le_of_ble_eq_true rfl, Nat.le_of_ble_eq_true rfl⟩ ⟨Nat.le_of_ble_eq_true rfl, Nat.le_of_ble_eq_true rfl⟩ hK hP hS hl.1 (rest := []) (Nat.le_of_ble_eq_true rfl) dX7_group0_269 h20 (fun H locs hP hS => ?_)
                        refine lv_iconst (v := 1) hx hb dX7_group0_272 (by decide) ?_
                        exact u_zret (v := true) hx hb hr hlocks hP hS hs dX7_group0_273
                      ·
                        refine lv_icmp_ne (tgt := 259) hx hb dX7_group0_252 (by decide) (fun c16 => ?_) (fun c16 => ?_)
                        · have hs := if_f c16 hs
                          refine lv_iconst (v := 0) hx hb dX7_group0_259 (by decide) ?_
                          exact J3 false _ _ _ (lv_sub hl [2] rfl) hP hS hs
                        · have hs := if_t c16 hs
                          refine lv_iconst (v := 1) hx hb dX7_group0_255 (by decide) ?_
                          refine lv_goto (tgt := 260) hx hb dX7_group0_256 (by decide) ?_
                          exact J3 true _ _ _ (lv_sub hl [2] rfl) hP hS hs
                    · have hs := if_t c15 hs
                      refine lv_aload_n hx hb dX7_group0_230 rfl (lv_at hl 6 rfl) ?_
                      refine lv_iload hx hb dX7_group0_231 (lv_at hl 0 rfl) ?_
                      refine lv_iload hx hb dX7_group0_233 (lv_at hl 1 rfl) ?_
                      refine lv_iload hx hb dX7_group0_235 (lv_at hl 2 rfl) ?_
                      obtain ⟨S19, h21, hs⟩ := bv_e hs
                      refine kX7_compare C tM_X7_217 ⟨Nat.le_of_ble_eq_true rfl, Nat.le_of_ble_eq_true rfl⟩ ⟨Nat.le_of_ble_eq_true rfl, Nat.le_of_ble_eq_true rfl⟩ hK hP hS hl.1 (rest := []) (Nat.le_of_ble_eq_true rfl) dX7_group0_237 h21 (fun H locs hP hS => ?_)
                      refine lv_goto (tgt := 272) hx hb dX7_group0_240 (by decide) ?_
                      refine lv_iconst (v := 1) hx hb dX7_group0_272 (by decide) ?_
                      exact u_zret (v := true) hx hb hr hlocks hP hS hs dX7_group0_273
                  · have hs := if_f c14 hs
                    refine lv_iload_n hx hb dX7_group0_195 rfl (lv_at hl 3 rfl) ?_
                    refine lv_iload hx hb dX7_group0_196 (lv_at hl 0 rfl) ?_
                    refine lv_iload hx hb dX7_group0_198 (lv_at hl 1 rfl) ?_
                    obtain ⟨r10, S20, h22, hs⟩ := bd_e hs
                    refine kX7_mixed C tM_X7_181 ⟨Nat.le_of_ble_eq_true rfl, Nat.le_of_ble_eq_true rfl⟩ ⟨Nat.le_of_ble_eq_true rfl, Nat.le_of_ble_eq_true rfl⟩ hK hP hS hl.1 (rest := []) (Nat.le_of_ble_eq_true rfl) dX7_group0_200 h22 (fun H locs hP hS => ?_)
                    refine lv_istore (lv' := [(7, .int r10), (6, .int r8), (5, .int r7), (4, .int r6), (3, .int v3), (2, .int v2), (1, .int v1), (0, .ref (ad 0))]) hx hb dX7_group0_203 hl (by decide) rfl (fun ls hl => ?_)
                    refine lv_aload_n hx hb dX7_group0_205 rfl (lv_at hl 7 rfl) ?_
                    refine lv_iload hx hb dX7_group0_206 (lv_at hl 0 rfl) ?_
                    refine lv_iload hx hb dX7_group0_208 (lv_at hl 3 rfl) ?_
                    obtain ⟨S21, h23, hs⟩ := bv_e hs
                    refine kX7_logic C tM_X7_214 ⟨Nat.le_of_ble_eq_true rfl, Nat.le_of_ble_eq_true rfl⟩ ⟨Nat.le_of_ble_eq_true rfl, Nat.le_of_ble_eq_true rfl⟩ hK hP hS hl.1 (rest := []) (Nat.le_of_ble_eq_true rfl) dX7_group0_210 h23 (fun H locs hP hS => ?_)
                    refine lv_aload_n hx hb dX7_group0_213 rfl (lv_at hl 7 rfl) ?_
                    refine lv_iload hx hb dX7_group0_214 (lv_at hl 0 rfl) ?_
                    refine lv_iload hx hb dX7_group0_216 (lv_at hl 3 rfl) ?_
                    obtain ⟨S22, h24, hs⟩ := bv_e hs
                    refine kX7_give C tM_X7_198 ⟨Nat.le_of_ble_eq_true rfl, Nat.le_of_ble_eq_true rfl⟩ ⟨Nat.le_of_ble_eq_true rfl, Nat.le_of_ble_eq_true rfl⟩ hK hP hS hl.1 (rest := []) (Nat.le_of_ble_eq_true rfl) dX7_group0_218 h24 (fun H locs hP hS => ?_)
                    refine lv_goto (tgt := 272) hx hb dX7_group0_221 (by decide) ?_
                    refine lv_iconst (v := 1) hx hb dX7_group0_272 (by decide) ?_
                    exact u_zret (v := true) hx hb hr hlocks hP hS hs dX7_group0_273
                · have hs := if_t c13 hs
                  refine lv_iconst (v := 0) hx hb dX7_group0_153 (by decide) ?_
                  exact u_zret (v := false) hx hb hr hlocks hP hS hs dX7_group0_154
          · have hs := if_f c10 hs
            refine lv_iload_n hx hb dX7_group0_116 rfl (lv_at hl 0 rfl) ?_
            refine lv_iconst (v := 3) hx hb dX7_group0_117 (by decide) ?_
            refine lv_icmp_ge (tgt := 127) hx hb dX7_group0_118 (by decide) (fun c17 => ?_) (fun c17 => ?_)
            · have hs := if_t c17 hs
              refine lv_iload_n hx hb dX7_group0_127 rfl (lv_at hl 1 rfl) ?_
              refine lv_bipush (v := 7) hx hb dX7_group0_128 (by decide) ?_
              refine lv_icmp_eq (tgt := 153) hx hb dX7_group0_130 (by decide) (fun c18 => ?_) (fun c18 => ?_)
              · have hs := if_t c18 hs
                refine lv_iconst (v := 0) hx hb dX7_group0_153 (by decide) ?_
                exact u_zret (v := false) hx hb hr hlocks hP hS hs dX7_group0_154
              · have hs := if_f c18 hs
                refine lv_iload_n hx hb dX7_group0_133 rfl (lv_at hl 2 rfl) ?_
                refine lv_iconst (v := 3) hx hb dX7_group0_134 (by decide) ?_
                refine lv_icmp_eq (tgt := 153) hx hb dX7_group0_135 (by decide) (fun c19 => ?_) (fun c19 => ?_)
                · have hs := if_t c19 hs
                  refine lv_iconst (v := 0) hx hb dX7_group0_153 (by decide) ?_
                  exact u_zret (v := false) hx hb hr hlocks hP hS hs dX7_group0_154
                · have hs := if_f c19 hs
                  refine lv_aload_n hx hb dX7_group0_138 rfl (lv_at hl 3 rfl) ?_
                  refine gM_X7_op hx hb hT hown hK hP (hT _ tF_X7_174) dX7_group0_139 ?_
                  refine lv_bipush (v := 63) hx hb dX7_group0_142 (by decide) ?_
                  refine lv_iand hx hb dX7_group0_144 ?_
                  refine lv_iconst (v := 4) hx hb dX7_group0_145 (by decide) ?_
                  refine lv_iconst (v := 1) hx hb dX7_group0_146 (by decide) ?_
                  obtain ⟨b5, S23, h25, hs⟩ := bd_e hs
                  refine kX7_fits C tM_X7_188 ⟨Nat.le_of_ble_eq_true rfl, Nat.le_of_ble_eq_true rfl⟩ ⟨Nat.le_of_ble_eq_true rfl, Nat.le_of_ble_eq_true rfl⟩ hK hP hS hl.1 (rest := []) (Nat.le_of_ble_eq_true rfl) dX7_group0_147 h25 (fun H locs hP hS => ?_)
                  refine lv_if_ne (tgt := 155) hx hb dX7_group0_150 (by decide) (fun c20 => ?_) (fun c20 => ?_)
                  · have hs := if_f c20 hs
                    refine lv_iload_n hx hb dX7_group0_155 rfl (lv_at hl 2 rfl) ?_
                    obtain ⟨r11, S24, h26, hs⟩ := bd_e hs
                    refine kX7_sizeOf C tM_X7_211 ⟨Nat.le_of_ble_eq_true rfl, Nat.le_of_ble_eq_true rfl⟩ ⟨Nat.le_of_ble_eq_true rfl, Nat.le_of_ble_eq_true rfl⟩ hK hP hS hl.1 (rest := []) (Nat.le_of_ble_eq_true rfl) dX7_group0_156 h26 (fun H locs hP hS => ?_)
                    refine lv_istore (lv' := [(4, .int r11), (3, .int v3), (2, .int v2), (1, .int v1), (0, .ref (ad 0))]) hx hb dX7_group0_159 hl (by decide) rfl (fun ls hl => ?_)
                    refine lv_aload_n hx hb dX7_group0_161 rfl (lv_at hl 4 rfl) ?_
                    refine lv_iload hx hb dX7_group0_162 (lv_at hl 0 rfl) ?_
                    obtain ⟨r12, S25, h27, hs⟩ := bd_e hs
                    refine kX7_immediate C tM_X7_141 ⟨Nat.le_of_ble_eq_true rfl, Nat.le_of_ble_eq_true rfl⟩ ⟨Nat.le_of_ble_eq_true rfl, Nat.le_of_ble_eq_true rfl⟩ hK hP hS hl.1 (rest := []) (Nat.le_of_ble_eq_true rfl) dX7_group0_164 h27 (fun H locs hP hS => ?_)
                    refine lv_istore (lv' := [(5, .int r12), (4, .int r11), (3, .int v3), (2, .int v2), (1, .int v1), (0, .ref (ad 0))]) hx hb dX7_group0_167 hl (by decide) rfl (fun ls hl => ?_)
                    refine lv_aload_n hx hb dX7_group0_169 rfl (lv_at hl 5 rfl) ?_
                    refine lv_aload_n hx hb dX7_group0_170 rfl (lv_at hl 5 rfl) ?_
                    refine gM_X7_op hx hb hT hown hK hP (hT _ tF_X7_174) dX7_group0_171 ?_
                    refine lv_bipush (v := 63) hx hb dX7_group0_174 (by decide) ?_
                    refine lv_iand hx hb dX7_group0_176 ?_
                    refine lv_iload hx hb dX7_group0_177 (lv_at hl 1 rfl) ?_
                    obtain ⟨S26, h28, hs⟩ := bv_e hs
                    refine kX7_operand C tM_X7_192 ⟨Nat.le_of_ble_eq_true rfl, Nat.le_of_ble_eq_true rfl⟩ ⟨Nat.le_of_ble_eq_true rfl, Nat.le_of_ble_eq_true rfl⟩ hK hP hS hl.1 (rest := []) (Nat.le_of_ble_eq_true rfl) dX7_group0_179 h28 (fun H locs hP hS => ?_)
                    refine lv_aload_n hx hb dX7_group0_182 rfl (lv_at hl 5 rfl) ?_
                    refine lv_iload hx hb dX7_group0_183 (lv_at hl 1 rfl) ?_
                    obtain ⟨r13, S27, h29, hs⟩ := bd_e hs
                    refine kX7_take C tM_X7_195 ⟨Nat.le_of_ble_eq_true rfl, Nat.le_of_ble_eq_true rfl⟩ ⟨Nat.le_of_ble_eq_true rfl, Nat.le_of_ble_eq_true rfl⟩ hK hP hS hl.1 (rest := []) (Nat.le_of_ble_eq_true rfl) dX7_group0_185 h29 (fun H locs hP hS => ?_)
                    refine lv_istore (lv' := [(6, .int r13), (5, .int r12), (4, .int r11), (3, .int v3), (2, .int v2), (1, .int v1), (0, .ref (ad 0))]) hx hb dX7_group0_188 hl (by decide) rfl (fun ls hl => ?_)
                    refine lv_iload_n hx hb dX7_group0_190 rfl (lv_at hl 3 rfl) ?_
                    refine lv_iconst (v := 3) hx hb dX7_group0_191 (by decide) ?_
                    refine lv_icmp_ge (tgt := 224) hx hb dX7_group0_192 (by decide) (fun c21 => ?_) (fun c21 => ?_)
                    · have hs := if_t c21 hs
                      refine lv_iload_n hx hb dX7_group0_224 rfl (lv_at hl 4 rfl) ?_
                      refine lv_bipush (v := 6) hx hb dX7_group0_225 (by decide) ?_
                      refine lv_icmp_ne (tgt := 243) hx hb dX7_group0_227 (by decide) (fun c22 => ?_) (fun c22 => ?_)
                      · have hs := if_f c22 hs
                        refine lv_aload_n hx hb dX7_group0_243 rfl (lv_at hl 6 rfl) ?_
                        refine lv_aload_n hx hb dX7_group0_244 rfl (lv_at hl 6 rfl) ?_
                        refine lv_iload hx hb dX7_group0_245 (lv_at hl 0 rfl) ?_
                        refine lv_iload hx hb dX7_group0_247 (lv_at hl 1 rfl) ?_
                        refine lv_iconst (v := 0) hx hb dX7_group0_249 (by decide) ?_
                        refine lv_iload_n hx hb dX7_group0_250 rfl (lv_at hl 4 rfl) ?_
                        refine lv_iconst (v := 2) hx hb dX7_group0_251 (by decide) ?_
                        refine jn_e hs (fun K4 => ∀ (b6 : Bool) (H : Heap) (locs : List Loc) (ls : Array Slot), lv_has ls 8 [(4, .int r11)] → va_P D vwCl (wM ad cI cB S27) H → va_S (AX 11 ad s.heap.size) s.heap H locs → K4 b6 = some (ro, So) → W p l e rmX7_group0 s m ([.ref (ad 0)] : List Value).toArray below meth c H locs 0 0 (MQ below (uQ D (wM ad cI cB) (some (.int (zI ro)), So) (AX 11 ad s.heap.size)) ([.ref (ad 0)] : List Value).toArray s 0 0 (AX 11 ad s.heap.size)) (F0 m 260 ls [.int (zI b6), .int 0, .int r12, .int r13, .ref (ad 0), .ref (ad 0)])) ?_ (fun K4 J4 hs => ?_)
                        · intro b6 H locs ls hl hP hS hs
                          refine lv_iload hx hb dX7_group0_260 (lv_at hl 0 rfl) ?_
                          refine lv_iconst (v := 1) hx hb dX7_group0_262 (by decide) ?_
                          refine lv_iconst (v := 0) hx hb dX7_group0_263 (by decide) ?_
                          obtain ⟨r14, S28, h30, hs⟩ := bd_e hs
                          refine kX7_reckon C tM_X7_167 ⟨Nat.le_of_ble_eq_true rfl, Nat.le_of_ble_eq_true rfl⟩ ⟨Nat.le_of_ble_eq_true rfl, Nat.le_of_ble_eq_true rfl⟩ hK hP hS hl.1 (rest := [.ref (ad 0)]) (Nat.le_of_ble_eq_true rfl) dX7_group0_264 h30 (fun H locs hP hS => ?_)
                          refine lv_iload hx hb dX7_group0_267 (lv_at hl 0 rfl) ?_
                          obtain ⟨S29, h31, hs⟩ := bv_e hs
                          refine kX7_give C tM_X7_198 ⟨Nat.le_of_ble_eq_true rfl, Nat.le_of_ble_eq_true rfl⟩ ⟨Nat.le_of_ble_eq_true rfl, Nat.le_of_ble_eq_true rfl⟩ hK hP hS hl.1 (rest := []) (Nat.le_of_ble_eq_true rfl) dX7_group0_269 h31 (fun H locs hP hS => ?_)
                          refine lv_iconst (v := 1) hx hb dX7_group0_272 (by decide) ?_
                          exact u_zret (v := true) hx hb hr hlocks hP hS hs dX7_group0_273
                        ·
                          refine lv_icmp_ne (tgt := 259) hx hb dX7_group0_252 (by decide) (fun c23 => ?_) (fun c23 => ?_)
                          · have hs := if_f c23 hs
                            refine lv_iconst (v := 0) hx hb dX7_group0_259 (by decide) ?_
                            exact J4 false _ _ _ (lv_sub hl [2] rfl) hP hS hs
                          · have hs := if_t c23 hs
                            refine lv_iconst (v := 1) hx hb dX7_group0_255 (by decide) ?_
                            refine lv_goto (tgt := 260) hx hb dX7_group0_256 (by decide) ?_
                            exact J4 true _ _ _ (lv_sub hl [2] rfl) hP hS hs
                      · have hs := if_t c22 hs
                        refine lv_aload_n hx hb dX7_group0_230 rfl (lv_at hl 6 rfl) ?_
                        refine lv_iload hx hb dX7_group0_231 (lv_at hl 0 rfl) ?_
                        refine lv_iload hx hb dX7_group0_233 (lv_at hl 1 rfl) ?_
                        refine lv_iload hx hb dX7_group0_235 (lv_at hl 2 rfl) ?_
                        obtain ⟨S30, h32, hs⟩ := bv_e hs
                        refine kX7_compare C tM_X7_217 ⟨Nat.le_of_ble_eq_true rfl, Nat.le_of_ble_eq_true rfl⟩ ⟨Nat.le_of_ble_eq_true rfl, Nat.le_of_ble_eq_true rfl⟩ hK hP hS hl.1 (rest := []) (Nat.le_of_ble_eq_true rfl) dX7_group0_237 h32 (fun H locs hP hS => ?_)
                        refine lv_goto (tgt := 272) hx hb dX7_group0_240 (by decide) ?_
                        refine lv_iconst (v := 1) hx hb dX7_group0_272 (by decide) ?_
                        exact u_zret (v := true) hx hb hr hlocks hP hS hs dX7_group0_273
                    · have hs := if_f c21 hs
                      refine lv_iload_n hx hb dX7_group0_195 rfl (lv_at hl 3 rfl) ?_
                      refine lv_iload hx hb dX7_group0_196 (lv_at hl 0 rfl) ?_
                      refine lv_iload hx hb dX7_group0_198 (lv_at hl 1 rfl) ?_
                      obtain ⟨r15, S31, h33, hs⟩ := bd_e hs
                      refine kX7_mixed C tM_X7_181 ⟨Nat.le_of_ble_eq_true rfl, Nat.le_of_ble_eq_true rfl⟩ ⟨Nat.le_of_ble_eq_true rfl, Nat.le_of_ble_eq_true rfl⟩ hK hP hS hl.1 (rest := []) (Nat.le_of_ble_eq_true rfl) dX7_group0_200 h33 (fun H locs hP hS => ?_)
                      refine lv_istore (lv' := [(7, .int r15), (6, .int r13), (5, .int r12), (4, .int r11), (3, .int v3), (2, .int v2), (1, .int v1), (0, .ref (ad 0))]) hx hb dX7_group0_203 hl (by decide) rfl (fun ls hl => ?_)
                      refine lv_aload_n hx hb dX7_group0_205 rfl (lv_at hl 7 rfl) ?_
                      refine lv_iload hx hb dX7_group0_206 (lv_at hl 0 rfl) ?_
                      refine lv_iload hx hb dX7_group0_208 (lv_at hl 3 rfl) ?_
                      obtain ⟨S32, h34, hs⟩ := bv_e hs
                      refine kX7_logic C tM_X7_214 ⟨Nat.le_of_ble_eq_true rfl, Nat.le_of_ble_eq_true rfl⟩ ⟨Nat.le_of_ble_eq_true rfl, Nat.le_of_ble_eq_true rfl⟩ hK hP hS hl.1 (rest := []) (Nat.le_of_ble_eq_true rfl) dX7_group0_210 h34 (fun H locs hP hS => ?_)
                      refine lv_aload_n hx hb dX7_group0_213 rfl (lv_at hl 7 rfl) ?_
                      refine lv_iload hx hb dX7_group0_214 (lv_at hl 0 rfl) ?_
                      refine lv_iload hx hb dX7_group0_216 (lv_at hl 3 rfl) ?_
                      obtain ⟨S33, h35, hs⟩ := bv_e hs
                      refine kX7_give C tM_X7_198 ⟨Nat.le_of_ble_eq_true rfl, Nat.le_of_ble_eq_true rfl⟩ ⟨Nat.le_of_ble_eq_true rfl, Nat.le_of_ble_eq_true rfl⟩ hK hP hS hl.1 (rest := []) (Nat.le_of_ble_eq_true rfl) dX7_group0_218 h35 (fun H locs hP hS => ?_)
                      refine lv_goto (tgt := 272) hx hb dX7_group0_221 (by decide) ?_
                      refine lv_iconst (v := 1) hx hb dX7_group0_272 (by decide) ?_
                      exact u_zret (v := true) hx hb hr hlocks hP hS hs dX7_group0_273
                  · have hs := if_t c20 hs
                    refine lv_iconst (v := 0) hx hb dX7_group0_153 (by decide) ?_
                    exact u_zret (v := false) hx hb hr hlocks hP hS hs dX7_group0_154
            · have hs := if_f c17 hs
              refine lv_aload_n hx hb dX7_group0_121 rfl (lv_at hl 3 rfl) ?_
              refine lv_iload_n hx hb dX7_group0_122 rfl (lv_at hl 0 rfl) ?_
              obtain ⟨b7, S34, h36, hs⟩ := bd_e hs
              refine kX7_toFlags C tM_X7_208 ⟨Nat.le_of_ble_eq_true rfl, Nat.le_of_ble_eq_true rfl⟩ ⟨Nat.le_of_ble_eq_true rfl, Nat.le_of_ble_eq_true rfl⟩ hK hP hS hl.1 (rest := []) (Nat.le_of_ble_eq_true rfl) dX7_group0_123 h36 (fun H locs hP hS => ?_)
              exact u_zret (v := b7) hx hb hr hlocks hP hS hs dX7_group0_126
      ·
        refine lv_if_ne (tgt := 79) hx hb dX7_group0_72 (by decide) (fun c24 => ?_) (fun c24 => ?_)
        · have hs := if_f c24 hs
          refine lv_iload_n hx hb dX7_group0_79 rfl (lv_at hl 0 rfl) ?_
          refine lv_iconst (v := 1) hx hb dX7_group0_80 (by decide) ?_
          refine lv_icmp_ne (tgt := 88) hx hb dX7_group0_81 (by decide) (fun c25 => ?_) (fun c25 => ?_)
          · have hs := if_f c25 hs
            refine lv_iload_n hx hb dX7_group0_88 rfl (lv_at hl 0 rfl) ?_
            refine lv_iconst (v := 5) hx hb dX7_group0_89 (by decide) ?_
            refine lv_icmp_ne (tgt := 97) hx hb dX7_group0_90 (by decide) (fun c26 => ?_) (fun c26 => ?_)
            · have hs := if_f c26 hs
              refine lv_iconst (v := 3) hx hb dX7_group0_97 (by decide) ?_
              exact J1 3 _ _ _ (lv_sub hl [0, 1, 2] rfl) hP hS hs
            · have hs := if_t c26 hs
              refine lv_iconst (v := 2) hx hb dX7_group0_93 (by decide) ?_
              refine lv_goto (tgt := 98) hx hb dX7_group0_94 (by decide) ?_
              exact J1 2 _ _ _ (lv_sub hl [0, 1, 2] rfl) hP hS hs
          · have hs := if_t c25 hs
            refine lv_iconst (v := 1) hx hb dX7_group0_84 (by decide) ?_
            refine lv_goto (tgt := 98) hx hb dX7_group0_85 (by decide) ?_
            exact J1 1 _ _ _ (lv_sub hl [0, 1, 2] rfl) hP hS hs
        · have hs := if_t c24 hs
          refine lv_iconst (v := 0) hx hb dX7_group0_75 (by decide) ?_
          refine lv_goto (tgt := 98) hx hb dX7_group0_76 (by decide) ?_
          exact J1 0 _ _ _ (lv_sub hl [0, 1, 2] rfl) hP hS hs
    · have hs := if_t c2 hs
      refine lv_aload_n hx hb dX7_group0_64 rfl (lv_at hl 2 rfl) ?_
      refine lv_iload_n hx hb dX7_group0_65 rfl (lv_at hl 1 rfl) ?_
      refine lv_iconst (v := 1) hx hb dX7_group0_66 (by decide) ?_
      obtain ⟨b8, S35, h37, hs⟩ := bd_e hs
      refine kX7_oneBit C tM_X7_204 ⟨Nat.le_of_ble_eq_true rfl, Nat.le_of_ble_eq_true rfl⟩ ⟨Nat.le_of_ble_eq_true rfl, Nat.le_of_ble_eq_true rfl⟩ hK hP hS hl.1 (rest := []) (Nat.le_of_ble_eq_true rfl) dX7_group0_67 h37 (fun H locs hP hS => ?_)
      exact u_zret (v := b8) hx hb hr hlocks hP hS hs dX7_group0_70
  · have hs := if_f c1 hs
    refine lv_aload_n hx hb dX7_group0_32 rfl (lv_at hl 2 rfl) ?_
    refine gM_X7_op hx hb hT hown hK hP (hT _ tF_X7_174) dX7_group0_33 ?_
    refine lv_iconst (v := 3) hx hb dX7_group0_36 (by decide) ?_
    refine lv_ishr hx hb dX7_group0_37 ?_
    refine lv_bipush (v := 7) hx hb dX7_group0_38 (by decide) ?_
    refine lv_iand hx hb dX7_group0_40 ?_
    refine lv_iconst (v := 1) hx hb dX7_group0_41 (by decide) ?_
    refine lv_icmp_ne (tgt := 52) hx hb dX7_group0_42 (by decide) (fun c27 => ?_) (fun c27 => ?_)
    · have hs := if_f c27 hs
      refine lv_aload_n hx hb dX7_group0_52 rfl (lv_at hl 2 rfl) ?_
      refine lv_iload_n hx hb dX7_group0_53 rfl (lv_at hl 1 rfl) ?_
      refine lv_iconst (v := 0) hx hb dX7_group0_54 (by decide) ?_
      obtain ⟨b9, S36, h38, hs⟩ := bd_e hs
      refine kX7_oneBit C tM_X7_204 ⟨Nat.le_of_ble_eq_true rfl, Nat.le_of_ble_eq_true rfl⟩ ⟨Nat.le_of_ble_eq_true rfl, Nat.le_of_ble_eq_true rfl⟩ hK hP hS hl.1 (rest := []) (Nat.le_of_ble_eq_true rfl) dX7_group0_55 h38 (fun H locs hP hS => ?_)
      exact u_zret (v := b9) hx hb hr hlocks hP hS hs dX7_group0_58
    · have hs := if_t c27 hs
      refine lv_aload_n hx hb dX7_group0_45 rfl (lv_at hl 2 rfl) ?_
      obtain ⟨b10, S37, h39, hs⟩ := bd_e hs
      refine kX7_movePeripheral C tM_X7_201 ⟨Nat.le_of_ble_eq_true rfl, Nat.le_of_ble_eq_true rfl⟩ ⟨Nat.le_of_ble_eq_true rfl, Nat.le_of_ble_eq_true rfl⟩ hK hP hS hl.1 (rest := []) (Nat.le_of_ble_eq_true rfl) dX7_group0_46 h39 (fun H locs hP hS => ?_)
      refine lv_goto (tgt := 58) hx hb dX7_group0_49 (by decide) ?_
      exact u_zret (v := b10) hx hb hr hlocks hP hS hs dX7_group0_58
theorem kX7_group0 {p : Program} {l : Launch} {e : Env} {R : Room} {s : State} {m : MethodId} {args : Array Value} {below : List Frame} {meth : Method} {c : Code} {H : Heap} {locs : List Loc} {cells slots : Nat} {Q : State → Prop} {cc : ByteArray} {pc nL : Nat} {ls : Array Slot} {rest : List Value} {D : va_G} {ad : Nat → Nat} {cI cB : ClassId} {en : Nat → Nat} {S : St} {own : String} {index : Nat}  {ro : Bool} {So : St} (C : CallFix p m c cc nL s args wG own) (hlk : Cond.methodLink own index yX7_group0 ∈ wG) (hR : rmX7_group0.frames + 1 ≤ R.frames ∧ 8 + (8 + 11) + rmX7_group0.locals ≤ R.locals) (hc : cells ≤ R.cells ∧ slots ≤ R.slots) (hK : KM D ad cI cB en s) (hP : va_P D vwCl (wM ad cI cB S) H) (hS : va_S (AX 11 ad s.heap.size) s.heap H locs) (hls : ls.size = nL) (hrest : (rest.map fun v => v.category).sum ≤ 8) (hd : decode cc pc = .ok (.invokevirtual index, 3)) (hs : fX7_group0  S = some (ro, So)) (k : ∀ (H : Heap) (locs : List Loc), va_P D vwCl (wM ad cI cB So) H → va_S (AX 11 ad s.heap.size) s.heap H locs → W p l e R s m args below meth c H locs cells slots Q (F0 m (pc + 3) ls (.int (zI ro) :: rest))) : W p l e R s m args below meth c H locs cells slots Q (F0 m pc ls (.ref (ad 0) :: rest)) :=
  u_callV (n := 0) (mX7_group0 l D ad cI cB en S  ro So hs) C uK_M (wg_V hlk tI_X7_group0 tS_X7_group0 tN_X7 tK_X7_group0) rfl rfl rfl (by decide +kernel) hR rfl (va_recv hK.1 hP (ci := 6) (q0 := 0) rfl rfl) hK hP hS hls hrest hd hc rfl k
