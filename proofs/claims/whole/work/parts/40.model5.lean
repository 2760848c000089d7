def fX7_link (x1 : Int32) (S : St) : Option St :=
    (bd (fX7_extension S) fun r1 S1 => (lt ((r1.toInt16.toInt32) : Int32) fun v1 => (bd (fX7_getA x1 S1) fun r2 S2 => (bv (fX7_push r2 4 S2) fun S3 => (bd (fX7_getA 7 S3) fun r3 S4 => (bv (fX7_setA x1 r3 S4) fun S5 => (bd (fX7_getA 7 S5) fun r4 S6 => (bv (fX7_setA 7 (r4 + v1) S6) fun S7 => (some S7)))))))))
abbrev rmX7_link : Room := { frames := 4, cells := 0, slots := 0, locals := 91 }
set_option maxRecDepth 100000 in
set_option maxHeartbeats 4000000 in
theorem mX7_link (l : Launch) (D : va_G) (ad : Nat → Nat) (cI cB : ClassId) (en : Nat → Nat) (S : St) (x1 : Int32) (So : St) (hs : fX7_link x1 S = some So) : uM l yX7_link (wg yX7_link cX7_link 3 none) rmX7_link (KM D ad cI cB en) D (wM ad cI cB) (AX 11 ad) [.ref (ad 0), .int x1] S (none, So) := by
  refine uM_start (by decide) rfl ?_
  intro p e s m below meth c hx hb hr hlocks hml hown hts hK hP
  have hT : ∀ w ∈ wG, w.before _ s = true := fun w h => hts w (List.mem_cons_of_mem _ h)
  have hS : va_S (AX 11 ad s.heap.size) s.heap s.heap [] := va_S.rf
  have hown : s.vm.findClass RX7 = some m.cls := hown
  have C : CallFix p m c cX7_link 3 s _ wG RX7 := ⟨hx, hb, hml, hown, hT⟩
  have hl := lv_entry ([.ref (ad 0), .int x1]) (n := 3) (Nat.le_of_ble_eq_true rfl)
  rw [lg_entry_eq]
  generalize (lg_sl ([.ref (ad 0), .int x1]) ++ List.replicate (3 - (lg_sl ([.ref (ad 0), .int x1])).length) Slot.unset).toArray = ls at hl ⊢
  have hl : lv_has ls 3 [(0, .ref (ad 0)), (1, .int x1)] := hl
  unfold fX7_link at hs
  refine lv_aload_n hx hb dX7_link_0 rfl (lv_at hl 0 rfl) ?_
  obtain ⟨r1, S1, h1, hs⟩ := bd_e hs
  refine kX7_extension C tM_X7_125 ⟨Nat.le_of_ble_eq_true rfl, Nat.le_of_ble_eq_true rfl⟩ ⟨Nat.le_of_ble_eq_true rfl, Nat.le_of_ble_eq_true rfl⟩ hK hP hS hl.1 (rest := []) (Nat.le_of_ble_eq_true rfl) dX7_link_1 h1 (fun H locs hP hS => ?_)
  refine lv_i2s (v := (r1.toInt16.toInt32)) hx hb dX7_link_4 rfl ?_
  obtain ⟨v1, h2, hs⟩ := lt_e hs
  refine u_top h2 ?_
  refine lv_istore_n (lv' := [(2, .int v1), (0, .ref (ad 0)), (1, .int x1)]) hx hb dX7_link_5 rfl hl (by decide) rfl (fun ls hl => ?_)
  refine lv_aload_n hx hb dX7_link_6 rfl (lv_at hl 1 rfl) ?_
  refine lv_aload_n hx hb dX7_link_7 rfl (lv_at hl 1 rfl) ?_
  refine lv_iload_n hx hb dX7_link_8 rfl (lv_at hl 2 rfl) ?_
  obtain ⟨r2, S2, h3, hs⟩ := bd_e hs
  refine kX7_getA C tM_X7_70 ⟨Nat.le_of_ble_eq_true rfl, Nat.le_of_ble_eq_true rfl⟩ ⟨Nat.le_of_ble_eq_true rfl, Nat.le_of_ble_eq_true rfl⟩ hK hP hS hl.1 (rest := [.ref (ad 0)]) (Nat.le_of_ble_eq_true rfl) dX7_link_9 h3 (fun H locs hP hS => ?_)
  refine lv_iconst (v := 4) hx hb dX7_link_12 (by decide) ?_
  obtain ⟨S3, h4, hs⟩ := bv_e hs
  refine kX7_push C tM_X7_230 ⟨Nat.le_of_ble_eq_true rfl, Nat.le_of_ble_eq_true rfl⟩ ⟨Nat.le_of_ble_eq_true rfl, Nat.le_of_ble_eq_true rfl⟩ hK hP hS hl.1 (rest := []) (Nat.le_of_ble_eq_true rfl) dX7_link_13 h4 (fun H locs hP hS => ?_)
  refine lv_aload_n hx hb dX7_link_16 rfl (lv_at hl 1 rfl) ?_
  refine lv_iload_n hx hb dX7_link_17 rfl (lv_at hl 2 rfl) ?_
  refine lv_aload_n hx hb dX7_link_18 rfl (lv_at hl 1 rfl) ?_
  refine lv_bipush (v := 7) hx hb dX7_link_19 (by decide) ?_
  obtain ⟨r3, S4, h5, hs⟩ := bd_e hs
  refine kX7_getA C tM_X7_70 ⟨Nat.le_of_ble_eq_true rfl, Nat.le_of_ble_eq_true rfl⟩ ⟨Nat.le_of_ble_eq_true rfl, Nat.le_of_ble_eq_true rfl⟩ hK hP hS hl.1 (rest := [.int x1, .ref (ad 0)]) (Nat.le_of_ble_eq_true rfl) dX7_link_21 h5 (fun H locs hP hS => ?_)
  obtain ⟨S5, h6, hs⟩ := bv_e hs
  refine kX7_setA C tM_X7_74 ⟨Nat.le_of_ble_eq_true rfl, Nat.le_of_ble_eq_true rfl⟩ ⟨Nat.le_of_ble_eq_true rfl, Nat.le_of_ble_eq_true rfl⟩ hK hP hS hl.1 (rest := []) (Nat.le_of_ble_eq_true rfl) dX7_link_24 h6 (fun H locs hP hS => ?_)
  refine lv_aload_n hx hb dX7_link_27 rfl (lv_at hl 1 rfl) ?_
  refine lv_bipush (v := 7) hx hb dX7_link_28 (by decide) ?_
  refine lv_aload_n hx hb dX7_link_30 rfl (lv_at hl 1 rfl) ?_
  refine lv_bipush (v := 7) hx hb dX7_link_31 (by decide) ?_
  obtain ⟨r4, S6, h7, hs⟩ := bd_e hs
  refine kX7_getA C tM_X7_70 ⟨Nat.le_of_ble_eq_true rfl, Nat.le_of_ble_eq_true rfl⟩ ⟨Nat.le_of_ble_eq_true rfl, Nat.le_of_ble_eq_true rfl⟩ hK hP hS hl.1 (rest := [.int 7, .ref (ad 0)]) (Nat.le_of_ble_eq_true rfl) dX7_link_33 h7 (fun H locs hP hS => ?_)
  refine lv_iload_n hx hb dX7_link_36 rfl (lv_at hl 0 rfl) ?_
  refine lv_iadd hx hb dX7_link_37 ?_
  obtain ⟨S7, h8, hs⟩ := bv_e hs
  refine kX7_setA C tM_X7_74 ⟨Nat.le_of_ble_eq_true rfl, Nat.le_of_ble_eq_true rfl⟩ ⟨Nat.le_of_ble_eq_true rfl, Nat.le_of_ble_eq_true rfl⟩ hK hP hS hl.1 (rest := []) (Nat.le_of_ble_eq_true rfl) dX7_link_38 h8 (fun H locs hP hS => ?_)
  exact u_vret hx hb hr hlocks hP hS hs dX7_link_41
theorem kX7_link {p : Program} {l : Launch} {e : Env} {R : Room} {s : State} {m : MethodId} {args : Array Value} {below : List Frame} {meth : Method} {c : Code} {H : Heap} {locs : List Loc} {cells slots : Nat} {Q : State → Prop} {cc : ByteArray} {pc nL : Nat} {ls : Array Slot} {rest : List Value} {D : va_G} {ad : Nat → Nat} {cI cB : ClassId} {en : Nat → Nat} {S : St} {own : String} {index : Nat} {x1 : Int32} {So : St} (C : CallFix p m c cc nL s args wG own) (hlk : Cond.methodLink own index yX7_link ∈ wG) (hR : rmX7_link.frames + 1 ≤ R.frames ∧ 8 + (3 + 11) + rmX7_link.locals ≤ R.locals) (hc : cells ≤ R.cells ∧ slots ≤ R.slots) (hK : KM D ad cI cB en s) (hP : va_P D vwCl (wM ad cI cB S) H) (hS : va_S (AX 11 ad s.heap.size) s.heap H locs) (hls : ls.size = nL) (hrest : (rest.map fun v => v.category).sum ≤ 8) (hd : decode cc pc = .ok (.invokevirtual index, 3)) (hs : fX7_link x1 S = some So) (k : ∀ (H : Heap) (locs : List Loc), va_P D vwCl (wM ad cI cB So) H → va_S (AX 11 ad s.heap.size) s.heap H locs → W p l e R s m args below meth c H locs cells slots Q (F0 m (pc + 3) ls (rest))) : W p l e R s m args below meth c H locs cells slots Q (F0 m pc ls (.int x1 :: .ref (ad 0) :: rest)) :=
  u_callV (n := 1) (mX7_link l D ad cI cB en S x1 So hs) C uK_M (wg_V hlk tI_X7_link tS_X7_link tN_X7 tK_X7_link) rfl rfl rfl (by decide +kernel) hR rfl (va_recv hK.1 hP (ci := 6) (q0 := 0) rfl rfl) hK hP hS hls hrest hd hc rfl k
def fX7_back (x1 : Int32) (S : St) : Option St :=
    (jn (fun (v1 : Int32) (S1 : St) => (bd (fX7_pop 4 S1) fun r1 S2 => (if (S2.1 6) = 0 then (lt (sI S2 1 r1) fun S3 => (if x1 = 3 then (lt (sI S3 2 (v1 &&& 42783)) fun S6 => (some S6))
    else (if x1 = 7 then (lt (sI S3 2 (((S3.1 2) &&& (-256 : Int32)) ||| (v1 &&& 31))) fun S5 => (some S5))
    else (lt (sI S3 2 (S3.1 2)) fun S4 => (some S4)))))
    else (some S2)))) fun K1 =>
    (if x1 = 5 then (K1 (S.1 2) S)
    else (bd (fX7_pop 2 S) fun r2 S7 => (K1 r2 S7))))
abbrev rmX7_back : Room := { frames := 4, cells := 0, slots := 0, locals := 89 }
set_option maxRecDepth 100000 in
set_option maxHeartbeats 4000000 in
theorem mX7_back (l : Launch) (D : va_G) (ad : Nat → Nat) (cI cB : ClassId) (en : Nat → Nat) (S : St) (x1 : Int32) (So : St) (hs : fX7_back x1 S = some So) : uM l yX7_back (wg yX7_back cX7_back 4 none) rmX7_back (KM D ad cI cB en) D (wM ad cI cB) (AX 11 ad) [.ref (ad 0), .int x1] S (none, So) := by
  refine uM_start (by decide) rfl ?_
  intro p e s m below meth c hx hb hr hlocks hml hown hts hK hP
  have hT : ∀ w ∈ wG, w.before _ s = true := fun w h => hts w (List.mem_cons_of_mem _ h)
  have hS : va_S (AX 11 ad s.heap.size) s.heap s.heap [] := va_S.rf
  have hown : s.vm.findClass RX7 = some m.cls := hown
  have C : CallFix p m c cX7_back 4 s _ wG RX7 := ⟨hx, hb, hml, hown, hT⟩
  have hl := lv_entry ([.ref (ad 0), .int x1]) (n := 4) (Nat.le_of_ble_eq_true rfl)
  rw [lg_entry_eq]
  generalize (lg_sl ([.ref (ad 0), .int x1]) ++ List.replicate (4 - (lg_sl ([.ref (ad 0), .int x1])).length) Slot.unset).toArray = ls at hl ⊢
  have hl : lv_has ls 4 [(0, .ref (ad 0)), (1, .int x1)] := hl
  unfold fX7_back at hs
  refine lv_iload_n hx hb dX7_back_0 rfl (lv_at hl 1 rfl) ?_
  refine lv_iconst (v := 5) hx hb dX7_back_1 (by decide) ?_
  refine jn_e hs (fun K1 => ∀ (v1 : Int32) (S1 : St) (H : Heap) (locs : List Loc) (ls : Array Slot), lv_has ls 4 [(0, .ref (ad 0)), (1, .int x1)] → va_P D vwCl (wM ad cI cB S1) H → va_S (AX 11 ad s.heap.size) s.heap H locs → K1 v1 S1 = some So → W p l e rmX7_back s m ([.ref (ad 0), .int x1] : List Value).toArray below meth c H locs 0 0 (MQ below (uQ D (wM ad cI cB) (none, So) (AX 11 ad s.heap.size)) ([.ref (ad 0), .int x1] : List Value).toArray s 0 0 (AX 11 ad s.heap.size)) (F0 m 17 ls [.int v1])) ?_ (fun K1 J1 hs => ?_)
  · intro v1 S1 H locs ls hl hP hS hs
    refine lv_istore_n (lv' := [(2, .int v1), (0, .ref (ad 0)), (1, .int x1)]) hx hb dX7_back_17 rfl hl (by decide) rfl (fun ls hl => ?_)
    refine lv_aload_n hx hb dX7_back_18 rfl (lv_at hl 1 rfl) ?_
    refine lv_iconst (v := 4) hx hb dX7_back_19 (by decide) ?_
    obtain ⟨r1, S2, h1, hs⟩ := bd_e hs
    refine kX7_pop C tM_X7_236 ⟨Nat.le_of_ble_eq_true rfl, Nat.le_of_ble_eq_true rfl⟩ ⟨Nat.le_of_ble_eq_true rfl, Nat.le_of_ble_eq_true rfl⟩ hK hP hS hl.1 (rest := []) (Nat.le_of_ble_eq_true rfl) dX7_back_20 h1 (fun H locs hP hS => ?_)
    refine lv_istore_n (lv' := [(3, .int r1), (2, .int v1), (0, .ref (ad 0)), (1, .int x1)]) hx hb dX7_back_23 rfl hl (by decide) rfl (fun ls hl => ?_)
    refine lv_aload_n hx hb dX7_back_24 rfl (lv_at hl 2 rfl) ?_
    refine gM_X7_trouble hx hb hT hown hK hP (hT _ tF_X7_100) dX7_back_25 ?_
    refine lv_if_ne (tgt := 78) hx hb dX7_back_28 (by decide) (fun c1 => ?_) (fun c1 => ?_)
    · have hs := if_f c1 hs
      exact u_vret hx hb hr hlocks hP hS hs dX7_back_78
    · have hs := if_t c1 hs
      refine lv_aload_n hx hb dX7_back_31 rfl (lv_at hl 2 rfl) ?_
      refine lv_iload_n hx hb dX7_back_32 rfl (lv_at hl 0 rfl) ?_
      obtain ⟨S3, h2, hs⟩ := lt_e hs
      refine pM_X7_pc hx hb hT hown hK hP hS (hT _ tF_X7_47) dX7_back_33 (v := r1) h2 (fun H locs hP hS => ?_)
      refine lv_aload_n hx hb dX7_back_36 rfl (lv_at hl 2 rfl) ?_
      refine lv_iload_n hx hb dX7_back_37 rfl (lv_at hl 3 rfl) ?_
      refine lv_iconst (v := 3) hx hb dX7_back_38 (by decide) ?_
      refine lv_icmp_ne (tgt := 49) hx hb dX7_back_39 (by decide) (fun c2 => ?_) (fun c2 => ?_)
      · have hs := if_f c2 hs
        refine lv_iload_n hx hb dX7_back_49 rfl (lv_at hl 3 rfl) ?_
        refine lv_bipush (v := 7) hx hb dX7_back_50 (by decide) ?_
        refine lv_icmp_ne (tgt := 71) hx hb dX7_back_52 (by decide) (fun c3 => ?_) (fun c3 => ?_)
        · have hs := if_f c3 hs
          refine lv_aload_n hx hb dX7_back_71 rfl (lv_at hl 2 rfl) ?_
          refine gM_X7_sr hx hb hT hown hK hP (hT _ tF_X7_50) dX7_back_72 ?_
          obtain ⟨S4, h3, hs⟩ := lt_e hs
          refine pM_X7_sr hx hb hT hown hK hP hS (hT _ tF_X7_50) dX7_back_75 (v := (S3.1 2)) h3 (fun H locs hP hS => ?_)
          exact u_vret hx hb hr hlocks hP hS hs dX7_back_78
        · have hs := if_t c3 hs
          refine lv_aload_n hx hb dX7_back_55 rfl (lv_at hl 2 rfl) ?_
          refine gM_X7_sr hx hb hT hown hK hP (hT _ tF_X7_50) dX7_back_56 ?_
          refine lv_sipush (v := (-256 : Int32)) hx hb dX7_back_59 (by decide) ?_
          refine lv_iand hx hb dX7_back_62 ?_
          refine lv_iload_n hx hb dX7_back_63 rfl (lv_at hl 1 rfl) ?_
          refine lv_bipush (v := 31) hx hb dX7_back_64 (by decide) ?_
          refine lv_iand hx hb dX7_back_66 ?_
          refine lv_ior hx hb dX7_back_67 ?_
          refine lv_goto (tgt := 75) hx hb dX7_back_68 (by decide) ?_
          obtain ⟨S5, h4, hs⟩ := lt_e hs
          refine pM_X7_sr hx hb hT hown hK hP hS (hT _ tF_X7_50) dX7_back_75 (v := (((S3.1 2) &&& (-256 : Int32)) ||| (v1 &&& 31))) h4 (fun H locs hP hS => ?_)
          exact u_vret hx hb hr hlocks hP hS hs dX7_back_78
      · have hs := if_t c2 hs
        refine lv_iload_n hx hb dX7_back_42 rfl (lv_at hl 1 rfl) ?_
        refine lv_ldc (v := 42783) hx hb hown (hT _ tC_X7_78) dX7_back_43 ?_
        refine lv_iand hx hb dX7_back_45 ?_
        refine lv_goto (tgt := 75) hx hb dX7_back_46 (by decide) ?_
        obtain ⟨S6, h5, hs⟩ := lt_e hs
        refine pM_X7_sr hx hb hT hown hK hP hS (hT _ tF_X7_50) dX7_back_75 (v := (v1 &&& 42783)) h5 (fun H locs hP hS => ?_)
        exact u_vret hx hb hr hlocks hP hS hs dX7_back_78
  ·
    refine lv_icmp_ne (tgt := 12) hx hb dX7_back_2 (by decide) (fun c4 => ?_) (fun c4 => ?_)
    · have hs := if_f c4 hs
      refine lv_aload_n hx hb dX7_back_12 rfl (lv_at hl 0 rfl) ?_
      refine lv_iconst (v := 2) hx hb dX7_back_13 (by decide) ?_
      obtain ⟨r2, S7, h6, hs⟩ := bd_e hs
      refine kX7_pop C tM_X7_236 ⟨Nat.le_of_ble_eq_true rfl, Nat.le_of_ble_eq_true rfl⟩ ⟨Nat.le_of_ble_eq_true rfl, Nat.le_of_ble_eq_true rfl⟩ hK hP hS hl.1 (rest := []) (Nat.le_of_ble_eq_true rfl) dX7_back_14 h6 (fun H locs hP hS => ?_)
      exact J1 r2 S7 _ _ _ (lv_sub hl [0, 1] rfl) hP hS hs
    · have hs := if_t c4 hs
      refine lv_aload_n hx hb dX7_back_5 rfl (lv_at hl 0 rfl) ?_
      refine gM_X7_sr hx hb hT hown hK hP (hT _ tF_X7_50) dX7_back_6 ?_
      refine lv_goto (tgt := 17) hx hb dX7_back_9 (by decide) ?_
      exact J1 (S.1 2) S _ _ _ (lv_sub hl [0, 1] rfl) hP hS hs
theorem kX7_back {p : Program} {l : Launch} {e : Env} {R : Room} {s : State} {m : MethodId} {args : Array Value} {below : List Frame} {meth : Method} {c : Code} {H : Heap} {locs : List Loc} {cells slots : Nat} {Q : State → Prop} {cc : ByteArray} {pc nL : Nat} {ls : Array Slot} {rest : List Value} {D : va_G} {ad : Nat → Nat} {cI cB : ClassId} {en : Nat → Nat} {S : St} {own : String} {index : Nat} {x1 : Int32} {So : St} (C : CallFix p m c cc nL s args wG own) (hlk : Cond.methodLink own index yX7_back ∈ wG) (hR : rmX7_back.frames + 1 ≤ R.frames ∧ 8 + (4 + 11) + rmX7_back.locals ≤ R.locals) (hc : cells ≤ R.cells ∧ slots ≤ R.slots) (hK : KM D ad cI cB en s) (hP : va_P D vwCl (wM ad cI cB S) H) (hS : va_S (AX 11 ad s.heap.size) s.heap H locs) (hls : ls.size = nL) (hrest : (rest.map fun v => v.category).sum ≤ 8) (hd : decode cc pc = .ok (.invokevirtual index, 3)) (hs : fX7_back x1 S = some So) (k : ∀ (H : Heap) (locs : List Loc), va_P D vwCl (wM ad cI cB So) H → va_S (AX 11 ad s.heap.size) s.heap H locs → W p l e R s m args below meth c H locs cells slots Q (F0 m (pc + 3) ls (rest))) : W p l e R s m args below meth c H locs cells slots Q (F0 m pc ls (.int x1 :: .ref (ad 0) :: rest)) :=
  u_callV (n := 1) (mX7_back l D ad cI cB en S x1 So hs) C uK_M (wg_V hlk tI_X7_back tS_X7_back tN_X7 tK_X7_back) rfl rfl rfl (by decide +kernel) hR rfl (va_recv hK.1 hP (ci := 6) (q0 := 0) rfl rfl) hK hP hS hls hrest hd hc rfl k
def fX7_single (x1 : Int32) (S : St) : Option (Bool × St) :=
    (if x1 = 4 then (some (false, S))
    else (if x1 = 0 then (bd (fX7_isUser S) fun b1 S1 => (if (zI b1) = 0 then (if x1 = 2 then (bd (fX7_extension S1) fun r1 S7 => (bv (fX7_putSr r1 S7) fun S8 => (lt (sZ S8 2 true) fun S9 => (some (true, S9)))))
    else (if x1 = 3 then (bv (fX7_back x1 S1) fun S2 => (some (true, S2)))
    else (if x1 = 5 then (bv (fX7_back x1 S1) fun S3 => (some (true, S3)))
    else (if x1 = 7 then (bv (fX7_back x1 S1) fun S6 => (some (true, S6)))
    else (if x1 = 6 then (bd (fX7_has 2 S1) fun b2 S4 => (if (zI b2) = 0 then (some (true, S4))
    else (lt (sI S4 8 7) fun S5 => (some (true, S5)))))
    else (some (true, S1)))))))
    else (some (true, S1))))
    else (if x1 = 2 then (bd (fX7_isUser S) fun b3 S10 => (if (zI b3) = 0 then (if x1 = 2 then (bd (fX7_extension S10) fun r2 S16 => (bv (fX7_putSr r2 S16) fun S17 => (lt (sZ S17 2 true) fun S18 => (some (true, S18)))))
    else (if x1 = 3 then (bv (fX7_back x1 S10) fun S11 => (some (true, S11)))
    else (if x1 = 5 then (bv (fX7_back x1 S10) fun S12 => (some (true, S12)))
    else (if x1 = 7 then (bv (fX7_back x1 S10) fun S15 => (some (true, S15)))
    else (if x1 = 6 then (bd (fX7_has 2 S10) fun b4 S13 => (if (zI b4) = 0 then (some (true, S13))
    else (lt (sI S13 8 7) fun S14 => (some (true, S14)))))
    else (some (true, S10)))))))
    else (some (true, S10))))
    else (if x1 = 3 then (bd (fX7_isUser S) fun b6 S27 => (if (zI b6) = 0 then (if x1 = 2 then (bd (fX7_extension S27) fun r4 S33 => (bv (fX7_putSr r4 S33) fun S34 => (lt (sZ S34 2 true) fun S35 => (some (true, S35)))))
    else (if x1 = 3 then (bv (fX7_back x1 S27) fun S28 => (some (true, S28)))
    else (if x1 = 5 then (bv (fX7_back x1 S27) fun S29 => (some (true, S29)))
    else (if x1 = 7 then (bv (fX7_back x1 S27) fun S32 => (some (true, S32)))
    else (if x1 = 6 then (bd (fX7_has 2 S27) fun b7 S30 => (if (zI b7) = 0 then (some (true, S30))
    else (lt (sI S30 8 7) fun S31 => (some (true, S31)))))
    else (some (true, S27)))))))
    else (some (true, S27))))
    else (if x1 = 2 then (bd (fX7_extension S) fun r3 S24 => (bv (fX7_putSr r3 S24) fun S25 => (lt (sZ S25 2 true) fun S26 => (some (true, S26)))))
    else (if x1 = 3 then (bv (fX7_back x1 S) fun S19 => (some (true, S19)))
    else (if x1 = 5 then (bv (fX7_back x1 S) fun S20 => (some (true, S20)))
    else (if x1 = 7 then (bv (fX7_back x1 S) fun S23 => (some (true, S23)))
    else (if x1 = 6 then (bd (fX7_has 2 S) fun b5 S21 => (if (zI b5) = 0 then (some (true, S21))
    else (lt (sI S21 8 7) fun S22 => (some (true, S22)))))
    else (some (true, S)))))))))))
abbrev rmX7_single : Room := { frames := 5, cells := 0, slots := 0, locals := 112 }
set_option maxRecDepth 100000 in
set_option maxHeartbeats 4000000 in
theorem mX7_single (l : Launch) (D : va_G) (ad : Nat → Nat) (cI cB : ClassId) (en : Nat → Nat) (S : St) (x1 : Int32) (ro : Bool) (So : St) (hs : fX7_single x1 S = some (ro, So)) : uM l yX7_single (wg yX7_single cX7_single 2 (some .boolean)) rmX7_single (KM D ad cI cB en) D (wM ad cI cB) (AX 11 ad) [.ref (ad 0), .int x1] S (some (.int (zI ro)), So) := by
  refine uM_start (by decide) rfl ?_
  intro p e s m below meth c hx hb hr hlocks hml hown hts hK hP
  have hT : ∀ w ∈ wG, w.before _ s = true := fun w h => hts w (List.mem_cons_of_mem _ h)
  have hS : va_S (AX 11 ad s.heap.size) s.heap s.heap [] := va_S.rf
  have hown : s.vm.findClass RX7 = some m.cls := hown
  have C : CallFix p m c cX7_single 2 s _ wG RX7 := ⟨hx, hb, hml, hown, hT⟩
  have hl := lv_entry ([.ref (ad 0), .int x1]) (n := 2) (Nat.le_of_ble_eq_true rfl)
  rw [lg_entry_eq]
  generalize (lg_sl ([.ref (ad 0), .int x1]) ++ List.replicate (2 - (lg_sl ([.ref (ad 0), .int x1])).length) Slot.unset).toArray = ls at hl ⊢
  have hl : lv_has ls 2 [(0, .ref (ad 0)), (1, .int x1)] := hl
  unfold fX7_single at hs
  refine lv_iload_n hx hb dX7_single_0 rfl (lv_at hl 1 rfl) ?_
  refine lv_iconst (v := 4) hx hb dX7_single_1 (by decide) ?_
  refine lv_icmp_ne (tgt := 7) hx hb dX7_single_2 (by decide) (fun c1 => ?_) (fun c1 => ?_)
  · have hs := if_f c1 hs
    refine lv_iload_n hx hb dX7_single_7 rfl (lv_at hl 1 rfl) ?_
    refine lv_if_eq (tgt := 21) hx hb dX7_single_8 (by decide) (fun c2 => ?_) (fun c2 => ?_)
    · have hs := if_t c2 hs
      refine lv_aload_n hx hb dX7_single_21 rfl (lv_at hl 0 rfl) ?_
      obtain ⟨b1, S1, h1, hs⟩ := bd_e hs
      refine kX7_isUser C tM_X7_177 ⟨Nat.le_of_ble_eq_true rfl, Nat.le_of_ble_eq_true rfl⟩ ⟨Nat.le_of_ble_eq_true rfl, Nat.le_of_ble_eq_true rfl⟩ hK hP hS hl.1 (rest := []) (Nat.le_of_ble_eq_true rfl) dX7_single_22 h1 (fun H locs hP hS => ?_)
      refine lv_if_eq (tgt := 30) hx hb dX7_single_25 (by decide) (fun c3 => ?_) (fun c3 => ?_)
      · have hs := if_t c3 hs
        refine lv_iload_n hx hb dX7_single_30 rfl (lv_at hl 1 rfl) ?_
        refine lv_iconst (v := 2) hx hb dX7_single_31 (by decide) ?_
        refine lv_icmp_ne (tgt := 51) hx hb dX7_single_32 (by decide) (fun c4 => ?_) (fun c4 => ?_)
        · have hs := if_f c4 hs
          refine lv_iload_n hx hb dX7_single_51 rfl (lv_at hl 1 rfl) ?_
          refine lv_iconst (v := 3) hx hb dX7_single_52 (by decide) ?_
          refine lv_icmp_eq (tgt := 67) hx hb dX7_single_53 (by decide) (fun c5 => ?_) (fun c5 => ?_)
          · have hs := if_t c5 hs
            refine lv_aload_n hx hb dX7_single_67 rfl (lv_at hl 0 rfl) ?_
            refine lv_iload_n hx hb dX7_single_68 rfl (lv_at hl 1 rfl) ?_
            obtain ⟨S2, h2, hs⟩ := bv_e hs
            refine kX7_back C tM_X7_242 ⟨Nat.le_of_ble_eq_true rfl, Nat.le_of_ble_eq_true rfl⟩ ⟨Nat.le_of_ble_eq_true rfl, Nat.le_of_ble_eq_true rfl⟩ hK hP hS hl.1 (rest := []) (Nat.le_of_ble_eq_true rfl) dX7_single_69 h2 (fun H locs hP hS => ?_)
            refine lv_goto (tgt := 95) hx hb dX7_single_72 (by decide) ?_
            refine lv_iconst (v := 1) hx hb dX7_single_95 (by decide) ?_
            exact u_zret (v := true) hx hb hr hlocks hP hS hs dX7_single_96
          · have hs := if_f c5 hs
            refine lv_iload_n hx hb dX7_single_56 rfl (lv_at hl 1 rfl) ?_
            refine lv_iconst (v := 5) hx hb dX7_single_57 (by decide) ?_
            refine lv_icmp_eq (tgt := 67) hx hb dX7_single_58 (by decide) (fun c6 => ?_) (fun c6 => ?_)
            · have hs := if_t c6 hs
              refine lv_aload_n hx hb dX7_single_67 rfl (lv_at hl 0 rfl) ?_
              refine lv_iload_n hx hb dX7_single_68 rfl (lv_at hl 1 rfl) ?_
              obtain ⟨S3, h3, hs⟩ := bv_e hs
              refine kX7_back C tM_X7_242 ⟨Nat.le_of_ble_eq_true rfl, Nat.le_of_ble_eq_true rfl⟩ ⟨Nat.le_of_ble_eq_true rfl, Nat.le_of_ble_eq_true rfl⟩ hK hP hS hl.1 (rest := []) (Nat.le_of_ble_eq_true rfl) dX7_single_69 h3 (fun H locs hP hS => ?_)
              refine lv_goto (tgt := 95) hx hb dX7_single_72 (by decide) ?_
              refine lv_iconst (v := 1) hx hb dX7_single_95 (by decide) ?_
              exact u_zret (v := true) hx hb hr hlocks hP hS hs dX7_single_96
            · have hs := if_f c6 hs
              refine lv_iload_n hx hb dX7_single_61 rfl (lv_at hl 1 rfl) ?_
              refine lv_bipush (v := 7) hx hb dX7_single_62 (by decide) ?_
              refine lv_icmp_ne (tgt := 75) hx hb dX7_single_64 (by decide) (fun c7 => ?_) (fun c7 => ?_)
              · have hs := if_f c7 hs
                refine lv_iload_n hx hb dX7_single_75 rfl (lv_at hl 1 rfl) ?_
                refine lv_bipush (v := 6) hx hb dX7_single_76 (by decide) ?_
                refine lv_icmp_ne (tgt := 95) hx hb dX7_single_78 (by decide) (fun c8 => ?_) (fun c8 => ?_)
                · have hs := if_f c8 hs
                  refine lv_iconst (v := 1) hx hb dX7_single_95 (by decide) ?_
                  exact u_zret (v := true) hx hb hr hlocks hP hS hs dX7_single_96
                · have hs := if_t c8 hs
                  refine lv_aload_n hx hb dX7_single_81 rfl (lv_at hl 0 rfl) ?_
                  refine lv_iconst (v := 2) hx hb dX7_single_82 (by decide) ?_
                  obtain ⟨b2, S4, h4, hs⟩ := bd_e hs
                  refine kX7_has C tM_X7_154 ⟨Nat.le_of_ble_eq_true rfl, Nat.le_of_ble_eq_true rfl⟩ ⟨Nat.le_of_ble_eq_true rfl, Nat.le_of_ble_eq_true rfl⟩ hK hP hS hl.1 (rest := []) (Nat.le_of_ble_eq_true rfl) dX7_single_83 h4 (fun H locs hP hS => ?_)
                  refine lv_if_eq (tgt := 95) hx hb dX7_single_86 (by decide) (fun c9 => ?_) (fun c9 => ?_)
                  · have hs := if_t c9 hs
                    refine lv_iconst (v := 1) hx hb dX7_single_95 (by decide) ?_
                    exact u_zret (v := true) hx hb hr hlocks hP hS hs dX7_single_96
                  · have hs := if_f c9 hs
                    refine lv_aload_n hx hb dX7_single_89 rfl (lv_at hl 0 rfl) ?_
                    refine lv_bipush (v := 7) hx hb dX7_single_90 (by decide) ?_
                    obtain ⟨S5, h5, hs⟩ := lt_e hs
                    refine pM_X7_follows hx hb hT hown hK hP hS (hT _ tF_X7_245) dX7_single_92 (v := 7) h5 (fun H locs hP hS => ?_)
                    refine lv_iconst (v := 1) hx hb dX7_single_95 (by decide) ?_
                    exact u_zret (v := true) hx hb hr hlocks hP hS hs dX7_single_96
              · have hs := if_t c7 hs
                refine lv_aload_n hx hb dX7_single_67 rfl (lv_at hl 0 rfl) ?_
                refine lv_iload_n hx hb dX7_single_68 rfl (lv_at hl 1 rfl) ?_
                obtain ⟨S6, h6, hs⟩ := bv_e hs
                refine kX7_back C tM_X7_242 ⟨Nat.le_of_ble_eq_true rfl, Nat.le_of_ble_eq_true rfl⟩ ⟨Nat.le_of_ble_eq_true rfl, Nat.le_of_ble_eq_true rfl⟩ hK hP hS hl.1 (rest := []) (Nat.le_of_ble_eq_true rfl) dX7_single_69 h6 (fun H locs hP hS => ?_)
                refine lv_goto (tgt := 95) hx hb dX7_single_72 (by decide) ?_
                refine lv_iconst (v := 1) hx hb dX7_single_95 (by decide) ?_
                exact u_zret (v := true) hx hb hr hlocks hP hS hs dX7_single_96
        · have hs := if_t c4 hs
          refine lv_aload_n hx hb dX7_single_35 rfl (lv_at hl 0 rfl) ?_
          refine lv_aload_n hx hb dX7_single_36 rfl (lv_at hl 0 rfl) ?_
          obtain ⟨r1, S7, h7, hs⟩ := bd_e hs
          refine kX7_extension C tM_X7_125 ⟨Nat.le_of_ble_eq_true rfl, Nat.le_of_ble_eq_true rfl⟩ ⟨Nat.le_of_ble_eq_true rfl, Nat.le_of_ble_eq_true rfl⟩ hK hP hS hl.1 (rest := [.ref (ad 0)]) (Nat.le_of_ble_eq_true rfl) dX7_single_37 h7 (fun H locs hP hS => ?_)
          obtain ⟨S8, h8, hs⟩ := bv_e hs
          refine kX7_putSr C tM_X7_184 ⟨Nat.le_of_ble_eq_true rfl, Nat.le_of_ble_eq_true rfl⟩ ⟨Nat.le_of_ble_eq_true rfl, Nat.le_of_ble_eq_true rfl⟩ hK hP hS hl.1 (rest := []) (Nat.le_of_ble_eq_true rfl) dX7_single_40 h8 (fun H locs hP hS => ?_)
          refine lv_aload_n hx hb dX7_single_43 rfl (lv_at hl 0 rfl) ?_
          refine lv_iconst (v := 1) hx hb dX7_single_44 (by decide) ?_
          obtain ⟨S9, h9, hs⟩ := lt_e hs
          refine pM_X7_stops hx hb hT hown hK hP hS (hT _ tF_X7_239) dX7_single_45 (v := true) h9 (fun H locs hP hS => ?_)
          refine lv_goto (tgt := 95) hx hb dX7_single_48 (by decide) ?_
          refine lv_iconst (v := 1) hx hb dX7_single_95 (by decide) ?_
          exact u_zret (v := true) hx hb hr hlocks hP hS hs dX7_single_96
      · have hs := if_f c3 hs
        refine lv_iconst (v := 1) hx hb dX7_single_28 (by decide) ?_
        exact u_zret (v := true) hx hb hr hlocks hP hS hs dX7_single_29
    · have hs := if_f c2 hs
      refine lv_iload_n hx hb dX7_single_11 rfl (lv_at hl 1 rfl) ?_
      refine lv_iconst (v := 2) hx hb dX7_single_12 (by decide) ?_
      refine lv_icmp_eq (tgt := 21) hx hb dX7_single_13 (by decide) (fun c10 => ?_) (fun c10 => ?_)
      · have hs := if_t c10 hs
        refine lv_aload_n hx hb dX7_single_21 rfl (lv_at hl 0 rfl) ?_
        obtain ⟨b3, S10, h10, hs⟩ := bd_e hs
        refine kX7_isUser C tM_X7_177 ⟨Nat.le_of_ble_eq_true rfl, Nat.le_of_ble_eq_true rfl⟩ ⟨Nat.le_of_ble_eq_true rfl, Nat.le_of_ble_eq_true rfl⟩ hK hP hS hl.1 (rest := []) (Nat.le_of_ble_eq_true rfl) dX7_single_22 h10 (fun H locs hP hS => ?_)
        refine lv_if_eq (tgt := 30) hx hb dX7_single_25 (by decide) (fun c11 => ?_) (fun c11 => ?_)
        · have hs := if_t c11 hs
          refine lv_iload_n hx hb dX7_single_30 rfl (lv_at hl 1 rfl) ?_
          refine lv_iconst (v := 2) hx hb dX7_single_31 (by decide) ?_
          refine lv_icmp_ne (tgt := 51) hx hb dX7_single_32 (by decide) (fun c12 => ?_) (fun c12 => ?_)
          · have hs := if_f c12 hs
            refine lv_iload_n hx hb dX7_single_51 rfl (lv_at hl 1 rfl) ?_
            refine lv_iconst (v := 3) hx hb dX7_single_52 (by decide) ?_
            refine lv_icmp_eq (tgt := 67) hx hb dX7_single_53 (by decide) (fun c13 => ?_) (fun c13 => ?_)
            · have hs := if_t c13 hs
              refine lv_aload_n hx hb dX7_single_67 rfl (lv_at hl 0 rfl) ?_
              refine lv_iload_n hx hb dX7_single_68 rfl (lv_at hl 1 rfl) ?_
              obtain ⟨S11, h11, hs⟩ := bv_e hs
              refine kX7_back C tM_X7_242 ⟨Nat.le_of_ble_eq_true rfl, Nat.le_of_ble_eq_true rfl⟩ ⟨Nat.le_of_ble_eq_true rfl, Nat.le_of_ble_eq_true rfl⟩ hK hP hS hl.1 (rest := []) (Nat.le_of_ble_eq_true rfl) dX7_single_69 h11 (fun H locs hP hS => ?_)
              refine lv_goto (tgt := 95) hx hb dX7_single_72 (by decide) ?_
              refine lv_iconst (v := 1) hx hb dX7_single_95 (by decide) ?_
              exact u_zret (v := true) hx hb hr hlocks hP hS hs dX7_single_96
            · have hs := if_f c13 hs
              refine lv_iload_n hx hb dX7_single_56 rfl (lv_at hl 1 rfl) ?_
              refine lv_iconst (v := 5) hx hb dX7_single_57 (by decide) ?_
              refine lv_icmp_eq (tgt := 67) hx hb dX7_single_58 (by decide) (fun c14 => ?_) (fun c14 => ?_)
              · have hs := if_t c14 hs
                refine lv_aload_n hx hb dX7_single_67 rfl (lv_at hl 0 rfl) ?_
                refine lv_iload_n hx hb dX7_single_68 rfl (lv_at hl 1 rfl) ?_
                obtain ⟨S12, h12, hs⟩ := bv_e hs
                refine kX7_back C tM_X7_242 ⟨Nat.le_of_ble_eq_true rfl, Nat.le_of_ble_eq_true rfl⟩ ⟨Nat.le_of_ble_eq_true rfl, Nat.le_of_ble_eq_true rfl⟩ hK hP hS hl.1 (rest := []) (Nat.le_of_ble_eq_true rfl) dX7_single_69 h12 (fun H locs hP hS => ?_)
                refine lv_goto (tgt := 95) hx hb dX7_single_72 (by decide) ?_
                refine lv_iconst (v := 1) hx hb dX7_single_95 (by decide) ?_
                exact u_zret (v := true) hx hb hr hlocks hP hS hs dX7_single_96
              · have hs := if_f c14 hs
                refine lv_iload_n hx hb dX7_single_61 rfl (lv_at hl 1 rfl) ?_
                refine lv_bipush (v := 7) hx hb dX7_single_62 (by decide) ?_
                refine lv_icmp_ne (tgt := 75) hx hb dX7_single_64 (by decide) (fun c15 => ?_) (fun c15 => ?_)
                · have hs := if_f c15 hs
                  refine lv_iload_n hx hb dX7_single_75 rfl (lv_at hl 1 rfl) ?_
                  refine lv_bipush (v := 6) hx hb dX7_single_76 (by decide) ?_
                  refine lv_icmp_ne (tgt := 95) hx hb dX7_single_78 (by decide) (fun c16 => ?_) (fun c16 => ?_)
                  · have hs := if_f c16 hs
                    refine lv_iconst (v := 1) hx hb dX7_single_95 (by decide) ?_
                    exact u_zret (v := true) hx hb hr hlocks hP hS hs dX7_single_96
                  · have hs := if_t c16 hs
                    refine lv_aload_n hx hb dX7_single_81 rfl (lv_at hl 0 rfl) ?_
                    refine lv_iconst (v := 2) hx hb dX7_single_82 (by decide) ?_
                    obtain ⟨b4, S13, h13, hs⟩ := bd_e hs
                    refine kX7_has C tM_X7_154 ⟨Nat.le_of_ble_eq_true rfl, Nat.le_of_ble_eq_true rfl⟩ ⟨Nat.le_of_ble_eq_true rfl, Nat.le_of_ble_eq_true rfl⟩ hK hP hS hl.1 (rest := []) (Nat.le_of_ble_eq_true rfl) dX7_single_83 h13 (fun H locs hP hS => ?_)
                    refine lv_if_eq (tgt := 95) hx hb dX7_single_86 (by decide) (fun c17 => ?_) (fun c17 => ?_)
                    · have hs := if_t c17 hs
                      refine lv_iconst (v := 1) hx hb dX7_single_95 (by decide) ?_
                      exact u_zret (v := true) hx hb hr hlocks hP hS hs dX7_single_96
                    · have hs := if_f c17 hs
                      refine lv_aload_n hx hb dX7_single_89 rfl (lv_at hl 0 rfl) ?_
                      refine lv_bipush (v := 7) hx hb dX7_single_90 (by decide) ?_
                      obtain ⟨S14, h14, hs⟩ := lt_e hs
                      refine pM_X7_follows hx hb hT hown hK hP hS (hT _ tF_X7_245) dX7_single_92 (v := 7) h14 (fun H locs hP hS => ?_)
                      refine lv_iconst (v := 1) hx hb dX7_single_95 (by decide) ?_
                      exact u_zret (v := true) hx hb hr hlocks hP hS hs dX7_single_96
                · have hs := if_t c15 hs
                  refine lv_aload_n hx hb dX7_single_67 rfl (lv_at hl 0 rfl) ?_
                  refine lv_iload_n hx hb dX7_single_68 rfl (lv_at hl 1 rfl) ?_
                  obtain ⟨S15, h15, hs⟩ := bv_e hs
                  refine kX7_back C tM_X7_242 ⟨Nat.le_of_ble_eq_true rfl, Nat.le_of_ble_eq_true rfl⟩ ⟨Nat.le_of_ble_eq_true rfl, Nat.le_of_ble_eq_true rfl⟩ hK hP hS hl.1 (rest := []) (Nat.le_of_ble_eq_true rfl) dX7_single_69 h15 (fun H locs hP hS => ?_)
                  refine lv_goto (tgt := 95) hx hb dX7_single_72 (by decide) ?_
                  refine lv_iconst (v := 1) hx hb dX7_single_95 (by decide) ?_
                  exact u_zret (v := true) hx hb hr hlocks hP hS hs dX7_single_96
          · have hs := if_t c12 hs
            refine lv_aload_n hx hb dX7_single_35 rfl (lv_at hl 0 rfl) ?_
            refine lv_aload_n hx hb dX7_single_36 rfl (lv_at hl 0 rfl) ?_
            obtain ⟨r2, S16, h16, hs⟩ := bd_e hs
            refine kX7_extension C tM_X7_125 ⟨Nat.le_of_ble_eq_true rfl, Nat.le_of_ble_eq_true rfl⟩ ⟨Nat.le_of_ble_eq_true rfl, Nat.le_of_ble_eq_true rfl⟩ hK hP hS hl.1 (rest := [.ref (ad 0)]) (Nat.le_of_ble_eq_true rfl) dX7_single_37 h16 (fun H locs hP hS => ?_)
            obtain ⟨S17, h17, hs⟩ := bv_e hs
            refine kX7_putSr C tM_X7_184 ⟨Nat.le_of_ble_eq_true rfl, Nat.le_of_ble_eq_true rfl⟩ ⟨Nat.le_of_ble_eq_true rfl, Nat.le_of_ble_eq_true rfl⟩ hK hP hS hl.1 (rest := []) (Nat.le_of_ble_eq_true rfl) dX7_single_40 h17 (fun H locs hP hS => ?_)
            refine lv_aload_n hx hb dX7_single_43 rfl (lv_at hl 0 rfl) ?_
            refine lv_iconst (v := 1) hx hb dX7_single_44 (by decide) ?_
            obtain ⟨S18, h18, hs⟩ := lt_e hs
            refine pM_X7_stops hx hb hT hown hK hP hS (hT _ tF_X7_239) dX7_single_45 (v := true) h18 (fun H locs hP hS => ?_)
            refine lv_goto (tgt := 95) hx hb dX7_single_48 (by decide) ?_
            refine lv_iconst (v := 1) hx hb dX7_single_95 (by decide) ?_
            exact u_zret (v := true) hx hb hr hlocks hP hS hs dX7_single_96
        · have hs := if_f c11 hs
          refine lv_iconst (v := 1) hx hb dX7_single_28 (by decide) ?_
          exact u_zret (v := true) hx hb hr hlocks hP hS hs dX7_single_29
      · have hs := if_f c10 hs
        refine lv_iload_n hx hb dX7_single_16 rfl (lv_at hl 1 rfl) ?_
        refine lv_iconst (v := 3) hx hb dX7_single_17 (by decide) ?_
        refine lv_icmp_ne (tgt := 30) hx hb dX7_single_18 (by decide) (fun c18 => ?_) (fun c18 => ?_)
        · have hs := if_f c18 hs
          refine lv_iload_n hx hb dX7_single_30 rfl (lv_at hl 1 rfl) ?_
          refine lv_iconst (v := 2) hx hb dX7_single_31 (by decide) ?_
          refine lv_icmp_ne (tgt := 51) hx hb dX7_single_32 (by decide) (fun c19 => ?_) (fun c19 => ?_)
          · have hs := if_f c19 hs
            refine lv_iload_n hx hb dX7_single_51 rfl (lv_at hl 1 rfl) ?_
            refine lv_iconst (v := 3) hx hb dX7_single_52 (by decide) ?_
            refine lv_icmp_eq (tgt := 67) hx hb dX7_single_53 (by decide) (fun c20 => ?_) (fun c20 => ?_)
            · have hs := if_t c20 hs
              refine lv_aload_n hx hb dX7_single_67 rfl (lv_at hl 0 rfl) ?_
              refine lv_iload_n hx hb dX7_single_68 rfl (lv_at hl 1 rfl) ?_
              obtain ⟨S19, h19, hs⟩ := bv_e hs
              refine kX7_back C tM_X7_242 ⟨Nat.le_of_ble_eq_true rfl, Nat.le_of_ble_eq_true rfl⟩ ⟨Nat.le_of_ble_eq_true rfl, Nat.le_of_ble_eq_true rfl⟩ hK hP hS hl.1 (rest := []) (Nat.le_of_ble_eq_true rfl) dX7_single_69 h19 (fun H locs hP hS => ?_)
              refine lv_goto (tgt := 95) hx hb dX7_single_72 (by decide) ?_
              refine lv_iconst (v := 1) hx hb dX7_single_95 (by decide) ?_
              exact u_zret (v := true) hx hb hr hlocks hP hS hs dX7_single_96
            · have hs := if_f c20 hs
              refine lv_iload_n hx hb dX7_single_56 rfl (lv_at hl 1 rfl) ?_
              refine lv_iconst (v := 5) hx hb dX7_single_57 (by decide) ?_
              refine lv_icmp_eq (tgt := 67) hx hb dX7_single_58 (by decide) (fun c21 => ?_) (fun c21 => ?_)
              · have hs := if_t c21 hs
                refine lv_aload_n hx hb dX7_single_67 rfl (lv_at hl 0 rfl) ?_
                refine lv_iload_n hx hb dX7_single_68 rfl (lv_at hl 1 rfl) ?_
                obtain ⟨S20, h20, hs⟩ := bv_e hs
                refine kX7_back C tM_X7_242 ⟨Nat.le_of_ble_eq_true rfl, Nat.le_of_ble_eq_true rfl⟩ ⟨Nat.le_of_ble_eq_true rfl, Nat.le_of_ble_eq_true rfl⟩ hK hP hS hl.1 (rest := []) (Nat.le_of_ble_eq_true rfl) dX7_single_69 h20 (fun H locs hP hS => ?_)
                refine lv_goto (tgt := 95) hx hb dX7_single_72 (by decide) ?_
                refine lv_iconst (v := 1) hx hb dX7_single_95 (by decide) ?_
                exact u_zret (v := true) hx hb hr hlocks hP hS hs dX7_single_96
              · have hs := if_f c21 hs
                refine lv_iload_n hx hb dX7_single_61 rfl (lv_at hl 1 rfl) ?_
                refine lv_bipush (v := 7) hx hb dX7_single_62 (by decide) ?_
                refine lv_icmp_ne (tgt := 75) hx hb dX7_single_64 (by decide) (fun c22 => ?_) (fun c22 => ?_)
                · have hs := if_f c22 hs
                  refine lv_iload_n hx hb dX7_single_75 rfl (lv_at hl 1 rfl) ?_
                  refine lv_bipush (v := 6) hx hb dX7_single_76 (by decide) ?_
                  refine lv_icmp_ne (tgt := 95) hx hb dX7_single_78 (by decide) (fun c23 => ?_) (fun c23 => ?_)
                  · have hs := if_f c23 hs
                    refine lv_iconst (v := 1) hx hb dX7_single_95 (by decide) ?_
                    exact u_zret (v := true) hx hb hr hlocks hP hS hs dX7_single_96
                  · have hs := if_t c23 hs
                    refine lv_aload_n hx hb dX7_single_81 rfl (lv_at hl 0 rfl) ?_
                    refine lv_iconst (v := 2) hx hb dX7_single_82 (by decide) ?_
                    obtain ⟨b5, S21, h21, hs⟩ := bd_e hs
                    refine kX7_has C tM_X7_154 ⟨Nat.le_of_ble_eq_true rfl, Nat.le_of_ble_eq_true rfl⟩ ⟨Nat.le_of_ble_eq_true rfl, Nat.le_of_ble_eq_true rfl⟩ hK hP hS hl.1 (rest := []) (Nat.le_of_ble_eq_true rfl) dX7_single_83 h21 (fun H locs hP hS => ?_)
                    refine lv_if_eq (tgt := 95) hx hb dX7_single_86 (by decide) (fun c24 => ?_) (fun c24 => ?_)
                    · have hs := if_t c24 hs
                      refine lv_iconst (v := 1) hx hb dX7_single_95 (by decide) ?_
                      exact u_zret (v := true) hx hb hr hlocks hP hS hs dX7_single_96
                    · have hs := if_f c24 hs
                      refine lv_aload_n hx hb dX7_single_89 rfl (lv_at hl 0 rfl) ?_
                      refine lv_bipush (v := 7) hx hb dX7_single_90 (by decide) ?_
                      obtain ⟨S22, h22, hs⟩ := lt_e hs
                      refine pM_X7_follows hx hb hT hown hK hP hS (hT _ tF_X7_245) dX7_single_92 (v := 7) h22 (fun H locs hP hS => ?_)
                      refine lv_iconst (v := 1) hx hb dX7_single_95 (by decide) ?_
                      exact u_zret (v := true) hx hb hr hlocks hP hS hs dX7_single_96
                · have hs := if_t c22 hs
                  refine lv_aload_n hx hb dX7_single_67 rfl (lv_at hl 0 rfl) ?_
                  refine lv_iload_n hx hb dX7_single_68 rfl (lv_at hl 1 rfl) ?_
                  obtain ⟨S23, h23, hs⟩ := bv_e hs
                  refine kX7_back C tM_X7_242 ⟨Nat.le_of_ble_eq_true rfl, Nat.le_of_ble_eq_true rfl⟩ ⟨Nat.le_of_ble_eq_true rfl, Nat.le_of_ble_eq_true rfl⟩ hK hP hS hl.1 (rest := []) (Nat.le_of_ble_eq_true rfl) dX7_single_69 h23 (fun H locs hP hS => ?_)
                  refine lv_goto (tgt := 95) hx hb dX7_single_72 (by decide) ?_
                  refine lv_iconst (v := 1) hx hb dX7_single_95 (by decide) ?_
                  exact u_zret (v := true) hx hb hr hlocks hP hS hs dX7_single_96
          · have hs := if_t c19 hs
            refine lv_aload_n hx hb dX7_single_35 rfl (lv_at hl 0 rfl) ?_
            refine lv_aload_n hx hb dX7_single_36 rfl (lv_at hl 0 rfl) ?_
            obtain ⟨r3, S24, h24, hs⟩ := bd_e hs
            refine kX7_extension C tM_X7_125 ⟨Nat.le_of_ble_eq_true rfl, Nat.le_of_ble_eq_true rfl⟩ ⟨Nat.le_of_ble_eq_true rfl, Nat.le_of_ble_eq_true rfl⟩ hK hP hS hl.1 (rest := [.ref (ad 0)]) (Nat.le_of_ble_eq_true rfl) dX7_single_37 h24 (fun H locs hP hS => ?_)
            obtain ⟨S25, h25, hs⟩ := bv_e hs
            refine kX7_putSr C tM_X7_184 ⟨Nat.le_of_ble_eq_true rfl, Nat.le_of_ble_eq_true rfl⟩ ⟨Nat.le_of_ble_eq_true rfl, Nat.le_of_ble_eq_true rfl⟩ hK hP hS hl.1 (rest := []) (Nat.le_of_ble_eq_true rfl) dX7_single_40 h25 (fun H locs hP hS => ?_)
            refine lv_aload_n hx hb dX7_single_43 rfl (lv_at hl 0 rfl) ?_
            refine lv_iconst (v := 1) hx hb dX7_single_44 (by decide) ?_
            obtain ⟨S26, h26, hs⟩ := lt_e hs
            refine pM_X7_stops hx hb hT hown hK hP hS (hT _ tF_X7_239) dX7_single_45 (v := true) h26 (fun H locs hP hS => ?_)
            refine lv_goto (tgt := 95) hx hb dX7_single_48 (by decide) ?_
            refine lv_iconst (v := 1) hx hb dX7_single_95 (by decide) ?_
            exact u_zret (v := true) hx hb hr hlocks hP hS hs dX7_single_96
        · have hs := if_t c18 hs
          refine lv_aload_n hx hb dX7_single_21 rfl (lv_at hl 0 rfl) ?_
          obtain ⟨b6, S27, h27, hs⟩ := bd_e hs
          refine kX7_isUser C tM_X7_177 ⟨Nat.le_of_ble_eq_true rfl, Nat.le_of_ble_eq_true rfl⟩ ⟨Nat.le_of_ble_eq_true rfl, Nat.le_of_ble_eq_true rfl⟩ hK hP hS hl.1 (rest := []) (Nat.le_of_ble_eq_true rfl) dX7_single_22 h27 (fun H locs hP hS => ?_)
          refine lv_if_eq (tgt := 30) hx hb dX7_single_25 (by decide) (fun c25 => ?_) (fun c25 => ?_)
          · have hs := if_t c25 hs
            refine lv_iload_n hx hb dX7_single_30 rfl (lv_at hl 1 rfl) ?_
            refine lv_iconst (v := 2) hx hb dX7_single_31 (by decide) ?_
            refine lv_icmp_ne (tgt := 51) hx hb dX7_single_32 (by decide) (fun c26 => ?_) (fun c26 => ?_)
            · have hs := if_f c26 hs
              refine lv_iload_n hx hb dX7_single_51 rfl (lv_at hl 1 rfl) ?_
              refine lv_iconst (v := 3) hx hb dX7_single_52 (by decide) ?_
              refine lv_icmp_eq (tgt := 67) hx hb dX7_single_53 (by decide) (fun c27 => ?_) (fun c27 => ?_)
              · have hs := if_t c27 hs
                refine lv_aload_n hx hb dX7_single_67 rfl (lv_at hl 0 rfl) ?_
                refine lv_iload_n hx hb dX7_single_68 rfl (lv_at hl 1 rfl) ?_
                obtain ⟨S28, h28, hs⟩ := bv_e hs
                refine kX7_back C tM_X7_242 ⟨Nat.le_of_ble_eq_true rfl, Nat.le_of_ble_eq_true rfl⟩ ⟨Nat.le_of_ble_eq_true rfl, Nat.le_of_ble_eq_true rfl⟩ hK hP hS hl.1 (rest := []) (Nat.le_of_ble_eq_true rfl) dX7_single_69 h28 (fun H locs hP hS => ?_)
                refine lv_goto (tgt := 95) hx hb dX7_single_72 (by decide) ?_
                refine lv_iconst (v := 1) hx hb dX7_single_95 (by decide) ?_
                exact u_zret (v := true) hx hb hr hlocks hP hS hs dX7_single_96
              · have hs := if_f c27 hs
                refine lv_iload_n hx hb dX7_single_56 rfl (lv_at hl 1 rfl) ?_
                refine lv_iconst (v := 5) hx hb dX7_single_57 (by decide) ?_
                refine lv_icmp_eq (tgt := 67) hx hb dX7_single_58 (by decide) (fun c28 => ?_) (fun c28 => ?_)
                · have hs := if_t c28 hs
                  refine lv_aload_n hx hb dX7_single_67 rfl (lv_at hl 0 rfl) ?_
                  refine lv_iload_n hx hb dX7_single_68 rfl (lv_at hl 1 rfl) ?_
                  obtain ⟨S29, h29, hs⟩ := bv_e hs
                  refine kX7_back C tM_X7_242 ⟨Nat.le_of_ble_eq_true rfl, Nat.le_of_ble_eq_true rfl⟩ ⟨Nat.le_of_ble_eq_true rfl, Nat.le_of_ble_eq_true rfl⟩ hK hP hS hl.1 (rest := []) (Nat.le_of_ble_eq_true rfl) dX7_single_69 h29 (fun H locs hP hS => ?_)
                  refine lv_goto (tgt := 95) hx hb dX7_single_72 (by decide) ?_
                  refine lv_iconst (v := 1) hx hb dX7_single_95 (by decide) ?_
                  exact u_zret (v := true) hx hb hr hlocks hP hS hs dX7_single_96
                · have hs := if_f c28 hs
                  refine lv_iload_n hx hb dX7_single_61 rfl (lv_at hl 1 rfl) ?_
                  refine lv_bipush (v := 7) hx hb dX7_single_62 (by decide) ?_
                  refine lv_icmp_ne (tgt := 75) hx hb dX7_single_64 (by decide) (fun c29 => ?_) (fun c29 => ?_)
                  · have hs := if_f c29 hs
                    refine lv_iload_n hx hb dX7_single_75 rfl (lv_at hl 1 rfl) ?_
                    refine lv_bipush (v := 6) hx hb dX7_single_76 (by decide) ?_
                    refine lv_icmp_ne (tgt := 95) hx hb dX7_single_78 (by decide) (fun c30 => ?_) (fun c30 => ?_)
                    · have hs := if_f c30 hs
                      refine lv_iconst (v := 1) hx hb dX7_single_95 (by decide) ?_
                      exact u_zret (v := true) hx hb hr hlocks hP hS hs dX7_single_96
                    · have hs := if_t c30 hs
                      refine lv_aload_n hx hb dX7_single_81 rfl (lv_at hl 0 rfl) ?_
                      refine lv_iconst (v := 2) hx hb dX7_single_82 (by decide) ?_
                      obtain ⟨b7, S30, h30, hs⟩ := bd_e hs
                      refine kX7_has C tM_X7_154 ⟨Nat.le_of_ble_eq_true rfl, Nat.le_of_ble_eq_true rfl⟩ ⟨Nat.le_of_ble_eq_true rfl, Nat.le_of_ble_eq_true rfl⟩ hK hP hS hl.1 (rest := []) (Nat.le_of_ble_eq_true rfl) dX7_single_83 h30 (fun H locs hP hS => ?_)
                      refine lv_if_eq (tgt := 95) hx hb dX7_single_86 (by decide) (fun c31 => ?_) (fun c31 => ?_)
                      · have hs := if_t c31 hs
                        refine lv_iconst (v := 1) hx hb dX7_single_95 (by decide) ?_
                        exact u_zret (v := true) hx hb hr hlocks hP hS hs dX7_single_96
                      · have hs := if_f c31 hs
                        refine lv_aload_n hx hb dX7_single_89 rfl (lv_at hl 0 rfl) ?_
                        refine lv_bipush (v := 7) hx hb dX7_single_90 (by decide) ?_
                        obtain ⟨S31, h31, hs⟩ := lt_e hs
                        refine pM_X7_follows hx hb hT hown hK hP hS (hT _ tF_X7_245) dX7_single_92 (v := 7) h31 (fun H locs hP hS => ?_)
                        refine lv_iconst (v := 1) hx hb dX7_single_95 (by decide) ?_
                        exact u_zret (v := true) hx hb hr hlocks hP hS hs dX7_single_96
                  · have hs := if_t c29 hs
                    refine lv_aload_n hx hb dX7_single_67 rfl (lv_at hl 0 rfl) ?_
                    refine lv_iload_n hx hb dX7_single_68 rfl (lv_at hl 1 rfl) ?_
                    obtain ⟨S32, h32, hs⟩ := bv_e hs
                    refine kX7_back C tM_X7_242 ⟨Nat.le_of_ble_eq_true rfl, Nat.le_of_ble_eq_true rfl⟩ ⟨Nat.le_of_ble_eq_true rfl, Nat.le_of_ble_eq_true rfl⟩ hK hP hS hl.1 (rest := []) (Nat.le_of_ble_eq_true rfl) dX7_single_69 h32 (fun H locs hP hS => ?_)
                    refine lv_goto (tgt := 95) hx hb dX7_single_72 (by decide) ?_
                    refine lv_iconst (v := 1) hx hb dX7_single_95 (by decide) ?_
                    exact u_zret (v := true) hx hb hr hlocks hP hS hs dX7_single_96
            · have hs := if_t c26 hs
              refine lv_aload_n hx hb dX7_single_35 rfl (lv_at hl 0 rfl) ?_
              refine lv_aload_n hx hb dX7_single_36 rfl (lv_at hl 0 rfl) ?_
              obtain ⟨r4, S33, h33, hs⟩ := bd_e hs
              refine kX7_extension C tM_X7_125 ⟨Nat.le_of_ble_eq_true rfl, Nat.le_of_ble_eq_true rfl⟩ ⟨Nat.le_of_ble_eq_true rfl, Nat.le_of_ble_eq_true rfl⟩ hK hP hS hl.1 (rest := [.ref (ad 0)]) (Nat.le_of_ble_eq_true rfl) dX7_single_37 h33 (fun H locs hP hS => ?_)
              obtain ⟨S34, h34, hs⟩ := bv_e hs
              refine kX7_putSr C tM_X7_184 ⟨Nat.le_of_ble_eq_true rfl, Nat.le_of_ble_eq_true rfl⟩ ⟨Nat.le_of_ble_eq_true rfl, Nat.le_of_ble_eq_true rfl⟩ hK hP hS hl.1 (rest := []) (Nat.le_of_ble_eq_true rfl) dX7_single_40 h34 (fun H locs hP hS => ?_)
              refine lv_aload_n hx hb dX7_single_43 rfl (lv_at hl 0 rfl) ?_
              refine lv_iconst (v := 1) hx hb dX7_single_44 (by decide) ?_
              obtain ⟨S35, h35, hs⟩ := lt_e hs
              refine pM_X7_stops hx hb hT hown hK hP hS (hT _ tF_X7_239) dX7_single_45 (v := true) h35 (fun H locs hP hS => ?_)
              refine lv_goto (tgt := 95) hx hb dX7_single_48 (by decide) ?_
              refine lv_iconst (v := 1) hx hb dX7_single_95 (by decide) ?_
              exact u_zret (v := true) hx hb hr hlocks hP hS hs dX7_single_96
          · have hs := if_f c25 hs
            refine lv_iconst (v := 1) hx hb dX7_single_28 (by decide) ?_
            exact u_zret (v := true) hx hb hr hlocks hP hS hs dX7_single_29
  · have hs := if_t c1 hs
    refine lv_iconst (v := 0) hx hb dX7_single_5 (by decide) ?_
    exact u_zret (v := false) hx hb hr hlocks hP hS hs dX7_single_6
theorem kX7_single {p : Program} {l : Launch} {e : Env} {R : Room} {s : State} {m : MethodId} {args : Array Value} {below : List Frame} {meth : Method} {c : Code} {H : Heap} {locs : List Loc} {cells slots : Nat} {Q : State → Prop} {cc : ByteArray} {pc nL : Nat} {ls : Array Slot} {rest : List Value} {D : va_G} {ad : Nat → Nat} {cI cB : ClassId} {en : Nat → Nat} {S : St} {own : String} {index : Nat} {x1 : Int32} {ro : Bool} {So : St} (C : CallFix p m c cc nL s args wG own) (hlk : Cond.methodLink own index yX7_single ∈ wG) (hR : rmX7_single.frames + 1 ≤ R.frames ∧ 8 + (2 + 11) + rmX7_single.locals ≤ R.locals) (hc : cells ≤ R.cells ∧ slots ≤ R.slots) (hK : KM D ad cI cB en s) (hP : va_P D vwCl (wM ad cI cB S) H) (hS : va_S (AX 11 ad s.heap.size) s.heap H locs) (hls : ls.size = nL) (hrest : (rest.map fun v => v.category).sum ≤ 8) (hd : decode cc pc = .ok (.invokevirtual index, 3)) (hs : fX7_single x1 S = some (ro, So)) (k : ∀ (H : Heap) (locs : List Loc), va_P D vwCl (wM ad cI cB So) H → va_S (AX 11 ad s.heap.size) s.heap H locs → W p l e R s m args below meth c H locs cells slots Q (F0 m (pc + 3) ls (.int (zI ro) :: rest))) : W p l e R s m args below meth c H locs cells slots Q (F0 m pc ls (.int x1 :: .ref (ad 0) :: rest)) :=
  u_callV (n := 1) (mX7_single l D ad cI cB en S x1 ro So hs) C uK_M (wg_V hlk tI_X7_single tS_X7_single tN_X7 tK_X7_single) rfl rfl rfl (by decide +kernel) hR rfl (va_recv hK.1 hP (ci := 6) (q0 := 0) rfl rfl) hK hP hS hls hrest hd hc rfl k
def fX7_group4e  (S : St) : Option (Bool × St) :=
    (lt ((((S.1 5) >>> ((4 : Int32) &&& 31)) &&& 15) : Int32) fun v1 => (lt (((S.1 5) &&& 7) : Int32) fun v2 => (jn (fun (b1 : Bool) => (if v1 = 4 then (lt (sI S 8 (32 + ((S.1 5) &&& 15))) fun S31 => (some (true, S31)))
    else (if v1 = 5 then (if (zI b1) = 0 then (if v1 = 5 then (bv (fX7_link v2 S) fun S26 => (some (true, S26)))
    else (if v1 = 6 then (bd (fX7_isUser S) fun b7 S20 => (if (zI b7) = 0 then (if (zI b1) = 0 then (if (S20.1 6) = 0 then (bd (fX7_getA v2 S20) fun r4 S23 => (gd (ixo 0 2 = true) (lt (sA S23 3 (0 : Int32).toNatClampNeg r4) fun S24 => (some (true, S24)))))
    else (some (true, S20)))
    else (gd (ixo 0 2 = true) (bv (fX7_setA v2 (S20.2.2 3 (0 : Int32).toNatClampNeg) S20) fun S25 => (some (true, S25)))))
    else (if (S20.1 6) = 0 then (bd (fX7_getA v2 S20) fun r3 S21 => (gd (ixo 0 2 = true) (lt (sA S21 3 (0 : Int32).toNatClampNeg r3) fun S22 => (some (true, S22)))))
    else (some (true, S20)))))
    else (if v1 = 7 then (if (zI b1) = 0 then (bd (fX7_single v2 S) fun b6 S19 => (if (zI b6) = 0 then (some (false, S19))
    else (some (true, S19))))
    else (some (false, S)))
    else (if v1 ≤ 7 then (some (false, S))
    else (bd (fX7_fits ((S.1 5) &&& 63) 3 4 S) fun b5 S14 => (if (zI b5) = 0 then (some (false, S14))
    else (bv (fX7_operand ((S14.1 5) &&& 63) 4 S14) fun S15 => (jn (fun (S16 : St) => (lt (sI S16 1 (S16.1 14)) fun S17 => (some (true, S17)))) fun K3 =>
    (if 12 ≤ v1 then (K3 S15)
    else (bv (fX7_push (S15.1 1) 4 S15) fun S18 => (K3 S18)))))))))))
    else (bd (fX7_getA v2 S) fun r5 S27 => (bv (fX7_setA 7 r5 S27) fun S28 => (bd (fX7_pop 4 S28) fun r6 S29 => (bv (fX7_setA v2 r6 S29) fun S30 => (some (true, S30)))))))
    else (if v1 = 5 then (bv (fX7_link v2 S) fun S13 => (some (true, S13)))
    else (if v1 = 6 then (bd (fX7_isUser S) fun b4 S7 => (if (zI b4) = 0 then (if (zI b1) = 0 then (if (S7.1 6) = 0 then (bd (fX7_getA v2 S7) fun r2 S10 => (gd (ixo 0 2 = true) (lt (sA S10 3 (0 : Int32).toNatClampNeg r2) fun S11 => (some (true, S11)))))
    else (some (true, S7)))
    else (gd (ixo 0 2 = true) (bv (fX7_setA v2 (S7.2.2 3 (0 : Int32).toNatClampNeg) S7) fun S12 => (some (true, S12)))))
    else (if (S7.1 6) = 0 then (bd (fX7_getA v2 S7) fun r1 S8 => (gd (ixo 0 2 = true) (lt (sA S8 3 (0 : Int32).toNatClampNeg r1) fun S9 => (some (true, S9)))))
    else (some (true, S7)))))
    else (if v1 = 7 then (if (zI b1) = 0 then (bd (fX7_single v2 S) fun b3 S6 => (if (zI b3) = 0 then (some (false, S6))
    else (some (true, S6))))
    else (some (false, S)))
    else (if v1 ≤ 7 then (some (false, S))
    else (bd (fX7_fits ((S.1 5) &&& 63) 3 4 S) fun b2 S1 => (if (zI b2) = 0 then (some (false, S1))
    else (bv (fX7_operand ((S1.1 5) &&& 63) 4 S1) fun S2 => (jn (fun (S3 : St) => (lt (sI S3 1 (S3.1 14)) fun S4 => (some (true, S4)))) fun K2 =>
    (if 12 ≤ v1 then (K2 S2)
    else (bv (fX7_push (S2.1 1) 4 S2) fun S5 => (K2 S5)))))))))))))) fun K1 =>
    (if ((S.1 5) &&& 8) = 0 then (K1 false)
    else (K1 true)))))
abbrev rmX7_group4e : Room := { frames := 6, cells := 0, slots := 0, locals := 138 }
set_option maxRecDepth 100000 in
set_option maxHeartbeats 4000000 in
theorem mX7_group4e (l : Launch) (D : va_G) (ad : Nat → Nat) (cI cB : ClassId) (en : Nat → Nat) (S : St)  (ro : Bool) (So : St) (hs : fX7_group4e  S = some (ro, So)) : uM l yX7_group4e (wg yX7_group4e cX7_group4e 5 (some .boolean)) rmX7_group4e (KM D ad cI cB en) D (wM ad cI cB) (AX 11 ad) [.ref (ad 0)] S (some (.int (zI ro)), So) := by
  refine uM_start (by decide) rfl ?_
  intro p e s m below meth c hx hb hr hlocks hml hown hts hK hP
  have hT : ∀ w ∈ wG, w.before _ s = true := fun w h => hts w (List.mem_cons_of_mem _ h)
  have hS : va_S (AX 11 ad s.heap.size) s.heap s.heap [] := va_S.rf
  have hown : s.vm.findClass RX7 = some m.cls := hown
  have C : CallFix p m c cX7_group4e 5 s _ wG RX7 := ⟨hx, hb, hml, hown, hT⟩
  have hl := lv_entry ([.ref (ad 0)]) (n := 5) (Nat.le_of_ble_eq_true rfl)
  rw [lg_entry_eq]
  generalize (lg_sl ([.ref (ad 0)]) ++ List.replicate (5 - (lg_sl ([.ref (ad 0)])).length) Slot.unset).toArray = ls at hl ⊢
  have hl : lv_has ls 5 [(0, .ref (ad 0))] := hl
  unfold fX7_group4e at hs
  refine lv_aload_n hx hb dX7_group4e_0 rfl (lv_at hl 0 rfl) ?_
  refine gM_X7_op hx hb hT hown hK hP (hT _ tF_X7_174) dX7_group4e_1 ?_
  refine lv_iconst (v := 4) hx hb dX7_group4e_4 (by decide) ?_
  refine lv_ishr hx hb dX7_group4e_5 ?_
  refine lv_bipush (v := 15) hx hb dX7_group4e_6 (by decide) ?_
  refine lv_iand hx hb dX7_group4e_8 ?_
  obtain ⟨v1, h1, hs⟩ := lt_e hs
  refine u_top h1 ?_
  refine lv_istore_n (lv' := [(1, .int v1), (0, .ref (ad 0))]) hx hb dX7_group4e_9 rfl hl (by decide) rfl (fun ls hl => ?_)
  refine lv_aload_n hx hb dX7_group4e_10 rfl (lv_at hl 1 rfl) ?_
  refine gM_X7_op hx hb hT hown hK hP (hT _ tF_X7_174) dX7_group4e_11 ?_
  refine lv_bipush (v := 7) hx hb dX7_group4e_14 (by decide) ?_
  refine lv_iand hx hb dX7_group4e_16 ?_
  obtain ⟨v2, h2, hs⟩ := lt_e hs
  refine u_top h2 ?_
  refine lv_istore_n (lv' := [(2, .int v2), (1, .int v1), (0, .ref (ad 0))]) hx hb dX7_group4e_17 rfl hl (by decide) rfl (fun ls hl => ?_)
  refine lv_aload_n hx hb dX7_group4e_18 rfl (lv_at hl 2 rfl) ?_
  refine gM_X7_op hx hb hT hown hK hP (hT _ tF_X7_174) dX7_group4e_19 ?_
  refine lv_bipush (v := 8) hx hb dX7_group4e_22 (by decide) ?_
  refine lv_iand hx hb dX7_group4e_24 ?_
  refine jn_e hs (fun K1 => ∀ (b1 : Bool) (H : Heap) (locs : List Loc) (ls : Array Slot), lv_has ls 5 [(2, .int v2), (1, .int v1), (0, .ref (ad 0))] → va_P D vwCl (wM ad cI cB S) H → va_S (AX 11 ad s.heap.size) s.heap H locs → K1 b1 = some (ro, So) → W p l e rmX7_group4e s m ([.ref (ad 0)] : List Value).toArray below meth c H locs 0 0 (MQ below (uQ D (wM ad cI cB) (some (.int (zI ro)), So) (AX 11 ad s.heap.size)) ([.ref (ad 0)] : List Value).toArray s 0 0 (AX 11 ad s.heap.size)) (F0 m 33 ls [.int (zI b1)])) ?_ (fun K1 J1 hs => ?_)
  · intro b1 H locs ls hl hP hS hs
    refine lv_istore_n (lv' := [(3, .int (zI b1)), (2, .int v2), (1, .int v1), (0, .ref (ad 0))]) hx hb dX7_group4e_33 rfl hl (by decide) rfl (fun ls hl => ?_)
    refine lv_iload_n hx hb dX7_group4e_34 rfl (lv_at hl 2 rfl) ?_
    refine lv_iconst (v := 4) hx hb dX7_group4e_35 (by decide) ?_
    refine lv_icmp_ne (tgt := 56) hx hb dX7_group4e_36 (by decide) (fun c1 => ?_) (fun c1 => ?_)
    · have hs := if_f c1 hs
      refine lv_iload_n hx hb dX7_group4e_56 rfl (lv_at hl 2 rfl) ?_
      refine lv_iconst (v := 5) hx hb dX7_group4e_57 (by decide) ?_
      refine lv_icmp_ne (tgt := 93) hx hb dX7_group4e_58 (by decide) (fun c2 => ?_) (fun c2 => ?_)
      · have hs := if_f c2 hs
        refine lv_iload_n hx hb dX7_group4e_93 rfl (lv_at hl 2 rfl) ?_
        refine lv_iconst (v := 5) hx hb dX7_group4e_94 (by decide) ?_
        refine lv_icmp_ne (tgt := 106) hx hb dX7_group4e_95 (by decide) (fun c3 => ?_) (fun c3 => ?_)
        · have hs := if_f c3 hs
          refine lv_iload_n hx hb dX7_group4e_106 rfl (lv_at hl 2 rfl) ?_
          refine lv_bipush (v := 6) hx hb dX7_group4e_107 (by decide) ?_
          refine lv_icmp_ne (tgt := 158) hx hb dX7_group4e_109 (by decide) (fun c4 => ?_) (fun c4 => ?_)
          · have hs := if_f c4 hs
            refine lv_iload_n hx hb dX7_group4e_158 rfl (lv_at hl 2 rfl) ?_
            refine lv_bipush (v := 7) hx hb dX7_group4e_159 (by decide) ?_
            refine lv_icmp_ne (tgt := 182) hx hb dX7_group4e_161 (by decide) (fun c5 => ?_) (fun c5 => ?_)
            · have hs := if_f c5 hs
              refine lv_iload_n hx hb dX7_group4e_182 rfl (lv_at hl 2 rfl) ?_
              refine lv_bipush (v := 7) hx hb dX7_group4e_183 (by decide) ?_
              refine lv_icmp_le (tgt := 243) hx hb dX7_group4e_185 (by decide) (fun c6 => ?_) (fun c6 => ?_)
              · have hs := if_t c6 hs
                refine lv_iconst (v := 0) hx hb dX7_group4e_243 (by decide) ?_
                exact u_zret (v := false) hx hb hr hlocks hP hS hs dX7_group4e_244
              · have hs := if_f c6 hs
                refine lv_aload_n hx hb dX7_group4e_188 rfl (lv_at hl 3 rfl) ?_
                refine gM_X7_op hx hb hT hown hK hP (hT _ tF_X7_174) dX7_group4e_189 ?_
                refine lv_bipush (v := 63) hx hb dX7_group4e_192 (by decide) ?_
                refine lv_iand hx hb dX7_group4e_194 ?_
                refine lv_iconst (v := 3) hx hb dX7_group4e_195 (by decide) ?_
                refine lv_iconst (v := 4) hx hb dX7_group4e_196 (by decide) ?_
                obtain ⟨b2, S1, h3, hs⟩ := bd_e hs
                refine kX7_fits C tM_X7_188 ⟨Nat.le_of_ble_eq_true rfl, Nat.le_of_ble_eq_true rfl⟩ ⟨Nat.le_of_ble_eq_true rfl, Nat.le_of_ble_eq_true rfl⟩ hK hP hS hl.1 (rest := []) (Nat.le_of_ble_eq_true rfl) dX7_group4e_197 h3 (fun H locs hP hS => ?_)
                refine lv_if_ne (tgt := 205) hx hb dX7_group4e_200 (by decide) (fun c7 => ?_) (fun c7 => ?_)
                · have hs := if_f c7 hs
                  refine lv_aload_n hx hb dX7_group4e_205 rfl (lv_at hl 3 rfl) ?_
                  refine lv_aload_n hx hb dX7_group4e_206 rfl (lv_at hl 3 rfl) ?_
                  refine gM_X7_op hx hb hT hown hK hP (hT _ tF_X7_174) dX7_group4e_207 ?_
                  refine lv_bipush (v := 63) hx hb dX7_group4e_210 (by decide) ?_
                  refine lv_iand hx hb dX7_group4e_212 ?_
                  refine lv_iconst (v := 4) hx hb dX7_group4e_213 (by decide) ?_
                  obtain ⟨S2, h4, hs⟩ := bv_e hs
                  refine kX7_operand C tM_X7_192 ⟨Nat.le_of_ble_eq_true rfl, Nat.le_of_ble_eq_true rfl⟩ ⟨Nat.le_of_ble_eq_true rfl, Nat.le_of_ble_eq_true rfl⟩ hK hP hS hl.1 (rest := []) (Nat.le_of_ble_eq_true rfl) dX7_group4e_214 h4 (fun H locs hP hS => ?_)
                  refine lv_iload_n hx hb dX7_group4e_217 rfl (lv_at hl 2 rfl) ?_
                  refine lv_bipush (v := 12) hx hb dX7_group4e_218 (by decide) ?_
                  refine jn_e hs (fun K2 => ∀ (S3 : St) (H : Heap) (locs : List Loc) (ls : Array Slot), lv_has ls 5 [(0, .ref (ad 0))] → va_P D vwCl (wM ad cI cB S3) H → va_S (AX 11 ad s.heap.size) s.heap H locs → K2 S3 = some (ro, So) → W p l e rmX7_group4e s m ([.ref (ad 0)] : List Value).toArray below meth c H locs 0 0 (MQ below (uQ D (wM ad cI cB) (some (.int (zI ro)), So) (AX 11 ad s.heap.size)) ([.ref (ad 0)] : List Value).toArray s 0 0 (AX 11 ad s.heap.size)) (F0 m 232 ls [])) ?_ (fun K2 J2 hs => ?_)
                  · intro S3 H locs ls hl hP hS hs
                    refine lv_aload_n hx hb dX7_group4e_232 rfl (lv_at hl 0 rfl) ?_
                    refine lv_aload_n hx hb dX7_group4e_233 rfl (lv_at hl 0 rfl) ?_
                    refine gM_X7_address hx hb hT hown hK hP (hT _ tF_X7_135) dX7_group4e_234 ?_
                    obtain ⟨S4, h5, hs⟩ := lt_e hs
                    refine pM_X7_pc hx hb hT hown hK hP hS (hT _ tF_X7_47) dX7_group4e_237 (v := (S3.1 14)) h5 (fun H locs hP hS => ?_)
                    refine lv_goto (tgt := 245) hx hb dX7_group4e_240 (by decide) ?_
                    refine lv_iconst (v := 1) hx hb dX7_group4e_245 (by decide) ?_
                    exact u_zret (v := true) hx hb hr hlocks hP hS hs dX7_group4e_246
                  ·
                    refine lv_icmp_ge (tgt := 232) hx hb dX7_group4e_220 (by decide) (fun c8 => ?_) (fun c8 => ?_)
                    · have hs := if_t c8 hs
                      exact J2 S2 _ _ _ (lv_sub hl [3] rfl) hP hS hs
                    · have hs := if_f c8 hs
                      refine lv_aload_n hx hb dX7_group4e_223 rfl (lv_at hl 3 rfl) ?_
                      refine lv_aload_n hx hb dX7_group4e_224 rfl (lv_at hl 3 rfl) ?_
                      refine gM_X7_pc hx hb hT hown hK hP (hT _ tF_X7_47) dX7_group4e_225 ?_
                      refine lv_iconst (v := 4) hx hb dX7_group4e_228 (by decide) ?_
                      obtain ⟨S5, h6, hs⟩ := bv_e hs
                      refine kX7_push C tM_X7_230 ⟨Nat.le_of_ble_eq_true rfl, Nat.le_of_ble_eq_true rfl⟩ ⟨Nat.le_of_ble_eq_true rfl, Nat.le_of_ble_eq_true rfl⟩ hK hP hS hl.1 (rest := []) (Nat.le_of_ble_eq_true rfl) dX7_group4e_229 h6 (fun H locs hP hS => ?_)
                      exact J2 S5 _ _ _ (lv_sub hl [3] rfl) hP hS hs
                · have hs := if_t c7 hs
                  refine lv_iconst (v := 0) hx hb dX7_group4e_203 (by decide) ?_
                  exact u_zret (v := false) hx hb hr hlocks hP hS hs dX7_group4e_204
            · have hs := if_t c5 hs
              refine lv_iload_n hx hb dX7_group4e_164 rfl (lv_at hl 0 rfl) ?_
              refine lv_if_ne (tgt := 180) hx hb dX7_group4e_165 (by decide) (fun c9 => ?_) (fun c9 => ?_)
              · have hs := if_f c9 hs
                refine lv_iconst (v := 0) hx hb dX7_group4e_180 (by decide) ?_
                exact u_zret (v := false) hx hb hr hlocks hP hS hs dX7_group4e_181
              · have hs := if_t c9 hs
                refine lv_aload_n hx hb dX7_group4e_168 rfl (lv_at hl 3 rfl) ?_
                refine lv_iload_n hx hb dX7_group4e_169 rfl (lv_at hl 1 rfl) ?_
                obtain ⟨b3, S6, h7, hs⟩ := bd_e hs
                refine kX7_single C tM_X7_251 ⟨Nat.le_of_ble_eq_true rfl, Nat.le_of_ble_eq_true rfl⟩ ⟨Nat.le_of_ble_eq_true rfl, Nat.le_of_ble_eq_true rfl⟩ hK hP hS hl.1 (rest := []) (Nat.le_of_ble_eq_true rfl) dX7_group4e_170 h7 (fun H locs hP hS => ?_)
                refine lv_if_eq (tgt := 180) hx hb dX7_group4e_173 (by decide) (fun c10 => ?_) (fun c10 => ?_)
                · have hs := if_t c10 hs
                  refine lv_iconst (v := 0) hx hb dX7_group4e_180 (by decide) ?_
                  exact u_zret (v := false) hx hb hr hlocks hP hS hs dX7_group4e_181
                · have hs := if_f c10 hs
                  refine lv_iconst (v := 1) hx hb dX7_group4e_176 (by decide) ?_
                  refine lv_goto (tgt := 181) hx hb dX7_group4e_177 (by decide) ?_
                  exact u_zret (v := true) hx hb hr hlocks hP hS hs dX7_group4e_181
          · have hs := if_t c4 hs
            refine lv_aload_n hx hb dX7_group4e_112 rfl (lv_at hl 3 rfl) ?_
            obtain ⟨b4, S7, h8, hs⟩ := bd_e hs
            refine kX7_isUser C tM_X7_177 ⟨Nat.le_of_ble_eq_true rfl, Nat.le_of_ble_eq_true rfl⟩ ⟨Nat.le_of_ble_eq_true rfl, Nat.le_of_ble_eq_true rfl⟩ hK hP hS hl.1 (rest := []) (Nat.le_of_ble_eq_true rfl) dX7_group4e_113 h8 (fun H locs hP hS => ?_)
            refine lv_if_ne (tgt := 137) hx hb dX7_group4e_116 (by decide) (fun c11 => ?_) (fun c11 => ?_)
            · have hs := if_f c11 hs
              refine lv_aload_n hx hb dX7_group4e_137 rfl (lv_at hl 3 rfl) ?_
              refine gM_X7_trouble hx hb hT hown hK hP (hT _ tF_X7_100) dX7_group4e_138 ?_
              refine lv_if_ne (tgt := 245) hx hb dX7_group4e_141 (by decide) (fun c12 => ?_) (fun c12 => ?_)
              · have hs := if_f c12 hs
                refine lv_iconst (v := 1) hx hb dX7_group4e_245 (by decide) ?_
                exact u_zret (v := true) hx hb hr hlocks hP hS hs dX7_group4e_246
              · have hs := if_t c12 hs
                refine lv_aload_n hx hb dX7_group4e_144 rfl (lv_at hl 3 rfl) ?_
                refine gM_X7_stack hx hb hT hown hK hP (hT _ tF_X7_19) dX7_group4e_145 ?_
                refine lv_iconst (v := 0) hx hb dX7_group4e_148 (by decide) ?_
                refine lv_aload_n hx hb dX7_group4e_149 rfl (lv_at hl 3 rfl) ?_
                refine lv_iload_n hx hb dX7_group4e_150 rfl (lv_at hl 1 rfl) ?_
                obtain ⟨r1, S8, h9, hs⟩ := bd_e hs
                refine kX7_getA C tM_X7_70 ⟨Nat.le_of_ble_eq_true rfl, Nat.le_of_ble_eq_true rfl⟩ ⟨Nat.le_of_ble_eq_true rfl, Nat.le_of_ble_eq_true rfl⟩ hK hP hS hl.1 (rest := [.int 0, .ref (ad 4)]) (Nat.le_of_ble_eq_true rfl) dX7_group4e_151 h9 (fun H locs hP hS => ?_)
                obtain ⟨h10, hs⟩ := gd_e hs
                obtain ⟨S9, h11, hs⟩ := lt_e hs
                refine sM_stack hx hb hK hP hS (v := r1) (ixo_in h10) dX7_group4e_154 h11 (fun H locs hP hS => ?_)
                refine lv_goto (tgt := 245) hx hb dX7_group4e_155 (by decide) ?_
                refine lv_iconst (v := 1) hx hb dX7_group4e_245 (by decide) ?_
                exact u_zret (v := true) hx hb hr hlocks hP hS hs dX7_group4e_246
            · have hs := if_t c11 hs
              refine lv_iload_n hx hb dX7_group4e_119 rfl (lv_at hl 0 rfl) ?_
              refine lv_if_eq (tgt := 137) hx hb dX7_group4e_120 (by decide) (fun c13 => ?_) (fun c13 => ?_)
              · have hs := if_t c13 hs
                refine lv_aload_n hx hb dX7_group4e_137 rfl (lv_at hl 3 rfl) ?_
                refine gM_X7_trouble hx hb hT hown hK hP (hT _ tF_X7_100) dX7_group4e_138 ?_
                refine lv_if_ne (tgt := 245) hx hb dX7_group4e_141 (by decide) (fun c14 => ?_) (fun c14 => ?_)
                · have hs := if_f c14 hs
                  refine lv_iconst (v := 1) hx hb dX7_group4e_245 (by decide) ?_
                  exact u_zret (v := true) hx hb hr hlocks hP hS hs dX7_group4e_246
                · have hs := if_t c14 hs
                  refine lv_aload_n hx hb dX7_group4e_144 rfl (lv_at hl 3 rfl) ?_
                  refine gM_X7_stack hx hb hT hown hK hP (hT _ tF_X7_19) dX7_group4e_145 ?_
                  refine lv_iconst (v := 0) hx hb dX7_group4e_148 (by decide) ?_
                  refine lv_aload_n hx hb dX7_group4e_149 rfl (lv_at hl 3 rfl) ?_
                  refine lv_iload_n hx hb dX7_group4e_150 rfl (lv_at hl 1 rfl) ?_
                  obtain ⟨r2, S10, h12, hs⟩ := bd_e hs
                  refine kX7_getA C tM_X7_70 ⟨Nat.le_of_ble_eq_true rfl, Nat.le_of_ble_eq_true rfl⟩ ⟨Nat.le_of_ble_eq_true rfl, Nat.le_of_ble_eq_true rfl⟩ hK hP hS hl.1 (rest := [.int 0, .ref (ad 4)]) (Nat.le_of_ble_eq_true rfl) dX7_group4e_151 h12 (fun H locs hP hS => ?_)
                  obtain ⟨h13, hs⟩ := gd_e hs
                  obtain ⟨S11, h14, hs⟩ := lt_e hs
                  refine sM_stack hx hb hK hP hS (v := r2) (ixo_in h13) dX7_group4e_154 h14 (fun H locs hP hS => ?_)
                  refine lv_goto (tgt := 245) hx hb dX7_group4e_155 (by decide) ?_
                  refine lv_iconst (v := 1) hx hb dX7_group4e_245 (by decide) ?_
                  exact u_zret (v := true) hx hb hr hlocks hP hS hs dX7_group4e_246
              · have hs := if_f c13 hs
                refine lv_aload_n hx hb dX7_group4e_123 rfl (lv_at hl 3 rfl) ?_
                refine lv_iload_n hx hb dX7_group4e_124 rfl (lv_at hl 1 rfl) ?_
                refine lv_aload_n hx hb dX7_group4e_125 rfl (lv_at hl 3 rfl) ?_
                refine gM_X7_stack hx hb hT hown hK hP (hT _ tF_X7_19) dX7_group4e_126 ?_
                refine lv_iconst (v := 0) hx hb dX7_group4e_129 (by decide) ?_
                obtain ⟨h15, hs⟩ := gd_e hs
                refine lM_stack hx hb hK hP (ixo_in h15) dX7_group4e_130 ?_
                obtain ⟨S12, h16, hs⟩ := bv_e hs
                refine kX7_setA C tM_X7_74 ⟨Nat.le_of_ble_eq_true rfl, Nat.le_of_ble_eq_true rfl⟩ ⟨Nat.le_of_ble_eq_true rfl, Nat.le_of_ble_eq_true rfl⟩ hK hP hS hl.1 (rest := []) (Nat.le_of_ble_eq_true rfl) dX7_group4e_131 h16 (fun H locs hP hS => ?_)
                refine lv_goto (tgt := 245) hx hb dX7_group4e_134 (by decide) ?_
                refine lv_iconst (v := 1) hx hb dX7_group4e_245 (by decide) ?_
                exact u_zret (v := true) hx hb hr hlocks hP hS hs dX7_group4e_246
        · have hs := if_t c3 hs
          refine lv_aload_n hx hb dX7_group4e_98 rfl (lv_at hl 3 rfl) ?_
          refine lv_iload_n hx hb dX7_group4e_99 rfl (lv_at hl 1 rfl) ?_
          obtain ⟨S13, h17, hs⟩ := bv_e hs
          refine kX7_link C tM_X7_248 ⟨Nat.le_of_ble_eq_true rfl, Nat.le_of_ble_eq_true rfl⟩ ⟨Nat.le_of_ble_eq_true rfl, Nat.le_of_ble_eq_true rfl⟩ hK hP hS hl.1 (rest := []) (Nat.le_of_ble_eq_true rfl) dX7_group4e_100 h17 (fun H locs hP hS => ?_)
          refine lv_goto (tgt := 245) hx hb dX7_group4e_103 (by decide) ?_
          refine lv_iconst (v := 1) hx hb dX7_group4e_245 (by decide) ?_
          exact u_zret (v := true) hx hb hr hlocks hP hS hs dX7_group4e_246
      · have hs := if_t c2 hs
        refine lv_iload_n hx hb dX7_group4e_61 rfl (lv_at hl 0 rfl) ?_
        refine lv_if_eq (tgt := 93) hx hb dX7_group4e_62 (by decide) (fun c15 => ?_) (fun c15 => ?_)
        · have hs := if_t c15 hs
          refine lv_iload_n hx hb dX7_group4e_93 rfl (lv_at hl 2 rfl) ?_
          refine lv_iconst (v := 5) hx hb dX7_group4e_94 (by decide) ?_
          refine lv_icmp_ne (tgt := 106) hx hb dX7_group4e_95 (by decide) (fun c16 => ?_) (fun c16 => ?_)
          · have hs := if_f c16 hs
            refine lv_iload_n hx hb dX7_group4e_106 rfl (lv_at hl 2 rfl) ?_
            refine lv_bipush (v := 6) hx hb dX7_group4e_107 (by decide) ?_
            refine lv_icmp_ne (tgt := 158) hx hb dX7_group4e_109 (by decide) (fun c17 => ?_) (fun c17 => ?_)
            · have hs := if_f c17 hs
              refine lv_iload_n hx hb dX7_group4e_158 rfl (lv_at hl 2 rfl) ?_
              refine lv_bipush (v := 7) hx hb dX7_group4e_159 (by decide) ?_
              refine lv_icmp_ne (tgt := 182) hx hb dX7_group4e_161 (by decide) (fun c18 => ?_) (fun c18 => ?_)
              · have hs := if_f c18 hs
                refine lv_iload_n hx hb dX7_group4e_182 rfl (lv_at hl 2 rfl) ?_
                refine lv_bipush (v := 7) hx hb dX7_group4e_183 (by decide) ?_
                refine lv_icmp_le (tgt := 243) hx hb dX7_group4e_185 (by decide) (fun c19 => ?_) (fun c19 => ?_)
                · have hs := if_t c19 hs
                  refine lv_iconst (v := 0) hx hb dX7_group4e_243 (by decide) ?_
                  exact u_zret (v := false) hx hb hr hlocks hP hS hs dX7_group4e_244
                · have hs := if_f c19 hs
                  refine lv_aload_n hx hb dX7_group4e_188 rfl (lv_at hl 3 rfl) ?_
                  refine gM_X7_op hx hb hT hown hK hP (hT _ tF_X7_174) dX7_group4e_189 ?_
                  refine lv_bipush (v := 63) hx hb dX7_group4e_192 (by decide) ?_
                  refine lv_iand hx hb dX7_group4e_194 ?_
                  refine lv_iconst (v := 3) hx hb dX7_group4e_195 (by decide) ?_
                  refine lv_iconst (v := 4) hx hb dX7_group4e_196 (by decide) ?_
                  obtain ⟨b5, S14, h18, hs⟩ := bd_e hs
                  refine kX7_fits C tM_X7_188 ⟨Nat.le_of_ble_eq_true rfl, Nat.le_of_ble_eq_true rfl⟩ ⟨Nat.le_of_ble_eq_true rfl, Nat.le_of_ble_eq_true rfl⟩ hK hP hS hl.1 (rest := []) (Nat.le_of_ble_eq_true rfl) dX7_group4e_197 h18 (fun H locs hP hS => ?_)
                  refine lv_if_ne (tgt := 205) hx hb dX7_group4e_200 (by decide) (fun c20 => ?_) (fun c20 => ?_)
                  · have hs := if_f c20 hs
                    refine lv_aload_n hx hb dX7_group4e_205 rfl (lv_at hl 3 rfl) ?_
                    refine lv_aload_n hx hb dX7_group4e_206 rfl (lv_at hl 3 rfl) ?_
                    refine gM_X7_op hx hb hT hown hK hP (hT _ tF_X7_174) dX7_group4e_207 ?_
                    refine lv_bipush (v := 63) hx hb dX7_group4e_210 (by decide) ?_
                    refine lv_iand hx hb dX7_group4e_212 ?_
                    refine lv_iconst (v := 4) hx hb dX7_group4e_213 (by decide) ?_
                    obtain ⟨S15, h19, hs⟩ := bv_e hs
                    refine kX7_operand C tM_X7_192 ⟨Nat.le_of_ble_eq_true rfl, Nat.le_of_ble_eq_true rfl⟩ ⟨Nat.le_of_ble_eq_true rfl, Nat.le_of_ble_eq_true rfl⟩ hK hP hS hl.1 (rest := []) (Nat.le_of_ble_eq_true rfl) dX7_group4e_214 h19 (fun H locs hP hS => ?_)
                    refine lv_iload_n hx hb dX7_group4e_217 rfl (lv_at hl 2 rfl) ?_
                    refine lv_bipush (v := 12) hx hb dX7_group4e_218 (by decide) ?_
                    refine jn_e hs (fun K3 => ∀ (S16 : St) (H : Heap) (locs : List Loc) (ls : Array Slot), lv_has ls 5 [(0, .ref (ad 0))] → va_P D vwCl (wM ad cI cB S16) H → va_S (AX 11 ad s.heap.size) s.heap H locs → K3 S16 = some (ro, So) → W p l e rmX7_group4e s m ([.ref (ad 0)] : List Value).toArray below meth c H locs 0 0 (MQ below (uQ D (wM ad cI cB) (some (.int (zI ro)), So) (AX 11 ad s.heap.size)) ([.ref (ad 0)] : List Value).toArray s 0 0 (AX 11 ad s.heap.size)) (F0 m 232 ls [])) ?_ (fun K3 J3 hs => ?_)
                    · intro S16 H locs ls hl hP hS hs
                      refine lv_aload_n hx hb dX7_group4e_232 rfl (lv_at hl 0 rfl) ?_
                      refine lv_aload_n hx hb dX7_group4e_233 rfl (lv_at hl 0 rfl) ?_
                      refine gM_X7_address hx hb hT hown hK hP (hT _ tF_X7_135) dX7_group4e_234 ?_
                      obtain ⟨S17, h20, hs⟩ := lt_e hs
                      refine pM_X7_pc hx hb hT hown hK hP hS (hT _ tF_X7_47) dX7_group4e_237 (v := (S16.1 14)) h20 (fun H locs hP hS => ?_)
                      refine lv_goto (tgt := 245) hx hb dX7_group4e_240 (by decide) ?_
                      refine lv_iconst (v := 1) hx hb dX7_group4e_245 (by decide) ?_
                      exact u_zret (v := true) hx hb hr hlocks hP hS hs dX7_group4e_246
                    ·
                      refine lv_icmp_ge (tgt := 232) hx hb dX7_group4e_220 (by decide) (fun c21 => ?_) (fun c21 => ?_)
                      · have hs := if_t c21 hs
                        exact J3 S15 _ _ _ (lv_sub hl [3] rfl) hP hS hs
                      · have hs := if_f c21 hs
                        refine lv_aload_n hx hb dX7_group4e_223 rfl (lv_at hl 3 rfl) ?_
                        refine lv_aload_n hx hb dX7_group4e_224 rfl (lv_at hl 3 rfl) ?_
                        refine gM_X7_pc hx hb hT hown hK hP (hT _ tF_X7_47) dX7_group4e_225 ?_
                        refine lv_iconst (v := 4) hx hb dX7_group4e_228 (by decide) ?_
                        obtain ⟨S18, h21, hs⟩ := bv_e hs
                        refine kX7_push C tM_X7_230 ⟨Nat.le_of_ble_eq_true rfl, Nat.le_of_ble_eq_true rfl⟩ ⟨Nat.le_of_ble_eq_true rfl, Nat.le_of_ble_eq_true rfl⟩ hK hP hS hl.1 (rest := []) (Nat.le_of_ble_eq_true rfl) dX7_group4e_229 h21 (fun H locs hP hS => ?_)
                        exact J3 S18 _ _ _ (lv_sub hl [3] rfl) hP hS hs
                  · have hs := if_t c20 hs
                    refine lv_iconst (v := 0) hx hb dX7_group4e_203 (by decide) ?_
                    exact u_zret (v := false) hx hb hr hlocks hP hS hs dX7_group4e_204
              · have hs := if_t c18 hs
                refine lv_iload_n hx hb dX7_group4e_164 rfl (lv_at hl 0 rfl) ?_
                refine lv_if_ne (tgt := 180) hx hb dX7_group4e_165 (by decide) (fun c22 => ?_) (fun c22 => ?_)
                · have hs := if_f c22 hs
                  refine lv_iconst (v := 0) hx hb dX7_group4e_180 (by decide) ?_
                  exact u_zret (v := false) hx hb hr hlocks hP hS hs dX7_group4e_181
                · have hs := if_t c22 hs
                  refine lv_aload_n hx hb dX7_group4e_168 rfl (lv_at hl 3 rfl) ?_
                  refine lv_iload_n hx hb dX7_group4e_169 rfl (lv_at hl 1 rfl) ?_
                  obtain ⟨b6, S19, h22, hs⟩ := bd_e hs
                  refine kX7_single C tM_X7_251 ⟨Nat.le_of_ble_eq_true rfl, Nat.le_of_ble_eq_true rfl⟩ ⟨Nat.le_of_ble_eq_true rfl, Nat.le_of_ble_eq_true rfl⟩ hK hP hS hl.1 (rest := []) (Nat.le_of_ble_eq_true rfl) dX7_group4e_170 h22 (fun H locs hP hS => ?_)
                  refine lv_if_eq (tgt := 180) hx hb dX7_group4e_173 (by decide) (fun c23 => ?_) (fun c23 => ?_)
                  · have hs := if_t c23 hs
                    refine lv_iconst (v := 0) hx hb dX7_group4e_180 (by decide) ?_
                    exact u_zret (v := false) hx hb hr hlocks hP hS hs dX7_group4e_181
                  · have hs := if_f c23 hs
                    refine lv_iconst (v := 1) hx hb dX7_group4e_176 (by decide) ?_
                    refine lv_goto (tgt := 181) hx hb dX7_group4e_177 (by decide) ?_
                    exact u_zret (v := true) hx hb hr hlocks hP hS hs dX7_group4e_181
            · have hs := if_t c17 hs
              refine lv_aload_n hx hb dX7_group4e_112 rfl (lv_at hl 3 rfl) ?_
              obtain ⟨b7, S20, h23, hs⟩ := bd_e hs
              refine kX7_isUser C tM_X7_177 ⟨Nat.le_of_ble_eq_true rfl, Nat.le_of_ble_eq_true rfl⟩ ⟨Nat.le_of_ble_eq_true rfl, Nat.le_of_ble_eq_true rfl⟩ hK hP hS hl.1 (rest := []) (Nat.le_of_ble_eq_true rfl) dX7_group4e_113 h23 (fun H locs hP hS => ?_)
              refine lv_if_ne (tgt := 137) hx hb dX7_group4e_116 (by decide) (fun c24 => ?_) (fun c24 => ?_)
              · have hs := if_f c24 hs
                refine lv_aload_n hx hb dX7_group4e_137 rfl (lv_at hl 3 rfl) ?_
                refine gM_X7_trouble hx hb hT hown hK hP (hT _ tF_X7_100) dX7_group4e_138 ?_
                refine lv_if_ne (tgt := 245) hx hb dX7_group4e_141 (by decide) (fun c25 => ?_) (fun c25 => ?_)
                · have hs := if_f c25 hs
                  refine lv_iconst (v := 1) hx hb dX7_group4e_245 (by decide) ?_
                  exact u_zret (v := true) hx hb hr hlocks hP hS hs dX7_group4e_246
                · have hs := if_t c25 hs
                  refine lv_aload_n hx hb dX7_group4e_144 rfl (lv_at hl 3 rfl) ?_
                  refine gM_X7_stack hx hb hT hown hK hP (hT _ tF_X7_19) dX7_group4e_145 ?_
                  refine lv_iconst (v := 0) hx hb dX7_group4e_148 (by decide) ?_
                  refine lv_aload_n hx hb dX7_group4e_149 rfl (lv_at hl 3 rfl) ?_
                  refine lv_iload_n hx hb dX7_group4e_150 rfl (lv_at hl 1 rfl) ?_
                  obtain ⟨r3, S21, h24, hs⟩ := bd_e hs
                  refine kX7_getA C tM_X7_70 ⟨Nat.le_of_ble_eq_true rfl, Nat.le_of_ble_eq_true rfl⟩ ⟨Nat.le_of_ble_eq_true rfl, Nat.le_of_ble_eq_true rfl⟩ hK hP hS hl.1 (rest := [.int 0, .ref (ad 4)]) (Nat.le_of_ble_eq_true rfl) dX7_group4e_151 h24 (fun H locs hP hS => ?_)
                  obtain ⟨h25, hs⟩ := gd_e hs
                  obtain ⟨S22, h26, hs⟩ := lt_e hs
                  refine sM_stack hx hb hK hP hS (v := r3) (ixo_in h25) dX7_group4e_154 h26 (fun H locs hP hS => ?_)
                  refine lv_goto (tgt := 245) hx hb dX7_group4e_155 (by decide) ?_
                  refine lv_iconst (v := 1) hx hb dX7_group4e_245 (by decide) ?_
                  exact u_zret (v := true) hx hb hr hlocks hP hS hs dX7_group4e_246
              · have hs := if_t c24 hs
                refine lv_iload_n hx hb dX7_group4e_119 rfl (lv_at hl 0 rfl) ?_
                refine lv_if_eq (tgt := 137) hx hb dX7_group4e_120 (by decide) (fun c26 => ?_) (fun c26 => ?_)
                · have hs := if_t c26 hs
                  refine lv_aload_n hx hb dX7_group4e_137 rfl (lv_at hl 3 rfl) ?_
                  refine gM_X7_trouble hx hb hT hown hK hP (hT _ tF_X7_100) dX7_group4e_138 ?_
                  refine lv_if_ne (tgt := 245) hx hb dX7_group4e_141 (by decide) (fun c27 => ?_) (fun c27 => ?_)
                  · have hs := if_f c27 hs
                    refine lv_iconst (v := 1) hx hb dX7_group4e_245 (by decide) ?_
                    exact u_zret (v := true) hx hb hr hlocks hP hS hs dX7_group4e_246
                  · have hs := if_t c27 hs
                    refine lv_aload_n hx hb dX7_group4e_144 rfl (lv_at hl 3 rfl) ?_
                    refine gM_X7_stack hx hb hT hown hK hP (hT _ tF_X7_19) dX7_group4e_145 ?_
                    refine lv_iconst (v := 0) hx hb dX7_group4e_148 (by decide) ?_
                    refine lv_aload_n hx hb dX7_group4e_149 rfl (lv_at hl 3 rfl) ?_
                    refine lv_iload_n hx hb dX7_group4e_150 rfl (lv_at hl 1 rfl) ?_
                    obtain ⟨r4, S23, h27, hs⟩ := bd_e hs
                    refine kX7_getA C tM_X7_70 ⟨Nat.le_of_ble_eq_true rfl, Nat.le_of_ble_eq_true rfl⟩ ⟨Nat.le_of_ble_eq_true rfl, Nat.le_of_ble_eq_true rfl⟩ hK hP hS hl.1 (rest := [.int 0, .ref (ad 4)]) (Nat.le_of_ble_eq_true rfl) dX7_group4e_151 h27 (fun H locs hP hS => ?_)
                    obtain ⟨h28, hs⟩ := gd_e hs
                    obtain ⟨S24, h29, hs⟩ := lt_e hs
                    refine sM_stack hx hb hK hP hS (v := r4) (ixo_in h28) dX7_group4e_154 h29 (fun H locs hP hS => ?_)
                    refine lv_goto (tgt := 245) hx hb dX7_group4e_155 (by decide) ?_
                    refine lv_iconst (v := 1) hx hb dX7_group4e_245 (by decide) ?_
                    exact u_zret (v := true) hx hb hr hlocks hP hS hs dX7_group4e_246
                · have hs := if_f c26 hs
                  refine lv_aload_n hx hb dX7_group4e_123 rfl (lv_at hl 3 rfl) ?_
                  refine lv_iload_n hx hb dX7_group4e_124 rfl (lv_at hl 1 rfl) ?_
                  refine lv_aload_n hx hb dX7_group4e_125 rfl (lv_at hl 3 rfl) ?_
                  refine gM_X7_stack hx hb hT hown hK hP (hT _ tF_X7_19) dX7_group4e_126 ?_
                  refine lv_iconst (v := 0) hx hb dX7_group4e_129 (by decide) ?_
                  obtain ⟨h30, hs⟩ := gd_e hs
                  refine lM_stack hx hb hK hP (ixo_in h30) dX7_group4e_130 ?_
                  obtain ⟨S25, h31, hs⟩ := bv_e hs
                  refine kX7_setA C tM_X7_74 ⟨Nat.le_of_ble_eq_true rfl, Nat.le_of_ble_eq_true rfl⟩ ⟨Nat.le_of_ble_eq_true rfl, Nat.le_of_ble_eq_true rfl⟩ hK hP hS hl.1 (rest := []) (Nat.le_of_ble_eq_true rfl) dX7_group4e_131 h31 (fun H locs hP hS => ?_)
                  refine lv_goto (tgt := 245) hx hb dX7_group4e_134 (by decide) ?_
                  refine lv_iconst (v := 1) hx hb dX7_group4e_245 (by decide) ?_
                  exact u_zret (v := true) hx hb hr hlocks hP hS hs dX7_group4e_246
          · have hs := if_t c16 hs
            refine lv_aload_n hx hb dX7_group4e_98 rfl (lv_at hl 3 rfl) ?_
            refine lv_iload_n hx hb dX7_group4e_99 rfl (lv_at hl 1 rfl) ?_
            obtain ⟨S26, h32, hs⟩ := bv_e hs
            refine kX7_link C tM_X7_248 ⟨Nat.le_of_ble_eq_true rfl, Nat.le_of_ble_eq_true rfl⟩ ⟨Nat.le_of_ble_eq_true rfl, Nat.le_of_ble_eq_true rfl⟩ hK hP hS hl.1 (rest := []) (Nat.le_of_ble_eq_true rfl) dX7_group4e_100 h32 (fun H locs hP hS => ?_)
            refine lv_goto (tgt := 245) hx hb dX7_group4e_103 (by decide) ?_
            refine lv_iconst (v := 1) hx hb dX7_group4e_245 (by decide) ?_
            exact u_zret (v := true) hx hb hr hlocks hP hS hs dX7_group4e_246
        · have hs := if_f c15 hs
          refine lv_aload_n hx hb dX7_group4e_65 rfl (lv_at hl 3 rfl) ?_
          refine lv_bipush (v := 7) hx hb dX7_group4e_66 (by decide) ?_
          refine lv_aload_n hx hb dX7_group4e_68 rfl (lv_at hl 3 rfl) ?_
          refine lv_iload_n hx hb dX7_group4e_69 rfl (lv_at hl 1 rfl) ?_
          obtain ⟨r5, S27, h33, hs⟩ := bd_e hs
          refine kX7_getA C tM_X7_70 ⟨Nat.le_of_ble_eq_true rfl, Nat.le_of_ble_eq_true rfl⟩ ⟨Nat.le_of_ble_eq_true rfl, Nat.le_of_ble_eq_true rfl⟩ hK hP hS hl.1 (rest := [.int 7, .ref (ad 0)]) (Nat.le_of_ble_eq_true rfl) dX7_group4e_70 h33 (fun H locs hP hS => ?_)
          obtain ⟨S28, h34, hs⟩ := bv_e hs
          refine kX7_setA C tM_X7_74 ⟨Nat.le_of_ble_eq_true rfl, Nat.le_of_ble_eq_true rfl⟩ ⟨Nat.le_of_ble_eq_true rfl, Nat.le_of_ble_eq_true rfl⟩ hK hP hS hl.1 (rest := []) (Nat.le_of_ble_eq_true rfl) dX7_group4e_73 h34 (fun H locs hP hS => ?_)
          refine lv_aload_n hx hb dX7_group4e_76 rfl (lv_at hl 3 rfl) ?_
          refine lv_iconst (v := 4) hx hb dX7_group4e_77 (by decide) ?_
          obtain ⟨r6, S29, h35, hs⟩ := bd_e hs
          refine kX7_pop C tM_X7_236 ⟨Nat.le_of_ble_eq_true rfl, Nat.le_of_ble_eq_true rfl⟩ ⟨Nat.le_of_ble_eq_true rfl, Nat.le_of_ble_eq_true rfl⟩ hK hP hS hl.1 (rest := []) (Nat.le_of_ble_eq_true rfl) dX7_group4e_78 h35 (fun H locs hP hS => ?_)
          refine lv_istore (lv' := [(4, .int r6), (3, .int (zI b1)), (2, .int v2), (1, .int v1), (0, .ref (ad 0))]) hx hb dX7_group4e_81 hl (by decide) rfl (fun ls hl => ?_)
          refine lv_aload_n hx hb dX7_group4e_83 rfl (lv_at hl 4 rfl) ?_
          refine lv_iload_n hx hb dX7_group4e_84 rfl (lv_at hl 2 rfl) ?_
          refine lv_iload hx hb dX7_group4e_85 (lv_at hl 0 rfl) ?_
          obtain ⟨S30, h36, hs⟩ := bv_e hs
          refine kX7_setA C tM_X7_74 ⟨Nat.le_of_ble_eq_true rfl, Nat.le_of_ble_eq_true rfl⟩ ⟨Nat.le_of_ble_eq_true rfl, Nat.le_of_ble_eq_true rfl⟩ hK hP hS hl.1 (rest := []) (Nat.le_of_ble_eq_true rfl) dX7_group4e_87 h36 (fun H locs hP hS => ?_)
          refine lv_goto (tgt := 245) hx hb dX7_group4e_90 (by decide) ?_
          refine lv_iconst (v := 1) hx hb dX7_group4e_245 (by decide) ?_
          exact u_zret (v := true) hx hb hr hlocks hP hS hs dX7_group4e_246
    · have hs := if_t c1 hs
      refine lv_aload_n hx hb dX7_group4e_39 rfl (lv_at hl 3 rfl) ?_
      refine lv_bipush (v := 32) hx hb dX7_group4e_40 (by decide) ?_
      refine lv_aload_n hx hb dX7_group4e_42 rfl (lv_at hl 3 rfl) ?_
      refine gM_X7_op hx hb hT hown hK hP (hT _ tF_X7_174) dX7_group4e_43 ?_
      refine lv_bipush (v := 15) hx hb dX7_group4e_46 (by decide) ?_
      refine lv_iand hx hb dX7_group4e_48 ?_
      refine lv_iadd hx hb dX7_group4e_49 ?_
      obtain ⟨S31, h37, hs⟩ := lt_e hs
      refine pM_X7_follows hx hb hT hown hK hP hS (hT _ tF_X7_245) dX7_group4e_50 (v := (32 + ((S.1 5) &&& 15))) h37 (fun H locs hP hS => ?_)
      refine lv_goto (tgt := 245) hx hb dX7_group4e_53 (by decide) ?_
      refine lv_iconst (v := 1) hx hb dX7_group4e_245 (by decide) ?_
      exact u_zret (v := true) hx hb hr hlocks hP hS hs dX7_group4e_246
  ·
    refine lv_if_eq (tgt := 32) hx hb dX7_group4e_25 (by decide) (fun c28 => ?_) (fun c28 => ?_)
    · have hs := if_t c28 hs
      refine lv_iconst (v := 0) hx hb dX7_group4e_32 (by decide) ?_
      exact J1 false _ _ _ (lv_sub hl [0, 1, 2] rfl) hP hS hs
    · have hs := if_f c28 hs
      refine lv_iconst (v := 1) hx hb dX7_group4e_28 (by decide) ?_
      refine lv_goto (tgt := 33) hx hb dX7_group4e_29 (by decide) ?_
      exact J1 true _ _ _ (lv_sub hl [0, 1, 2] rfl) hP hS hs
theorem kX7_group4e {p : Program} {l : Launch} {e : Env} {R : Room} {s : State} {m : MethodId} {args : Array Value} {below : List Frame} {meth : Method} {c : Code} {H : Heap} {locs : List Loc} {cells slots : Nat} {Q : State → Prop} {cc : ByteArray} {pc nL : Nat} {ls : Array Slot} {rest : List Value} {D : va_G} {ad : Nat → Nat} {cI cB : ClassId} {en : Nat → Nat} {S : St} {own : String} {index : Nat}  {ro : Bool} {So : St} (C : CallFix p m c cc nL s args wG own) (hlk : Cond.methodLink own index yX7_group4e ∈ wG) (hR : rmX7_group4e.frames + 1 ≤ R.frames ∧ 8 + (5 + 11) + rmX7_group4e.locals ≤ R.locals) (hc : cells ≤ R.cells ∧ slots ≤ R.slots) (hK : KM D ad cI cB en s) (hP : va_P D vwCl (wM ad cI cB S) H) (hS : va_S (AX 11 ad s.heap.size) s.heap H locs) (hls : ls.size = nL) (hrest : (rest.map fun v => v.category).sum ≤ 8) (hd : decode cc pc = .ok (.invokevirtual index, 3)) (hs : fX7_group4e  S = some (ro, So)) (k : ∀ (H : Heap) (locs : List Loc), va_P D vwCl (wM ad cI cB So) H → va_S (AX 11 ad s.heap.size) s.heap H locs → W p l e R s m args below meth c H locs cells slots Q (F0 m (pc + 3) ls (.int (zI ro) :: rest))) : W p l e R s m args below meth c H locs cells slots Q (F0 m pc ls (.ref (ad 0) :: rest)) :=
  u_callV (n := 0) (mX7_group4e l D ad cI cB en S  ro So hs) C uK_M (wg_V hlk tI_X7_group4e tS_X7_group4e tN_X7 tK_X7_group4e) rfl rfl rfl (by decide +kernel) hR rfl (va_recv hK.1 hP (ci := 6) (q0 := 0) rfl rfl) hK hP hS hls hrest hd hc rfl k
def fX7_checkOrAddress  (S : St) : Option (Bool × St) :=
    (lt ((((S.1 5) >>> ((6 : Int32) &&& 31)) &&& 3) : Int32) fun v1 => (lt ((((S.1 5) >>> ((9 : Int32) &&& 31)) &&& 7) : Int32) fun v2 => (if v1 < 2 then (some (false, S))
    else (jn (fun (v3 : Int32) => (bd (fX7_fits ((S.1 5) &&& 63) v3 2 S) fun b1 S1 => (if (zI b1) = 0 then (some (false, S1))
    else (bv (fX7_operand ((S1.1 5) &&& 63) 2 S1) fun S2 => (if v1 = 3 then (bv (fX7_setA v2 (S2.1 14) S2) fun S10 => (some (true, S10)))
    else (bd (fX7_take 2 S2) fun r1 S3 => (bd (fX7_extended r1 2 S3) fun r2 S4 => (gd (ixo v2 8 = true) (bd (fX7_extended (S4.2.2 1 v2.toNatClampNeg) 2 S4) fun r3 S5 => (if (S5.1 6) = 0 then (if r3 < 0 then (jn (fun (b2 : Bool) => (bv (fX7_flag 8 b2 S5) fun S6 => (lt (sI S6 8 6) fun S7 => (some (true, S7))))) fun K2 =>
    (if 0 ≤ r3 then (K2 false)
    else (K2 true)))
    else (if r3 ≤ r2 then (some (true, S5))
    else (jn (fun (b3 : Bool) => (bv (fX7_flag 8 b3 S5) fun S8 => (lt (sI S8 8 6) fun S9 => (some (true, S9))))) fun K3 =>
    (if 0 ≤ r3 then (K3 false)
    else (K3 true)))))
    else (some (true, S5)))))))))))) fun K1 =>
    (if v1 = 2 then (K1 1)
    else (K1 3))))))
abbrev rmX7_checkOrAddress : Room := { frames := 6, cells := 0, slots := 0, locals := 138 }
set_option maxRecDepth 100000 in
set_option maxHeartbeats 4000000 in
theorem mX7_checkOrAddress (l : Launch) (D : va_G) (ad : Nat → Nat) (cI cB : ClassId) (en : Nat → Nat) (S : St)  (ro : Bool) (So : St) (hs : fX7_checkOrAddress  S = some (ro, So)) : uM l yX7_checkOrAddress (wg yX7_checkOrAddress cX7_checkOrAddress 5 (some .boolean)) rmX7_checkOrAddress (KM D ad cI cB en) D (wM ad cI cB) (AX 11 ad) [.ref (ad 0)] S (some (.int (zI ro)), So) := by
  refine uM_start (by decide) rfl ?_
  intro p e s m below meth c hx hb hr hlocks hml hown hts hK hP
  have hT : ∀ w ∈ wG, w.before _ s = true := fun w h => hts w (List.mem_cons_of_mem _ h)
  have hS : va_S (AX 11 ad s.heap.size) s.heap s.heap [] := va_S.rf
  have hown : s.vm.findClass RX7 = some m.cls := hown
  have C : CallFix p m c cX7_checkOrAddress 5 s _ wG RX7 := ⟨hx, hb, hml, hown, hT⟩
  have hl := lv_entry ([.ref (ad 0)]) (n := 5) (Nat.le_of_ble_eq_true rfl)
  rw [lg_entry_eq]
  generalize (lg_sl ([.ref (ad 0)]) ++ List.replicate (5 - (lg_sl ([.ref (ad 0)])).length) Slot.unset).toArray = ls at hl ⊢
  have hl : lv_has ls 5 [(0, .ref (ad 0))] := hl
  unfold fX7_checkOrAddress at hs
  refine lv_aload_n hx hb dX7_checkOrAddress_0 rfl (lv_at hl 0 rfl) ?_
  refine gM_X7_op hx hb hT hown hK hP (hT _ tF_X7_174) dX7_checkOrAddress_1 ?_
  refine lv_bipush (v := 6) hx hb dX7_checkOrAddress_4 (by decide) ?_
  refine lv_ishr hx hb dX7_checkOrAddress_6 ?_
  refine lv_iconst (v := 3) hx hb dX7_checkOrAddress_7 (by decide) ?_
  refine lv_iand hx hb dX7_checkOrAddress_8 ?_
  obtain ⟨v1, h1, hs⟩ := lt_e hs
  refine u_top h1 ?_
  refine lv_istore_n (lv' := [(1, .int v1), (0, .ref (ad 0))]) hx hb dX7_checkOrAddress_9 rfl hl (by decide) rfl (fun ls hl => ?_)
  refine lv_aload_n hx hb dX7_checkOrAddress_10 rfl (lv_at hl 1 rfl) ?_
  refine gM_X7_op hx hb hT hown hK hP (hT _ tF_X7_174) dX7_checkOrAddress_11 ?_
  refine lv_bipush (v := 9) hx hb dX7_checkOrAddress_14 (by decide) ?_
  refine lv_ishr hx hb dX7_checkOrAddress_16 ?_
  refine lv_bipush (v := 7) hx hb dX7_checkOrAddress_17 (by decide) ?_
  refine lv_iand hx hb dX7_checkOrAddress_19 ?_
  obtain ⟨v2, h2, hs⟩ := lt_e hs
  refine u_top h2 ?_
  refine lv_istore_n (lv' := [(2, .int v2), (1, .int v1), (0, .ref (ad 0))]) hx hb dX7_checkOrAddress_20 rfl hl (by decide) rfl (fun ls hl => ?_)
  refine lv_iload_n hx hb dX7_checkOrAddress_21 rfl (lv_at hl 1 rfl) ?_
  refine lv_iconst (v := 2) hx hb dX7_checkOrAddress_22 (by decide) ?_
  refine lv_icmp_lt (tgt := 50) hx hb dX7_checkOrAddress_23 (by decide) (fun c1 => ?_) (fun c1 => ?_)
  · have hs := if_t c1 hs
    refine lv_iconst (v := 0) hx hb dX7_checkOrAddress_50 (by decide) ?_
    exact u_zret (v := false) hx hb hr hlocks hP hS hs dX7_checkOrAddress_51
  · have hs := if_f c1 hs
    refine lv_aload_n hx hb dX7_checkOrAddress_26 rfl (lv_at hl 2 rfl) ?_
    refine gM_X7_op hx hb hT hown hK hP (hT _ tF_X7_174) dX7_checkOrAddress_27 ?_
    refine lv_bipush (v := 63) hx hb dX7_checkOrAddress_30 (by decide) ?_
    refine lv_iand hx hb dX7_checkOrAddress_32 ?_
    refine lv_iload_n hx hb dX7_checkOrAddress_33 rfl (lv_at hl 1 rfl) ?_
    refine lv_iconst (v := 2) hx hb dX7_checkOrAddress_34 (by decide) ?_
    refine jn_e hs (fun K1 => ∀ (v3 : Int32) (H : Heap) (locs : List Loc) (ls : Array Slot), lv_has ls 5 [(2, .int v2), (1, .int v1), (0, .ref (ad 0))] → va_P D vwCl (wM ad cI cB S) H → va_S (AX 11 ad s.heap.size) s.heap H locs → K1 v3 = some (ro, So) → W p l e rmX7_checkOrAddress s m ([.ref (ad 0)] : List Value).toArray below meth c H locs 0 0 (MQ below (uQ D (wM ad cI cB) (some (.int (zI ro)), So) (AX 11 ad s.heap.size)) ([.ref (ad 0)] : List Value).toArray s 0 0 (AX 11 ad s.heap.size)) (F0 m 43 ls [.int v3, .int ((S.1 5) &&& 63)])) ?_ (fun K1 J1 hs => ?_)
    · intro v3 H locs ls hl hP hS hs
      refine lv_iconst (v := 2) hx hb dX7_checkOrAddress_43 (by decide) ?_
      obtain ⟨b1, S1, h3, hs⟩ := bd_e hs
      refine kX7_fits C tM_X7_188 ⟨Nat.le_of_ble_eq_true rfl, Nat.le_of_ble_eq_true rfl⟩ ⟨Nat.le_of_ble_eq_true rfl, Nat.le_of_ble_eq_true rfl⟩ hK hP hS hl.1 (rest := []) (Nat.le_of_ble_eq_true rfl) dX7_checkOrAddress_44 h3 (fun H locs hP hS => ?_)
      refine lv_if_ne (tgt := 52) hx hb dX7_checkOrAddress_47 (by decide) (fun c2 => ?_) (fun c2 => ?_)
      · have hs := if_f c2 hs
        refine lv_aload_n hx hb dX7_checkOrAddress_52 rfl (lv_at hl 2 rfl) ?_
        refine lv_aload_n hx hb dX7_checkOrAddress_53 rfl (lv_at hl 2 rfl) ?_
        refine gM_X7_op hx hb hT hown hK hP (hT _ tF_X7_174) dX7_checkOrAddress_54 ?_
        refine lv_bipush (v := 63) hx hb dX7_checkOrAddress_57 (by decide) ?_
        refine lv_iand hx hb dX7_checkOrAddress_59 ?_
        refine lv_iconst (v := 2) hx hb dX7_checkOrAddress_60 (by decide) ?_
        obtain ⟨S2, h4, hs⟩ := bv_e hs
        refine kX7_operand C tM_X7_192 ⟨Nat.le_of_ble_eq_true rfl, Nat.le_of_ble_eq_true rfl⟩ ⟨Nat.le_of_ble_eq_true rfl, Nat.le_of_ble_eq_true rfl⟩ hK hP hS hl.1 (rest := []) (Nat.le_of_ble_eq_true rfl) dX7_checkOrAddress_61 h4 (fun H locs hP hS => ?_)
        refine lv_iload_n hx hb dX7_checkOrAddress_64 rfl (lv_at hl 1 rfl) ?_
        refine lv_iconst (v := 3) hx hb dX7_checkOrAddress_65 (by decide) ?_
        refine lv_icmp_ne (tgt := 80) hx hb dX7_checkOrAddress_66 (by decide) (fun c3 => ?_) (fun c3 => ?_)
        · have hs := if_f c3 hs
          refine lv_aload_n hx hb dX7_checkOrAddress_80 rfl (lv_at hl 2 rfl) ?_
          refine lv_iconst (v := 2) hx hb dX7_checkOrAddress_81 (by decide) ?_
          obtain ⟨r1, S3, h5, hs⟩ := bd_e hs
          refine kX7_take C tM_X7_195 ⟨Nat.le_of_ble_eq_true rfl, Nat.le_of_ble_eq_true rfl⟩ ⟨Nat.le_of_ble_eq_true rfl, Nat.le_of_ble_eq_true rfl⟩ hK hP hS hl.1 (rest := []) (Nat.le_of_ble_eq_true rfl) dX7_checkOrAddress_82 h5 (fun H locs hP hS => ?_)
          refine lv_iconst (v := 2) hx hb dX7_checkOrAddress_85 (by decide) ?_
          obtain ⟨r2, S4, h6, hs⟩ := bd_e hs
          refine kX7_extended C tM_X7_157 ⟨Nat.le_of_ble_eq_true rfl, Nat.le_of_ble_eq_true rfl⟩ ⟨Nat.le_of_ble_eq_true rfl, Nat.le_of_ble_eq_true rfl⟩ hK hP hS hl.1 (rest := []) (Nat.le_of_ble_eq_true rfl) dX7_checkOrAddress_86 h6 (fun H locs hP hS => ?_)
          refine lv_istore_n (lv' := [(3, .int r2), (2, .int v2), (1, .int v1), (0, .ref (ad 0))]) hx hb dX7_checkOrAddress_89 rfl hl (by decide) rfl (fun ls hl => ?_)
          refine lv_aload_n hx hb dX7_checkOrAddress_90 rfl (lv_at hl 3 rfl) ?_
          refine gM_X7_d hx hb hT hown hK hP (hT _ tF_X7_13) dX7_checkOrAddress_91 ?_
          refine lv_iload_n hx hb dX7_checkOrAddress_94 rfl (lv_at hl 1 rfl) ?_
          obtain ⟨h7, hs⟩ := gd_e hs
          refine lM_d hx hb hK hP (ixo_in h7) dX7_checkOrAddress_95 ?_
          refine lv_iconst (v := 2) hx hb dX7_checkOrAddress_96 (by decide) ?_
          obtain ⟨r3, S5, h8, hs⟩ := bd_e hs
          refine kX7_extended C tM_X7_157 ⟨Nat.le_of_ble_eq_true rfl, Nat.le_of_ble_eq_true rfl⟩ ⟨Nat.le_of_ble_eq_true rfl, Nat.le_of_ble_eq_true rfl⟩ hK hP hS hl.1 (rest := []) (Nat.le_of_ble_eq_true rfl) dX7_checkOrAddress_97 h8 (fun H locs hP hS => ?_)
          refine lv_istore (lv' := [(4, .int r3), (3, .int r2), (2, .int v2), (1, .int v1), (0, .ref (ad 0))]) hx hb dX7_checkOrAddress_100 hl (by decide) rfl (fun ls hl => ?_)
          refine lv_aload_n hx hb dX7_checkOrAddress_102 rfl (lv_at hl 4 rfl) ?_
          refine gM_X7_trouble hx hb hT hown hK hP (hT _ tF_X7_100) dX7_checkOrAddress_103 ?_
          refine lv_if_ne (tgt := 142) hx hb dX7_checkOrAddress_106 (by decide) (fun c4 => ?_) (fun c4 => ?_)
          · have hs := if_f c4 hs
            refine lv_iconst (v := 1) hx hb dX7_checkOrAddress_142 (by decide) ?_
            exact u_zret (v := true) hx hb hr hlocks hP hS hs dX7_checkOrAddress_143
          · have hs := if_t c4 hs
            refine lv_iload hx hb dX7_checkOrAddress_109 (lv_at hl 0 rfl) ?_
            refine lv_if_lt (tgt := 120) hx hb dX7_checkOrAddress_111 (by decide) (fun c5 => ?_) (fun c5 => ?_)
            · have hs := if_t c5 hs
              refine lv_aload_n hx hb dX7_checkOrAddress_120 rfl (lv_at hl 4 rfl) ?_
              refine lv_bipush (v := 8) hx hb dX7_checkOrAddress_121 (by decide) ?_
              refine lv_iload hx hb dX7_checkOrAddress_123 (lv_at hl 0 rfl) ?_
              refine jn_e hs (fun K2 => ∀ (b2 : Bool) (H : Heap) (locs : List Loc) (ls : Array Slot), lv_has ls 5 [(0, .ref (ad 0))] → va_P D vwCl (wM ad cI cB S5) H → va_S (AX 11 ad s.heap.size) s.heap H locs → K2 b2 = some (ro, So) → W p l e rmX7_checkOrAddress s m ([.ref (ad 0)] : List Value).toArray below meth c H locs 0 0 (MQ below (uQ D (wM ad cI cB) (some (.int (zI ro)), So) (AX 11 ad s.heap.size)) ([.ref (ad 0)] : List Value).toArray s 0 0 (AX 11 ad s.heap.size)) (F0 m 133 ls [.int (zI b2), .int 8, .ref (ad 0)])) ?_ (fun K2 J2 hs => ?_)
              · intro b2 H locs ls hl hP hS hs
                obtain ⟨S6, h9, hs⟩ := bv_e hs
                refine kX7_flag C tM_X7_160 ⟨Nat.le_of_ble_eq_true rfl, Nat.le_of_ble_eq_true rfl⟩ ⟨Nat.le_of_ble_eq_true rfl, Nat.le_of_ble_eq_true rfl⟩ hK hP hS hl.1 (rest := []) (Nat.le_of_ble_eq_true rfl) dX7_checkOrAddress_133 h9 (fun H locs hP hS => ?_)
                refine lv_aload_n hx hb dX7_checkOrAddress_136 rfl (lv_at hl 0 rfl) ?_
                refine lv_bipush (v := 6) hx hb dX7_checkOrAddress_137 (by decide) ?_
                obtain ⟨S7, h10, hs⟩ := lt_e hs
                refine pM_X7_follows hx hb hT hown hK hP hS (hT _ tF_X7_245) dX7_checkOrAddress_139 (v := 6) h10 (fun H locs hP hS => ?_)
                refine lv_iconst (v := 1) hx hb dX7_checkOrAddress_142 (by decide) ?_
                exact u_zret (v := true) hx hb hr hlocks hP hS hs dX7_checkOrAddress_143
              ·
                refine lv_if_ge (tgt := 132) hx hb dX7_checkOrAddress_125 (by decide) (fun c6 => ?_) (fun c6 => ?_)
                · have hs := if_t c6 hs
                  refine lv_iconst (v := 0) hx hb dX7_checkOrAddress_132 (by decide) ?_
                  exact J2 false _ _ _ (lv_sub hl [4] rfl) hP hS hs
                · have hs := if_f c6 hs
                  refine lv_iconst (v := 1) hx hb dX7_checkOrAddress_128 (by decide) ?_
                  refine lv_goto (tgt := 133) hx hb dX7_checkOrAddress_129 (by decide) ?_
                  exact J2 true _ _ _ (lv_sub hl [4] rfl) hP hS hs
            · have hs := if_f c5 hs
              refine lv_iload hx hb dX7_checkOrAddress_114 (lv_at hl 0 rfl) ?_
              refine lv_iload_n hx hb dX7_checkOrAddress_116 rfl (lv_at hl 1 rfl) ?_
              refine lv_icmp_le (tgt := 142) hx hb dX7_checkOrAddress_117 (by decide) (fun c7 => ?_) (fun c7 => ?_)
              · have hs := if_t c7 hs
                refine lv_iconst (v := 1) hx hb dX7_checkOrAddress_142 (by decide) ?_
                exact u_zret (v := true) hx hb hr hlocks hP hS hs dX7_checkOrAddress_143
              · have hs := if_f c7 hs
                refine lv_aload_n hx hb dX7_checkOrAddress_120 rfl (lv_at hl 4 rfl) ?_
                refine lv_bipush (v := 8) hx hb dX7_checkOrAddress_121 (by decide) ?_
                refine lv_iload hx hb dX7_checkOrAddress_123 (lv_at hl 0 rfl) ?_
                refine jn_e hs (fun K3 => ∀ (b3 : Bool) (H : Heap) (locs : List Loc) (ls : Array Slot), lv_has ls 5 [(0, .ref (ad 0))] → va_P D vwCl (wM ad cI cB S5) H → va_S (AX 11 ad s.heap.size) s.heap H locs → K3 b3 = some (ro, So) → W p l e rmX7_checkOrAddress s m ([.ref (ad 0)] : List Value).toArray below meth c H locs 0 0 (MQ below (uQ D (wM ad cI cB) (some (.int (zI ro)), So) (AX 11 ad s.heap.size)) ([.ref (ad 0)] : List Value).toArray s 0 0 (AX 11 ad s.heap.size)) (F0 m 133 ls [.int (zI b3), .int 8, .ref (ad 0)])) ?_ (fun K3 J3 hs => ?_)
                · intro b3 H locs ls hl hP hS hs
                  obtain ⟨S8, h11, hs⟩ := bv_e hs
                  refine kX7_flag C tM_X7_160 ⟨Nat.le_of_ble_eq_true rfl, Nat.le_of_ble_eq_true rfl⟩ ⟨Nat.le_of_ble_eq_true rfl, Nat.le_of_ble_eq_true rfl⟩ hK hP hS hl.1 (rest := []) (Nat.le_of_ble_eq_true rfl) dX7_checkOrAddress_133 h11 (fun H locs hP hS => ?_)
                  refine lv_aload_n hx hb dX7_checkOrAddress_136 rfl (lv_at hl 0 rfl) ?_
                  refine lv_bipush (v := 6) hx hb dX7_checkOrAddress_137 (by decide) ?_
                  obtain ⟨S9, h12, hs⟩ := lt_e hs
                  refine pM_X7_follows hx hb hT hown hK hP hS (hT _ tF_X7_245) dX7_checkOrAddress_139 (v := 6) h12 (fun H locs hP hS => ?_)
                  refine lv_iconst (v := 1) hx hb dX7_checkOrAddress_142 (by decide) ?_
                  exact u_zret (v := true) hx hb hr hlocks hP hS hs dX7_checkOrAddress_143
                ·
                  refine lv_if_ge (tgt := 132) hx hb dX7_checkOrAddress_125 (by decide) (fun c8 => ?_) (fun c8 => ?_)
                  · have hs := if_t c8 hs
                    refine lv_iconst (v := 0) hx hb dX7_checkOrAddress_132 (by decide) ?_
                    exact J3 false _ _ _ (lv_sub hl [4] rfl) hP hS hs
                  · have hs := if_f c8 hs
                    refine lv_iconst (v := 1) hx hb dX7_checkOrAddress_128 (by decide) ?_
                    refine lv_goto (tgt := 133) hx hb dX7_checkOrAddress_129 (by decide) ?_
                    exact J3 true _ _ _ (lv_sub hl [4] rfl) hP hS hs
        · have hs := if_t c3 hs
          refine lv_aload_n hx hb dX7_checkOrAddress_69 rfl (lv_at hl 2 rfl) ?_
          refine lv_iload_n hx hb dX7_checkOrAddress_70 rfl (lv_at hl 0 rfl) ?_
          refine lv_aload_n hx hb dX7_checkOrAddress_71 rfl (lv_at hl 2 rfl) ?_
          refine gM_X7_address hx hb hT hown hK hP (hT _ tF_X7_135) dX7_checkOrAddress_72 ?_
          obtain ⟨S10, h13, hs⟩ := bv_e hs
          refine kX7_setA C tM_X7_74 ⟨Nat.le_of_ble_eq_true rfl, Nat.le_of_ble_eq_true rfl⟩ ⟨Nat.le_of_ble_eq_true rfl, Nat.le_of_ble_eq_true rfl⟩ hK hP hS hl.1 (rest := []) (Nat.le_of_ble_eq_true rfl) dX7_checkOrAddress_75 h13 (fun H locs hP hS => ?_)
          refine lv_iconst (v := 1) hx hb dX7_checkOrAddress_78 (by decide) ?_
          exact u_zret (v := true) hx hb hr hlocks hP hS hs dX7_checkOrAddress_79
      · have hs := if_t c2 hs
        refine lv_iconst (v := 0) hx hb dX7_checkOrAddress_50 (by decide) ?_
        exact u_zret (v := false) hx hb hr hlocks hP hS hs dX7_checkOrAddress_51
    ·
      refine lv_icmp_ne (tgt := 42) hx hb dX7_checkOrAddress_35 (by decide) (fun c9 => ?_) (fun c9 => ?_)
      · have hs := if_f c9 hs
        refine lv_iconst (v := 3) hx hb dX7_checkOrAddress_42 (by decide) ?_
        exact J1 3 _ _ _ (lv_sub hl [0, 1, 2] rfl) hP hS hs
      · have hs := if_t c9 hs
        refine lv_iconst (v := 1) hx hb dX7_checkOrAddress_38 (by decide) ?_
        refine lv_goto (tgt := 43) hx hb dX7_checkOrAddress_39 (by decide) ?_
        exact J1 1 _ _ _ (lv_sub hl [0, 1, 2] rfl) hP hS hs
theorem kX7_checkOrAddress {p : Program} {l : Launch} {e : Env} {R : Room} {s : State} {m : MethodId} {args : Array Value} {below : List Frame} {meth : Method} {c : Code} {H : Heap} {locs : List Loc} {cells slots : Nat} {Q : State → Prop} {cc : ByteArray} {pc nL : Nat} {ls : Array Slot} {rest : List Value} {D : va_G} {ad : Nat → Nat} {cI cB : ClassId} {en : Nat → Nat} {S : St} {own : String} {index : Nat}  {ro : Bool} {So : St} (C : CallFix p m c cc nL s args wG own) (hlk : Cond.methodLink own index yX7_checkOrAddress ∈ wG) (hR : rmX7_checkOrAddress.frames + 1 ≤ R.frames ∧ 8 + (5 + 11) + rmX7_checkOrAddress.locals ≤ R.locals) (hc : cells ≤ R.cells ∧ slots ≤ R.slots) (hK : KM D ad cI cB en s) (hP : va_P D vwCl (wM ad cI cB S) H) (hS : va_S (AX 11 ad s.heap.size) s.heap H locs) (hls : ls.size = nL) (hrest : (rest.map fun v => v.category).sum ≤ 8) (hd : decode cc pc = .ok (.invokevirtual index, 3)) (hs : fX7_checkOrAddress  S = some (ro, So)) (k : ∀ (H : Heap) (locs : List Loc), va_P D vwCl (wM ad cI cB So) H → va_S (AX 11 ad s.heap.size) s.heap H locs → W p l e R s m args below meth c H locs cells slots Q (F0 m (pc + 3) ls (.int (zI ro) :: rest))) : W p l e R s m args below meth c H locs cells slots Q (F0 m pc ls (.ref (ad 0) :: rest)) :=
  u_callV (n := 0) (mX7_checkOrAddress l D ad cI cB en S  ro So hs) C uK_M (wg_V hlk tI_X7_checkOrAddress tS_X7_checkOrAddress tN_X7 tK_X7_checkOrAddress) rfl rfl rfl (by decide +kernel) hR rfl (va_recv hK.1 hP (ci := 6) (q0 := 0) rfl rfl) hK hP hS hls hrest hd hc rfl k
def fX7_group4  (S : St) : Option (Bool × St) :=
    (if ((S.1 5) &&& 256) = 0 then (lt ((((S.1 5) >>> ((8 : Int32) &&& 31)) &&& 15) : Int32) fun v1 => (jn (fun (b1 : Bool) => (if 8 ≤ v1 then (if v1 = 8 then (bd (fX7_group48 S) fun b9 S12 => (some (b9, S12)))
    else (if v1 = 10 then (if (zI b1) = 0 then (if v1 = 10 then (bd (fX7_unary 10 S) fun b7 S6 => (some (b7, S6)))
    else (if v1 = 12 then (if ((S.1 5) &&& 128) = 0 then (some (false, S))
    else (bd (fX7_many false S) fun b6 S5 => (if (zI b6) = 0 then (some (false, S5))
    else (some (true, S5)))))
    else (bd (fX7_group4e S) fun b5 S4 => (some (b5, S4)))))
    else (bd (fX7_fits ((S.1 5) &&& 63) 4 1 S) fun b8 S7 => (if (zI b8) = 0 then (some (false, S7))
    else (bv (fX7_operand ((S7.1 5) &&& 63) 1 S7) fun S8 => (bd (fX7_take 1 S8) fun r1 S9 => (bv (fX7_logic r1 1 S9) fun S10 => (bv (fX7_give (r1 ||| 128) 1 S10) fun S11 => (some (true, S11)))))))))
    else (if v1 = 10 then (bd (fX7_unary 10 S) fun b4 S3 => (some (b4, S3)))
    else (if v1 = 12 then (if ((S.1 5) &&& 128) = 0 then (some (false, S))
    else (bd (fX7_many false S) fun b3 S2 => (if (zI b3) = 0 then (some (false, S2))
    else (some (true, S2)))))
    else (bd (fX7_group4e S) fun b2 S1 => (some (b2, S1)))))))
    else (if (zI b1) = 0 then (bd (fX7_unary v1 S) fun b10 S13 => (some (b10, S13)))
    else (bd (fX7_statusMove v1 S) fun b11 S14 => (some (b11, S14)))))) fun K1 =>
    (if (((S.1 5) >>> ((6 : Int32) &&& 31)) &&& 3) = 3 then (K1 true)
    else (K1 false))))
    else (bd (fX7_checkOrAddress S) fun b12 S15 => (some (b12, S15))))
abbrev rmX7_group4 : Room := { frames := 8, cells := 0, slots := 0, locals := 189 }
set_option maxRecDepth 100000 in
set_option maxHeartbeats 4000000 in
theorem mX7_group4 (l : Launch) (D : va_G) (ad : Nat → Nat) (cI cB : ClassId) (en : Nat → Nat) (S : St)  (ro : Bool) (So : St) (hs : fX7_group4  S = some (ro, So)) : uM l yX7_group4 (wg yX7_group4 cX7_group4 4 (some .boolean)) rmX7_group4 (KM D ad cI cB en) D (wM ad cI cB) (AX 11 ad) [.ref (ad 0)] S (some (.int (zI ro)), So) := by
  refine uM_start (by decide) rfl ?_
  intro p e s m below meth c hx hb hr hlocks hml hown hts hK hP
  have hT : ∀ w ∈ wG, w.before _ s = true := fun w h => hts w (List.mem_cons_of_mem _ h)
  have hS : va_S (AX 11 ad s.heap.size) s.heap s.heap [] := va_S.rf
  have hown : s.vm.findClass RX7 = some m.cls := hown
  have C : CallFix p m c cX7_group4 4 s _ wG RX7 := ⟨hx, hb, hml, hown, hT⟩
  have hl := lv_entry ([.ref (ad 0)]) (n := 4) (Nat.le_of_ble_eq_true rfl)
  rw [lg_entry_eq]
  generalize (lg_sl ([.ref (ad 0)]) ++ List.replicate (4 - (lg_sl ([.ref (ad 0)])).length) Slot.unset).toArray = ls at hl ⊢
  have hl : lv_has ls 4 [(0, .ref (ad 0))] := hl
  unfold fX7_group4 at hs
  refine lv_aload_n hx hb dX7_group4_0 rfl (lv_at hl 0 rfl) ?_
  refine gM_X7_op hx hb hT hown hK hP (hT _ tF_X7_174) dX7_group4_1 ?_
  refine lv_sipush (v := 256) hx hb dX7_group4_4 (by decide) ?_
  refine lv_iand hx hb dX7_group4_7 ?_
  refine lv_if_eq (tgt := 16) hx hb dX7_group4_8 (by decide) (fun c1 => ?_) (fun c1 => ?_)
  · have hs := if_t c1 hs
    refine lv_aload_n hx hb dX7_group4_16 rfl (lv_at hl 0 rfl) ?_
    refine gM_X7_op hx hb hT hown hK hP (hT _ tF_X7_174) dX7_group4_17 ?_
    refine lv_bipush (v := 8) hx hb dX7_group4_20 (by decide) ?_
    refine lv_ishr hx hb dX7_group4_22 ?_
    refine lv_bipush (v := 15) hx hb dX7_group4_23 (by decide) ?_
    refine lv_iand hx hb dX7_group4_25 ?_
    obtain ⟨v1, h1, hs⟩ := lt_e hs
    refine u_top h1 ?_
    refine lv_istore_n (lv' := [(1, .int v1), (0, .ref (ad 0))]) hx hb dX7_group4_26 rfl hl (by decide) rfl (fun ls hl => ?_)
    refine lv_aload_n hx hb dX7_group4_27 rfl (lv_at hl 1 rfl) ?_
    refine gM_X7_op hx hb hT hown hK hP (hT _ tF_X7_174) dX7_group4_28 ?_
    refine lv_bipush (v := 6) hx hb dX7_group4_31 (by decide) ?_
    refine lv_ishr hx hb dX7_group4_33 ?_
    refine lv_iconst (v := 3) hx hb dX7_group4_34 (by decide) ?_
    refine lv_iand hx hb dX7_group4_35 ?_
    refine lv_iconst (v := 3) hx hb dX7_group4_36 (by decide) ?_
    refine jn_e hs (fun K1 => ∀ (b1 : Bool) (H : Heap) (locs : List Loc) (ls : Array Slot), lv_has ls 4 [(1, .int v1), (0, .ref (ad 0))] → va_P D vwCl (wM ad cI cB S) H → va_S (AX 11 ad s.heap.size) s.heap H locs → K1 b1 = some (ro, So) → W p l e rmX7_group4 s m ([.ref (ad 0)] : List Value).toArray below meth c H locs 0 0 (MQ below (uQ D (wM ad cI cB) (some (.int (zI ro)), So) (AX 11 ad s.heap.size)) ([.ref (ad 0)] : List Value).toArray s 0 0 (AX 11 ad s.heap.size)) (F0 m 45 ls [.int (zI b1)])) ?_ (fun K1 J1 hs => ?_)
    · intro b1 H locs ls hl hP hS hs
      refine lv_istore_n (lv' := [(2, .int (zI b1)), (1, .int v1), (0, .ref (ad 0))]) hx hb dX7_group4_45 rfl hl (by decide) rfl (fun ls hl => ?_)
      refine lv_iload_n hx hb dX7_group4_46 rfl (lv_at hl 1 rfl) ?_
      refine lv_bipush (v := 8) hx hb dX7_group4_47 (by decide) ?_
      refine lv_icmp_ge (tgt := 70) hx hb dX7_group4_49 (by decide) (fun c2 => ?_) (fun c2 => ?_)
      · have hs := if_t c2 hs
        refine lv_iload_n hx hb dX7_group4_70 rfl (lv_at hl 1 rfl) ?_
        refine lv_bipush (v := 8) hx hb dX7_group4_71 (by decide) ?_
        refine lv_icmp_ne (tgt := 81) hx hb dX7_group4_73 (by decide) (fun c3 => ?_) (fun c3 => ?_)
        · have hs := if_f c3 hs
          refine lv_iload_n hx hb dX7_group4_81 rfl (lv_at hl 1 rfl) ?_
          refine lv_bipush (v := 10) hx hb dX7_group4_82 (by decide) ?_
          refine lv_icmp_ne (tgt := 144) hx hb dX7_group4_84 (by decide) (fun c4 => ?_) (fun c4 => ?_)
          · have hs := if_f c4 hs
            refine lv_iload_n hx hb dX7_group4_144 rfl (lv_at hl 1 rfl) ?_
            refine lv_bipush (v := 10) hx hb dX7_group4_145 (by decide) ?_
            refine lv_icmp_ne (tgt := 157) hx hb dX7_group4_147 (by decide) (fun c5 => ?_) (fun c5 => ?_)
            · have hs := if_f c5 hs
              refine lv_iload_n hx hb dX7_group4_157 rfl (lv_at hl 1 rfl) ?_
              refine lv_bipush (v := 12) hx hb dX7_group4_158 (by decide) ?_
              refine lv_icmp_ne (tgt := 188) hx hb dX7_group4_160 (by decide) (fun c6 => ?_) (fun c6 => ?_)
              · have hs := if_f c6 hs
                refine lv_aload_n hx hb dX7_group4_188 rfl (lv_at hl 2 rfl) ?_
                obtain ⟨b2, S1, h2, hs⟩ := bd_e hs
                refine kX7_group4e C tM_X7_266 ⟨Nat.le_of_ble_eq_true rfl, Nat.le_of_ble_eq_true rfl⟩ ⟨Nat.le_of_ble_eq_true rfl, Nat.le_of_ble_eq_true rfl⟩ hK hP hS hl.1 (rest := []) (Nat.le_of_ble_eq_true rfl) dX7_group4_189 h2 (fun H locs hP hS => ?_)
                exact u_zret (v := b2) hx hb hr hlocks hP hS hs dX7_group4_192
              · have hs := if_t c6 hs
                refine lv_aload_n hx hb dX7_group4_163 rfl (lv_at hl 2 rfl) ?_
                refine gM_X7_op hx hb hT hown hK hP (hT _ tF_X7_174) dX7_group4_164 ?_
                refine lv_sipush (v := 128) hx hb dX7_group4_167 (by decide) ?_
                refine lv_iand hx hb dX7_group4_170 ?_
                refine lv_if_eq (tgt := 186) hx hb dX7_group4_171 (by decide) (fun c7 => ?_) (fun c7 => ?_)
                · have hs := if_t c7 hs
                  refine lv_iconst (v := 0) hx hb dX7_group4_186 (by decide) ?_
                  exact u_zret (v := false) hx hb hr hlocks hP hS hs dX7_group4_187
                · have hs := if_f c7 hs
                  refine lv_aload_n hx hb dX7_group4_174 rfl (lv_at hl 2 rfl) ?_
                  refine lv_iconst (v := 0) hx hb dX7_group4_175 (by decide) ?_
                  obtain ⟨b3, S2, h3, hs⟩ := bd_e hs
                  refine kX7_many C tM_X7_226 ⟨Nat.le_of_ble_eq_true rfl, Nat.le_of_ble_eq_true rfl⟩ ⟨Nat.le_of_ble_eq_true rfl, Nat.le_of_ble_eq_true rfl⟩ hK hP hS hl.1 (rest := []) (Nat.le_of_ble_eq_true rfl) dX7_group4_176 h3 (fun H locs hP hS => ?_)
                  refine lv_if_eq (tgt := 186) hx hb dX7_group4_179 (by decide) (fun c8 => ?_) (fun c8 => ?_)
                  · have hs := if_t c8 hs
                    refine lv_iconst (v := 0) hx hb dX7_group4_186 (by decide) ?_
                    exact u_zret (v := false) hx hb hr hlocks hP hS hs dX7_group4_187
                  · have hs := if_f c8 hs
                    refine lv_iconst (v := 1) hx hb dX7_group4_182 (by decide) ?_
                    refine lv_goto (tgt := 187) hx hb dX7_group4_183 (by decide) ?_
                    exact u_zret (v := true) hx hb hr hlocks hP hS hs dX7_group4_187
            · have hs := if_t c5 hs
              refine lv_aload_n hx hb dX7_group4_150 rfl (lv_at hl 2 rfl) ?_
              refine lv_bipush (v := 10) hx hb dX7_group4_151 (by decide) ?_
              obtain ⟨b4, S3, h4, hs⟩ := bd_e hs
              refine kX7_unary C tM_X7_260 ⟨Nat.le_of_ble_eq_true rfl, Nat.le_of_ble_eq_true rfl⟩ ⟨Nat.le_of_ble_eq_true rfl, Nat.le_of_ble_eq_true rfl⟩ hK hP hS hl.1 (rest := []) (Nat.le_of_ble_eq_true rfl) dX7_group4_153 h4 (fun H locs hP hS => ?_)
              exact u_zret (v := b4) hx hb hr hlocks hP hS hs dX7_group4_156
          · have hs := if_t c4 hs
            refine lv_iload_n hx hb dX7_group4_87 rfl (lv_at hl 0 rfl) ?_
            refine lv_if_eq (tgt := 144) hx hb dX7_group4_88 (by decide) (fun c9 => ?_) (fun c9 => ?_)
            · have hs := if_t c9 hs
              refine lv_iload_n hx hb dX7_group4_144 rfl (lv_at hl 1 rfl) ?_
              refine lv_bipush (v := 10) hx hb dX7_group4_145 (by decide) ?_
              refine lv_icmp_ne (tgt := 157) hx hb dX7_group4_147 (by decide) (fun c10 => ?_) (fun c10 => ?_)
              · have hs := if_f c10 hs
                refine lv_iload_n hx hb dX7_group4_157 rfl (lv_at hl 1 rfl) ?_
                refine lv_bipush (v := 12) hx hb dX7_group4_158 (by decide) ?_
                refine lv_icmp_ne (tgt := 188) hx hb dX7_group4_160 (by decide) (fun c11 => ?_) (fun c11 => ?_)
                · have hs := if_f c11 hs
                  refine lv_aload_n hx hb dX7_group4_188 rfl (lv_at hl 2 rfl) ?_
                  obtain ⟨b5, S4, h5, hs⟩ := bd_e hs
                  refine kX7_group4e C tM_X7_266 ⟨Nat.le_of_ble_eq_true rfl, Nat.le_of_ble_eq_true rfl⟩ ⟨Nat.le_of_ble_eq_true rfl, Nat.le_of_ble_eq_true rfl⟩ hK hP hS hl.1 (rest := []) (Nat.le_of_ble_eq_true rfl) dX7_group4_189 h5 (fun H locs hP hS => ?_)
                  exact u_zret (v := b5) hx hb hr hlocks hP hS hs dX7_group4_192
                · have hs := if_t c11 hs
                  refine lv_aload_n hx hb dX7_group4_163 rfl (lv_at hl 2 rfl) ?_
                  refine gM_X7_op hx hb hT hown hK hP (hT _ tF_X7_174) dX7_group4_164 ?_
                  refine lv_sipush (v := 128) hx hb dX7_group4_167 (by decide) ?_
                  refine lv_iand hx hb dX7_group4_170 ?_
                  refine lv_if_eq (tgt := 186) hx hb dX7_group4_171 (by decide) (fun c12 => ?_) (fun c12 => ?_)
                  · have hs := if_t c12 hs
                    refine lv_iconst (v := 0) hx hb dX7_group4_186 (by decide) ?_
                    exact u_zret (v := false) hx hb hr hlocks hP hS hs dX7_group4_187
                  · have hs := if_f c12 hs
                    refine lv_aload_n hx hb dX7_group4_174 rfl (lv_at hl 2 rfl) ?_
                    refine lv_iconst (v := 0) hx hb dX7_group4_175 (by decide) ?_
                    obtain ⟨b6, S5, h6, hs⟩ := bd_e hs
                    refine kX7_many C tM_X7_226 ⟨Nat.le_of_ble_eq_true rfl, Nat.le_of_ble_eq_true rfl⟩ ⟨Nat.le_of_ble_eq_true rfl, Nat.le_of_ble_eq_true rfl⟩ hK hP hS hl.1 (rest := []) (Nat.le_of_ble_eq_true rfl) dX7_group4_176 h6 (fun H locs hP hS => ?_)
                    refine lv_if_eq (tgt := 186) hx hb dX7_group4_179 (by decide) (fun c13 => ?_) (fun c13 => ?_)
                    · have hs := if_t c13 hs
                      refine lv_iconst (v := 0) hx hb dX7_group4_186 (by decide) ?_
                      exact u_zret (v := false) hx hb hr hlocks hP hS hs dX7_group4_187
                    · have hs := if_f c13 hs
                      refine lv_iconst (v := 1) hx hb dX7_group4_182 (by decide) ?_
                      refine lv_goto (tgt := 187) hx hb dX7_group4_183 (by decide) ?_
                      exact u_zret (v := true) hx hb hr hlocks hP hS hs dX7_group4_187
              · have hs := if_t c10 hs
                refine lv_aload_n hx hb dX7_group4_150 rfl (lv_at hl 2 rfl) ?_
                refine lv_bipush (v := 10) hx hb dX7_group4_151 (by decide) ?_
                obtain ⟨b7, S6, h7, hs⟩ := bd_e hs
                refine kX7_unary C tM_X7_260 ⟨Nat.le_of_ble_eq_true rfl, Nat.le_of_ble_eq_true rfl⟩ ⟨Nat.le_of_ble_eq_true rfl, Nat.le_of_ble_eq_true rfl⟩ hK hP hS hl.1 (rest := []) (Nat.le_of_ble_eq_true rfl) dX7_group4_153 h7 (fun H locs hP hS => ?_)
                exact u_zret (v := b7) hx hb hr hlocks hP hS hs dX7_group4_156
            · have hs := if_f c9 hs
              refine lv_aload_n hx hb dX7_group4_91 rfl (lv_at hl 2 rfl) ?_
              refine gM_X7_op hx hb hT hown hK hP (hT _ tF_X7_174) dX7_group4_92 ?_
              refine lv_bipush (v := 63) hx hb dX7_group4_95 (by decide) ?_
              refine lv_iand hx hb dX7_group4_97 ?_
              refine lv_iconst (v := 4) hx hb dX7_group4_98 (by decide) ?_
              refine lv_iconst (v := 1) hx hb dX7_group4_99 (by decide) ?_
              obtain ⟨b8, S7, h8, hs⟩ := bd_e hs
              refine kX7_fits C tM_X7_188 ⟨Nat.le_of_ble_eq_true rfl, Nat.le_of_ble_eq_true rfl⟩ ⟨Nat.le_of_ble_eq_true rfl, Nat.le_of_ble_eq_true rfl⟩ hK hP hS hl.1 (rest := []) (Nat.le_of_ble_eq_true rfl) dX7_group4_100 h8 (fun H locs hP hS => ?_)
              refine lv_if_ne (tgt := 108) hx hb dX7_group4_103 (by decide) (fun c14 => ?_) (fun c14 => ?_)
              · have hs := if_f c14 hs
                refine lv_aload_n hx hb dX7_group4_108 rfl (lv_at hl 2 rfl) ?_
                refine lv_aload_n hx hb dX7_group4_109 rfl (lv_at hl 2 rfl) ?_
                refine gM_X7_op hx hb hT hown hK hP (hT _ tF_X7_174) dX7_group4_110 ?_
                refine lv_bipush (v := 63) hx hb dX7_group4_113 (by decide) ?_
                refine lv_iand hx hb dX7_group4_115 ?_
                refine lv_iconst (v := 1) hx hb dX7_group4_116 (by decide) ?_
                obtain ⟨S8, h9, hs⟩ := bv_e hs
                refine kX7_operand C tM_X7_192 ⟨Nat.le_of_ble_eq_true rfl, Nat.le_of_ble_eq_true rfl⟩ ⟨Nat.le_of_ble_eq_true rfl, Nat.le_of_ble_eq_true rfl⟩ hK hP hS hl.1 (rest := []) (Nat.le_of_ble_eq_true rfl) dX7_group4_117 h9 (fun H locs hP hS => ?_)
                refine lv_aload_n hx hb dX7_group4_120 rfl (lv_at hl 2 rfl) ?_
                refine lv_iconst (v := 1) hx hb dX7_group4_121 (by decide) ?_
                obtain ⟨r1, S9, h10, hs⟩ := bd_e hs
                refine kX7_take C tM_X7_195 ⟨Nat.le_of_ble_eq_true rfl, Nat.le_of_ble_eq_true rfl⟩ ⟨Nat.le_of_ble_eq_true rfl, Nat.le_of_ble_eq_true rfl⟩ hK hP hS hl.1 (rest := []) (Nat.le_of_ble_eq_true rfl) dX7_group4_122 h10 (fun H locs hP hS => ?_)
                refine lv_istore_n (lv' := [(3, .int r1), (2, .int (zI b1)), (1, .int v1), (0, .ref (ad 0))]) hx hb dX7_group4_125 rfl hl (by decide) rfl (fun ls hl => ?_)
                refine lv_aload_n hx hb dX7_group4_126 rfl (lv_at hl 3 rfl) ?_
                refine lv_iload_n hx hb dX7_group4_127 rfl (lv_at hl 0 rfl) ?_
                refine lv_iconst (v := 1) hx hb dX7_group4_128 (by decide) ?_
                obtain ⟨S10, h11, hs⟩ := bv_e hs
                refine kX7_logic C tM_X7_214 ⟨Nat.le_of_ble_eq_true rfl, Nat.le_of_ble_eq_true rfl⟩ ⟨Nat.le_of_ble_eq_true rfl, Nat.le_of_ble_eq_true rfl⟩ hK hP hS hl.1 (rest := []) (Nat.le_of_ble_eq_true rfl) dX7_group4_129 h11 (fun H locs hP hS => ?_)
                refine lv_aload_n hx hb dX7_group4_132 rfl (lv_at hl 3 rfl) ?_
                refine lv_iload_n hx hb dX7_group4_133 rfl (lv_at hl 0 rfl) ?_
                refine lv_sipush (v := 128) hx hb dX7_group4_134 (by decide) ?_
                refine lv_ior hx hb dX7_group4_137 ?_
                refine lv_iconst (v := 1) hx hb dX7_group4_138 (by decide) ?_
                obtain ⟨S11, h12, hs⟩ := bv_e hs
                refine kX7_give C tM_X7_198 ⟨Nat.le_of_ble_eq_true rfl, Nat.le_of_ble_eq_true rfl⟩ ⟨Nat.le_of_ble_eq_true rfl, Nat.le_of_ble_eq_true rfl⟩ hK hP hS hl.1 (rest := []) (Nat.le_of_ble_eq_true rfl) dX7_group4_139 h12 (fun H locs hP hS => ?_)
                refine lv_iconst (v := 1) hx hb dX7_group4_142 (by decide) ?_
                exact u_zret (v := true) hx hb hr hlocks hP hS hs dX7_group4_143
              · have hs := if_t c14 hs
                refine lv_iconst (v := 0) hx hb dX7_group4_106 (by decide) ?_
                exact u_zret (v := false) hx hb hr hlocks hP hS hs dX7_group4_107
        · have hs := if_t c3 hs
          refine lv_aload_n hx hb dX7_group4_76 rfl (lv_at hl 2 rfl) ?_
          obtain ⟨b9, S12, h13, hs⟩ := bd_e hs
          refine kX7_group48 C tM_X7_263 ⟨Nat.le_of_ble_eq_true rfl, Nat.le_of_ble_eq_true rfl⟩ ⟨Nat.le_of_ble_eq_true rfl, Nat.le_of_ble_eq_true rfl⟩ hK hP hS hl.1 (rest := []) (Nat.le_of_ble_eq_true rfl) dX7_group4_77 h13 (fun H locs hP hS => ?_)
          exact u_zret (v := b9) hx hb hr hlocks hP hS hs dX7_group4_80
      · have hs := if_f c2 hs
        refine lv_iload_n hx hb dX7_group4_52 rfl (lv_at hl 0 rfl) ?_
        refine lv_if_eq (tgt := 64) hx hb dX7_group4_53 (by decide) (fun c15 => ?_) (fun c15 => ?_)
        · have hs := if_t c15 hs
          refine lv_aload_n hx hb dX7_group4_64 rfl (lv_at hl 2 rfl) ?_
          refine lv_iload_n hx hb dX7_group4_65 rfl (lv_at hl 1 rfl) ?_
          obtain ⟨b10, S13, h14, hs⟩ := bd_e hs
          refine kX7_unary C tM_X7_260 ⟨Nat.le_of_ble_eq_true rfl, Nat.le_of_ble_eq_true rfl⟩ ⟨Nat.le_of_ble_eq_true rfl, Nat.le_of_ble_eq_true rfl⟩ hK hP hS hl.1 (rest := []) (Nat.le_of_ble_eq_true rfl) dX7_group4_66 h14 (fun H locs hP hS => ?_)
          exact u_zret (v := b10) hx hb hr hlocks hP hS hs dX7_group4_69
        · have hs := if_f c15 hs
          refine lv_aload_n hx hb dX7_group4_56 rfl (lv_at hl 2 rfl) ?_
          refine lv_iload_n hx hb dX7_group4_57 rfl (lv_at hl 1 rfl) ?_
          obtain ⟨b11, S14, h15, hs⟩ := bd_e hs
          refine kX7_statusMove C tM_X7_257 ⟨Nat.le_of_ble_eq_true rfl, Nat.le_of_ble_eq_true rfl⟩ ⟨Nat.le_of_ble_eq_true rfl, Nat.le_of_ble_eq_true rfl⟩ hK hP hS hl.1 (rest := []) (Nat.le_of_ble_eq_true rfl) dX7_group4_58 h15 (fun H locs hP hS => ?_)
          refine lv_goto (tgt := 69) hx hb dX7_group4_61 (by decide) ?_
          exact u_zret (v := b11) hx hb hr hlocks hP hS hs dX7_group4_69
    ·
      refine lv_icmp_ne (tgt := 44) hx hb dX7_group4_37 (by decide) (fun c16 => ?_) (fun c16 => ?_)
      · have hs := if_f c16 hs
        refine lv_iconst (v := 0) hx hb dX7_group4_44 (by decide) ?_
        exact J1 false _ _ _ (lv_sub hl [0, 1] rfl) hP hS hs
      · have hs := if_t c16 hs
        refine lv_iconst (v := 1) hx hb dX7_group4_40 (by decide) ?_
        refine lv_goto (tgt := 45) hx hb dX7_group4_41 (by decide) ?_
        exact J1 true _ _ _ (lv_sub hl [0, 1] rfl) hP hS hs
  · have hs := if_f c1 hs
    refine lv_aload_n hx hb dX7_group4_11 rfl (lv_at hl 0 rfl) ?_
    obtain ⟨b12, S15, h16, hs⟩ := bd_e hs
    refine kX7_checkOrAddress C tM_X7_254 ⟨Nat.le_of_ble_eq_true rfl, Nat.le_of_ble_eq_true rfl⟩ ⟨Nat.le_of_ble_eq_true rfl, Nat.le_of_ble_eq_true rfl⟩ hK hP hS hl.1 (rest := []) (Nat.le_of_ble_eq_true rfl) dX7_group4_12 h16 (fun H locs hP hS => ?_)
    exact u_zret (v := b12) hx hb hr hlocks hP hS hs dX7_group4_15
theorem kX7_group4 {p : Program} {l : Launch} {e : Env} {R : Room} {s : State} {m : MethodId} {args : Array Value} {below : List Frame} {meth : Method} {c : Code} {H : Heap} {locs : List Loc} {cells slots : Nat} {Q : State → Prop} {cc : ByteArray} {pc nL : Nat} {ls : Array Slot} {rest : List Value} {D : va_G} {ad : Nat → Nat} {cI cB : ClassId} {en : Nat → Nat} {S : St} {own : String} {index : Nat}  {ro : Bool} {So : St} (C : CallFix p m c cc nL s args wG own) (hlk : Cond.methodLink own index yX7_group4 ∈ wG) (hR : rmX7_group4.frames + 1 ≤ R.frames ∧ 8 + (4 + 11) + rmX7_group4.locals ≤ R.locals) (hc : cells ≤ R.cells ∧ slots ≤ R.slots) (hK : KM D ad cI cB en s) (hP : va_P D vwCl (wM ad cI cB S) H) (hS : va_S (AX 11 ad s.heap.size) s.heap H locs) (hls : ls.size = nL) (hrest : (rest.map fun v => v.category).sum ≤ 8) (hd : decode cc pc = .ok (.invokevirtual index, 3)) (hs : fX7_group4  S = some (ro, So)) (k : ∀ (H : Heap) (locs : List Loc), va_P D vwCl (wM ad cI cB So) H → va_S (AX 11 ad s.heap.size) s.heap H locs → W p l e R s m args below meth c H locs cells slots Q (F0 m (pc + 3) ls (.int (zI ro) :: rest))) : W p l e R s m args below meth c H locs cells slots Q (F0 m pc ls (.ref (ad 0) :: rest)) :=
  u_callV (n := 0) (mX7_group4 l D ad cI cB en S  ro So hs) C uK_M (wg_V hlk tI_X7_group4 tS_X7_group4 tN_X7 tK_X7_group4) rfl rfl rfl (by decide +kernel) hR rfl (va_recv hK.1 hP (ci := 6) (q0 := 0) rfl rfl) hK hP hS hls hrest hd hc rfl k
def fX7_group5  (S : St) : Option (Bool × St) :=
    (lt ((((S.1 5) >>> ((6 : Int32) &&& 31)) &&& 3) : Int32) fun v1 => (lt ((((S.1 5) >>> ((8 : Int32) &&& 31)) &&& 15) : Int32) fun v2 => (lt (((S.1 5) &&& 63) : Int32) fun v3 => (if v1 = 3 then (if (v3 >>> ((3 : Int32) &&& 31)) = 1 then (lt ((S.1 1) : Int32) fun v12 => (bd (fX7_extension S) fun r11 S29 => (lt ((v12 + (r11.toInt16.toInt32)) : Int32) fun v13 => (bd (fX7_holds v2 S29) fun b9 S30 => (if (zI b9) = 0 then (gd (ixo ((S30.1 5) &&& 7) 8 = true) (lt (((S30.2.2 1 ((S30.1 5) &&& 7).toNatClampNeg) - 1) : Int32) fun v14 => (gd (ixo ((S30.1 5) &&& 7) 8 = true) (bd (fX7_joined (S30.2.2 1 ((S30.1 5) &&& 7).toNatClampNeg) v14 2 S30) fun r12 S31 => (gd (ixo ((S30.1 5) &&& 7) 8 = true) (lt (sA S31 1 ((S30.1 5) &&& 7).toNatClampNeg r12) fun S32 => (if (v14.toInt16.toInt32) = (-1 : Int32) then (lt (sI S32 1 (S32.1 1)) fun S34 => (some (true, S34)))
    else (lt (sI S32 1 v13) fun S33 => (some (true, S33))))))))))
    else (some (true, S30)))))))
    else (if v1 = 3 then (bd (fX7_fits v3 4 1 S) fun b7 S25 => (if (zI b7) = 0 then (some (false, S25))
    else (bv (fX7_operand v3 1 S25) fun S26 => (bd (fX7_holds v2 S26) fun b8 S27 => (jn (fun (v11 : Int32) => (bv (fX7_give v11 1 S27) fun S28 => (some (true, S28)))) fun K8 =>
    (if (zI b8) = 0 then (K8 0)
    else (K8 255)))))))
    else (bd (fX7_sizeOf v1 S) fun r6 S15 => (bd (fX7_fits v3 5 r6 S15) fun b5 S16 => (if (zI b5) = 0 then (some (false, S16))
    else (lt ((((S16.1 5) >>> ((9 : Int32) &&& 31)) &&& 7) : Int32) fun v8 => (jn (fun (v9 : Int32) => (jn (fun (b6 : Bool) => (if (v3 >>> ((3 : Int32) &&& 31)) = 1 then (jn (fun (v10 : Int32) (S21 : St) => (bv (fX7_setA ((S16.1 5) &&& 7) v10 S21) fun S22 => (some (true, S22)))) fun K7 =>
    (if (zI b6) = 0 then (bd (fX7_getA ((S16.1 5) &&& 7) S16) fun r9 S23 => (K7 (r9 + v9) S23))
    else (bd (fX7_getA ((S16.1 5) &&& 7) S16) fun r10 S24 => (K7 (r10 - v9) S24))))
    else (bv (fX7_operand v3 r6 S16) fun S17 => (bd (fX7_take r6 S17) fun r7 S18 => (bd (fX7_reckon r7 v9 0 b6 r6 true false S18) fun r8 S19 => (bv (fX7_give r8 r6 S19) fun S20 => (some (true, S20)))))))) fun K6 =>
    (if ((S16.1 5) &&& 256) = 0 then (K6 false)
    else (K6 true)))) fun K5 =>
    (if v8 = 0 then (K5 8)
    else (K5 v8)))))))))
    else (if v1 = 3 then (bd (fX7_fits v3 4 1 S) fun b3 S11 => (if (zI b3) = 0 then (some (false, S11))
    else (bv (fX7_operand v3 1 S11) fun S12 => (bd (fX7_holds v2 S12) fun b4 S13 => (jn (fun (v7 : Int32) => (bv (fX7_give v7 1 S13) fun S14 => (some (true, S14)))) fun K4 =>
    (if (zI b4) = 0 then (K4 0)
    else (K4 255)))))))
    else (bd (fX7_sizeOf v1 S) fun r1 S1 => (bd (fX7_fits v3 5 r1 S1) fun b1 S2 => (if (zI b1) = 0 then (some (false, S2))
    else (lt ((((S2.1 5) >>> ((9 : Int32) &&& 31)) &&& 7) : Int32) fun v4 => (jn (fun (v5 : Int32) => (jn (fun (b2 : Bool) => (if (v3 >>> ((3 : Int32) &&& 31)) = 1 then (jn (fun (v6 : Int32) (S7 : St) => (bv (fX7_setA ((S2.1 5) &&& 7) v6 S7) fun S8 => (some (true, S8)))) fun K3 =>
    (if (zI b2) = 0 then (bd (fX7_getA ((S2.1 5) &&& 7) S2) fun r4 S9 => (K3 (r4 + v5) S9))
    else (bd (fX7_getA ((S2.1 5) &&& 7) S2) fun r5 S10 => (K3 (r5 - v5) S10))))
    else (bv (fX7_operand v3 r1 S2) fun S3 => (bd (fX7_take r1 S3) fun r2 S4 => (bd (fX7_reckon r2 v5 0 b2 r1 true false S4) fun r3 S5 => (bv (fX7_give r3 r1 S5) fun S6 => (some (true, S6)))))))) fun K2 =>
    (if ((S2.1 5) &&& 256) = 0 then (K2 false)
    else (K2 true)))) fun K1 =>
    (if v4 = 0 then (K1 8)
    else (K1 v4))))))))))))
abbrev rmX7_group5 : Room := { frames := 6, cells := 0, slots := 0, locals := 138 }
set_option maxRecDepth 100000 in
set_option maxHeartbeats 4000000 in
theorem mX7_group5 (l : Launch) (D : va_G) (ad : Nat → Nat) (cI cB : ClassId) (en : Nat → Nat) (S : St)  (ro : Bool) (So : St) (hs : fX7_group5  S = some (ro, So)) : uM l yX7_group5 (wg yX7_group5 cX7_group5 7 (some .boolean)) rmX7_group5 (KM D ad cI cB en) D (wM ad cI cB) (AX 11 ad) [.ref (ad 0)] S (some (.int (zI ro)), So) := by
  refine uM_start (by decide) rfl ?_
  intro p e s m below meth c hx hb hr hlocks hml hown hts hK hP
  have hT : ∀ w ∈ wG, w.before _ s = true := fun w h => hts w (List.mem_cons_of_mem _ h)
  have hS : va_S (AX 11 ad s.heap.size) s.heap s.heap [] := va_S.rf
  have hown : s.vm.findClass RX7 = some m.cls := hown
  have C : CallFix p m c cX7_group5 7 s _ wG RX7 := ⟨hx, hb, hml, hown, hT⟩
  have hl := lv_entry ([.ref (ad 0)]) (n := 7) (Nat.le_of_ble_eq_true rfl)
  rw [lg_entry_eq]
  generalize (lg_sl ([.ref (ad 0)]) ++ List.replicate (7 - (lg_sl ([.ref (ad 0)])).length) Slot.unset).toArray = ls at hl ⊢
  have hl : lv_has ls 7 [(0, .ref (ad 0))] := hl
  unfold fX7_group5 at hs
  refine lv_aload_n hx hb dX7_group5_0 rfl (lv_at hl 0 rfl) ?_
  refine gM_X7_op hx hb hT hown hK hP (hT _ tF_X7_174) dX7_group5_1 ?_
  refine lv_bipush (v := 6) hx hb dX7_group5_4 (by decide) ?_
  refine lv_ishr hx hb dX7_group5_6 ?_
  refine lv_iconst (v := 3) hx hb dX7_group5_7 (by decide) ?_
  refine lv_iand hx hb dX7_group5_8 ?_
  obtain ⟨v1, h1, hs⟩ := lt_e hs
  refine u_top h1 ?_
  refine lv_istore_n (lv' := [(1, .int v1), (0, .ref (ad 0))]) hx hb dX7_group5_9 rfl hl (by decide) rfl (fun ls hl => ?_)
  refine lv_aload_n hx hb dX7_group5_10 rfl (lv_at hl 1 rfl) ?_
  refine gM_X7_op hx hb hT hown hK hP (hT _ tF_X7_174) dX7_group5_11 ?_
  refine lv_bipush (v := 8) hx hb dX7_group5_14 (by decide) ?_
  refine lv_ishr hx hb dX7_group5_16 ?_
  refine lv_bipush (v := 15) hx hb dX7_group5_17 (by decide) ?_
  refine lv_iand hx hb dX7_group5_19 ?_
  obtain ⟨v2, h2, hs⟩ := lt_e hs
  refine u_top h2 ?_
  refine lv_istore_n (lv' := [(2, .int v2), (1, .int v1), (0, .ref (ad 0))]) hx hb dX7_group5_20 rfl hl (by decide) rfl (fun ls hl => ?_)
  refine lv_aload_n hx hb dX7_group5_21 rfl (lv_at hl 2 rfl) ?_
  refine gM_X7_op hx hb hT hown hK hP (hT _ tF_X7_174) dX7_group5_22 ?_
  refine lv_bipush (v := 63) hx hb dX7_group5_25 (by decide) ?_
  refine lv_iand hx hb dX7_group5_27 ?_
  obtain ⟨v3, h3, hs⟩ := lt_e hs
  refine u_top h3 ?_
  refine lv_istore_n (lv' := [(3, .int v3), (2, .int v2), (1, .int v1), (0, .ref (ad 0))]) hx hb dX7_group5_28 rfl hl (by decide) rfl (fun ls hl => ?_)
  refine lv_iload_n hx hb dX7_group5_29 rfl (lv_at hl 2 rfl) ?_
  refine lv_iconst (v := 3) hx hb dX7_group5_30 (by decide) ?_
  refine lv_icmp_ne (tgt := 133) hx hb dX7_group5_31 (by decide) (fun c1 => ?_) (fun c1 => ?_)
  · have hs := if_f c1 hs
    refine lv_iload_n hx hb dX7_group5_133 rfl (lv_at hl 2 rfl) ?_
    refine lv_iconst (v := 3) hx hb dX7_group5_134 (by decide) ?_
    refine lv_icmp_ne (tgt := 177) hx hb dX7_group5_135 (by decide) (fun c2 => ?_) (fun c2 => ?_)
    · have hs := if_f c2 hs
      refine lv_iload_n hx hb dX7_group5_177 rfl (lv_at hl 2 rfl) ?_
      obtain ⟨r1, S1, h4, hs⟩ := bd_e hs
      refine kX7_sizeOf C tM_X7_211 ⟨Nat.le_of_ble_eq_true rfl, Nat.le_of_ble_eq_true rfl⟩ ⟨Nat.le_of_ble_eq_true rfl, Nat.le_of_ble_eq_true rfl⟩ hK hP hS hl.1 (rest := []) (Nat.le_of_ble_eq_true rfl) dX7_group5_178 h4 (fun H locs hP hS => ?_)
      refine lv_istore (lv' := [(4, .int r1), (3, .int v3), (2, .int v2), (1, .int v1), (0, .ref (ad 0))]) hx hb dX7_group5_181 hl (by decide) rfl (fun ls hl => ?_)
      refine lv_iload_n hx hb dX7_group5_183 rfl (lv_at hl 1 rfl) ?_
      refine lv_iconst (v := 5) hx hb dX7_group5_184 (by decide) ?_
      refine lv_iload hx hb dX7_group5_185 (lv_at hl 0 rfl) ?_
      obtain ⟨b1, S2, h5, hs⟩ := bd_e hs
      refine kX7_fits C tM_X7_188 ⟨Nat.le_of_ble_eq_true rfl, Nat.le_of_ble_eq_true rfl⟩ ⟨Nat.le_of_ble_eq_true rfl, Nat.le_of_ble_eq_true rfl⟩ hK hP hS hl.1 (rest := []) (Nat.le_of_ble_eq_true rfl) dX7_group5_187 h5 (fun H locs hP hS => ?_)
      refine lv_if_ne (tgt := 195) hx hb dX7_group5_190 (by decide) (fun c3 => ?_) (fun c3 => ?_)
      · have hs := if_f c3 hs
        refine lv_aload_n hx hb dX7_group5_195 rfl (lv_at hl 4 rfl) ?_
        refine gM_X7_op hx hb hT hown hK hP (hT _ tF_X7_174) dX7_group5_196 ?_
        refine lv_bipush (v := 9) hx hb dX7_group5_199 (by decide) ?_
        refine lv_ishr hx hb dX7_group5_201 ?_
        refine lv_bipush (v := 7) hx hb dX7_group5_202 (by decide) ?_
        refine lv_iand hx hb dX7_group5_204 ?_
        obtain ⟨v4, h6, hs⟩ := lt_e hs
        refine u_top h6 ?_
        refine lv_istore (lv' := [(5, .int v4), (4, .int r1), (3, .int v3), (2, .int v2), (1, .int v1), (0, .ref (ad 0))]) hx hb dX7_group5_205 hl (by decide) rfl (fun ls hl => ?_)
        refine lv_iload hx hb dX7_group5_207 (lv_at hl 0 rfl) ?_
        refine jn_e hs (fun K1 => ∀ (v5 : Int32) (H : Heap) (locs : List Loc) (ls : Array Slot), lv_has ls 7 [(4, .int r1), (3, .int v3), (0, .ref (ad 0))] → va_P D vwCl (wM ad cI cB S2) H → va_S (AX 11 ad s.heap.size) s.heap H locs → K1 v5 = some (ro, So) → W p l e rmX7_group5 s m ([.ref (ad 0)] : List Value).toArray below meth c H locs 0 0 (MQ below (uQ D (wM ad cI cB) (some (.int (zI ro)), So) (AX 11 ad s.heap.size)) ([.ref (ad 0)] : List Value).toArray s 0 0 (AX 11 ad s.heap.size)) (F0 m 219 ls [.int v5])) ?_ (fun K1 J1 hs => ?_)
        · intro v5 H locs ls hl hP hS hs
          refine lv_istore (lv' := [(5, .int v5), (4, .int r1), (3, .int v3), (0, .ref (ad 0))]) hx hb dX7_group5_219 hl (by decide) rfl (fun ls hl => ?_)
          refine lv_aload_n hx hb dX7_group5_221 rfl (lv_at hl 3 rfl) ?_
          refine gM_X7_op hx hb hT hown hK hP (hT _ tF_X7_174) dX7_group5_222 ?_
          refine lv_sipush (v := 256) hx hb dX7_group5_225 (by decide) ?_
          refine lv_iand hx hb dX7_group5_228 ?_
          refine jn_e hs (fun K2 => ∀ (b2 : Bool) (H : Heap) (locs : List Loc) (ls : Array Slot), lv_has ls 7 [(5, .int v5), (4, .int r1), (3, .int v3), (0, .ref (ad 0))] → va_P D vwCl (wM ad cI cB S2) H → va_S (AX 11 ad s.heap.size) s.heap H locs → K2 b2 = some (ro, So) → W p l e rmX7_group5 s m ([.ref (ad 0)] : List Value).toArray below meth c H locs 0 0 (MQ below (uQ D (wM ad cI cB) (some (.int (zI ro)), So) (AX 11 ad s.heap.size)) ([.ref (ad 0)] : List Value).toArray s 0 0 (AX 11 ad s.heap.size)) (F0 m 237 ls [.int (zI b2)])) ?_ (fun K2 J2 hs => ?_)
          · intro b2 H locs ls hl hP hS hs
            refine lv_istore (lv' := [(6, .int (zI b2)), (5, .int v5), (4, .int r1), (3, .int v3), (0, .ref (ad 0))]) hx hb dX7_group5_237 hl (by decide) rfl (fun ls hl => ?_)
            refine lv_iload_n hx hb dX7_group5_239 rfl (lv_at hl 3 rfl) ?_
            refine lv_iconst (v := 3) hx hb dX7_group5_240 (by decide) ?_
            refine lv_ishr hx hb dX7_group5_241 ?_
            refine lv_iconst (v := 1) hx hb dX7_group5_242 (by decide) ?_
            refine lv_icmp_ne (tgt := 295) hx hb dX7_group5_243 (by decide) (fun c4 => ?_) (fun c4 => ?_)
            · have hs := if_f c4 hs
              refine lv_aload_n hx hb dX7_group5_295 rfl (lv_at hl 4 rfl) ?_
              refine lv_iload_n hx hb dX7_group5_296 rfl (lv_at hl 3 rfl) ?_
              refine lv_iload hx hb dX7_group5_297 (lv_at hl 2 rfl) ?_
              obtain ⟨S3, h7, hs⟩ := bv_e hs
              refine kX7_operand C tM_X7_192 ⟨Nat.le_of_ble_eq_true rfl, Nat.le_of_ble_eq_true rfl⟩ ⟨Nat.le_of_ble_eq_true rfl, Nat.le_of_ble_eq_true rfl⟩ hK hP hS hl.1 (rest := []) (Nat.le_of_ble_eq_true rfl) dX7_group5_299 h7 (fun H locs hP hS => ?_)
              refine lv_aload_n hx hb dX7_group5_302 rfl (lv_at hl 4 rfl) ?_
              refine lv_aload_n hx hb dX7_group5_303 rfl (lv_at hl 4 rfl) ?_
              refine lv_aload_n hx hb dX7_group5_304 rfl (lv_at hl 4 rfl) ?_
              refine lv_iload hx hb dX7_group5_305 (lv_at hl 2 rfl) ?_
              obtain ⟨r2, S4, h8, hs⟩ := bd_e hs
              refine kX7_take C tM_X7_195 ⟨Nat.le_of_ble_eq_true rfl, Nat.le_of_ble_eq_true rfl⟩ ⟨Nat.le_of_ble_eq_true rfl, Nat.le_of_ble_eq_true rfl⟩ hK hP hS hl.1 (rest := [.ref (ad 0), .ref (ad 0)]) (Nat.le_of_ble_eq_true rfl) dX7_group5_307 h8 (fun H locs hP hS => ?_)
              refine lv_iload hx hb dX7_group5_310 (lv_at hl 1 rfl) ?_
              refine lv_iconst (v := 0) hx hb dX7_group5_312 (by decide) ?_
              refine lv_iload hx hb dX7_group5_313 (lv_at hl 0 rfl) ?_
              refine lv_iload hx hb dX7_group5_315 (lv_at hl 2 rfl) ?_
              refine lv_iconst (v := 1) hx hb dX7_group5_317 (by decide) ?_
              refine lv_iconst (v := 0) hx hb dX7_group5_318 (by decide) ?_
              obtain ⟨r3, S5, h9, hs⟩ := bd_e hs
              refine kX7_reckon C tM_X7_167 ⟨Nat.le_of_ble_eq_true rfl, Nat.le_of_ble_eq_true rfl⟩ ⟨Nat.le_of_ble_eq_true rfl, Nat.le_of_ble_eq_true rfl⟩ hK hP hS hl.1 (rest := [.ref (ad 0)]) (Nat.le_of_ble_eq_true rfl) dX7_group5_319 h9 (fun H locs hP hS => ?_)
              refine lv_iload hx hb dX7_group5_322 (lv_at hl 2 rfl) ?_
              obtain ⟨S6, h10, hs⟩ := bv_e hs
              refine kX7_give C tM_X7_198 ⟨Nat.le_of_ble_eq_true rfl, Nat.le_of_ble_eq_true rfl⟩ ⟨Nat.le_of_ble_eq_true rfl, Nat.le_of_ble_eq_true rfl⟩ hK hP hS hl.1 (rest := []) (Nat.le_of_ble_eq_true rfl) dX7_group5_324 h10 (fun H locs hP hS => ?_)
              refine lv_iconst (v := 1) hx hb dX7_group5_327 (by decide) ?_
              exact u_zret (v := true) hx hb hr hlocks hP hS hs dX7_group5_328
            · have hs := if_t c4 hs
              refine lv_aload_n hx hb dX7_group5_246 rfl (lv_at hl 4 rfl) ?_
              refine lv_aload_n hx hb dX7_group5_247 rfl (lv_at hl 4 rfl) ?_
              refine gM_X7_op hx hb hT hown hK hP (hT _ tF_X7_174) dX7_group5_248 ?_
              refine lv_bipush (v := 7) hx hb dX7_group5_251 (by decide) ?_
              refine lv_iand hx hb dX7_group5_253 ?_
              refine lv_iload hx hb dX7_group5_254 (lv_at hl 0 rfl) ?_
              refine jn_e hs (fun K3 => ∀ (v6 : Int32) (S7 : St) (H : Heap) (locs : List Loc) (ls : Array Slot), lv_has ls 7 [] → va_P D vwCl (wM ad cI cB S7) H → va_S (AX 11 ad s.heap.size) s.heap H locs → K3 v6 S7 = some (ro, So) → W p l e rmX7_group5 s m ([.ref (ad 0)] : List Value).toArray below meth c H locs 0 0 (MQ below (uQ D (wM ad cI cB) (some (.int (zI ro)), So) (AX 11 ad s.heap.size)) ([.ref (ad 0)] : List Value).toArray s 0 0 (AX 11 ad s.heap.size)) (F0 m 290 ls [.int v6, .int ((S2.1 5) &&& 7), .ref (ad 0)])) ?_ (fun K3 J3 hs => ?_)
              · intro v6 S7 H locs ls hl hP hS hs
                obtain ⟨S8, h11, hs⟩ := bv_e hs
                refine kX7_setA C tM_X7_74 ⟨Nat.le_of_ble_eq_true rfl, Nat.le_of_ble_eq_true rfl⟩ ⟨Nat.le_of_ble_eq_true rfl, Nat.le_of_ble_eq_true rfl⟩ hK hP hS hl.1 (rest := []) (Nat.le_of_ble_eq_true rfl) dX7_group5_290 h11 (fun H locs hP hS => ?_)
                refine lv_iconst (v := 1) hx hb dX7_group5_293 (by decide) ?_
                exact u_zret (v := true) hx hb hr hlocks hP hS hs dX7_group5_294
              ·
                refine lv_if_eq (tgt := 276) hx hb dX7_group5_256 (by decide) (fun c5 => ?_) (fun c5 => ?_)
                · have hs := if_t c5 hs
                  refine lv_aload_n hx hb dX7_group5_276 rfl (lv_at hl 4 rfl) ?_
                  refine lv_aload_n hx hb dX7_group5_277 rfl (lv_at hl 4 rfl) ?_
                  refine gM_X7_op hx hb hT hown hK hP (hT _ tF_X7_174) dX7_group5_278 ?_
                  refine lv_bipush (v := 7) hx hb dX7_group5_281 (by decide) ?_
                  refine lv_iand hx hb dX7_group5_283 ?_
                  obtain ⟨r4, S9, h12, hs⟩ := bd_e hs
                  refine kX7_getA C tM_X7_70 ⟨Nat.le_of_ble_eq_true rfl, Nat.le_of_ble_eq_true rfl⟩ ⟨Nat.le_of_ble_eq_true rfl, Nat.le_of_ble_eq_true rfl⟩ hK hP hS hl.1 (rest := [.int ((S2.1 5) &&& 7), .ref (ad 0)]) (Nat.le_of_ble_eq_true rfl) dX7_group5_284 h12 (fun H locs hP hS => ?_)
                  refine lv_iload hx hb dX7_group5_287 (lv_at hl 1 rfl) ?_
                  refine lv_iadd hx hb dX7_group5_289 ?_
                  exact J3 (r4 + v5) S9 _ _ _ (lv_sub hl [] rfl) hP hS hs
                · have hs := if_f c5 hs
                  refine lv_aload_n hx hb dX7_group5_259 rfl (lv_at hl 4 rfl) ?_
                  refine lv_aload_n hx hb dX7_group5_260 rfl (lv_at hl 4 rfl) ?_
                  refine gM_X7_op hx hb hT hown hK hP (hT _ tF_X7_174) dX7_group5_261 ?_
                  refine lv_bipush (v := 7) hx hb dX7_group5_264 (by decide) ?_
                  refine lv_iand hx hb dX7_group5_266 ?_
                  obtain ⟨r5, S10, h13, hs⟩ := bd_e hs
                  refine kX7_getA C tM_X7_70 ⟨Nat.le_of_ble_eq_true rfl, Nat.le_of_ble_eq_true rfl⟩ ⟨Nat.le_of_ble_eq_true rfl, Nat.le_of_ble_eq_true rfl⟩ hK hP hS hl.1 (rest := [.int ((S2.1 5) &&& 7), .ref (ad 0)]) (Nat.le_of_ble_eq_true rfl) dX7_group5_267 h13 (fun H locs hP hS => ?_)
                  refine lv_iload hx hb dX7_group5_270 (lv_at hl 1 rfl) ?_
                  refine lv_isub hx hb dX7_group5_272 ?_
                  refine lv_goto (tgt := 290) hx hb dX7_group5_273 (by decide) ?_
                  exact J3 (r5 - v5) S10 _ _ _ (lv_sub hl [] rfl) hP hS hs
          ·
            refine lv_if_eq (tgt := 236) hx hb dX7_group5_229 (by decide) (fun c6 => ?_) (fun c6 => ?_)
            · have hs := if_t c6 hs
              refine lv_iconst (v := 0) hx hb dX7_group5_236 (by decide) ?_
              exact J2 false _ _ _ (lv_sub hl [0, 1, 2, 3] rfl) hP hS hs
            · have hs := if_f c6 hs
              refine lv_iconst (v := 1) hx hb dX7_group5_232 (by decide) ?_
              refine lv_goto (tgt := 237) hx hb dX7_group5_233 (by decide) ?_
              exact J2 true _ _ _ (lv_sub hl [0, 1, 2, 3] rfl) hP hS hs
        ·
          refine lv_if_ne (tgt := 217) hx hb dX7_group5_209 (by decide) (fun c7 => ?_) (fun c7 => ?_)
          · have hs := if_f c7 hs
            refine lv_iload hx hb dX7_group5_217 (lv_at hl 0 rfl) ?_
            exact J1 v4 _ _ _ (lv_sub hl [1, 2, 5] rfl) hP hS hs
          · have hs := if_t c7 hs
            refine lv_bipush (v := 8) hx hb dX7_group5_212 (by decide) ?_
            refine lv_goto (tgt := 219) hx hb dX7_group5_214 (by decide) ?_
            exact J1 8 _ _ _ (lv_sub hl [1, 2, 5] rfl) hP hS hs
      · have hs := if_t c3 hs
        refine lv_iconst (v := 0) hx hb dX7_group5_193 (by decide) ?_
        exact u_zret (v := false) hx hb hr hlocks hP hS hs dX7_group5_194
    · have hs := if_t c2 hs
      refine lv_iload_n hx hb dX7_group5_138 rfl (lv_at hl 0 rfl) ?_
      refine lv_iconst (v := 4) hx hb dX7_group5_139 (by decide) ?_
      refine lv_iconst (v := 1) hx hb dX7_group5_140 (by decide) ?_
      obtain ⟨b3, S11, h14, hs⟩ := bd_e hs
      refine kX7_fits C tM_X7_188 ⟨Nat.le_of_ble_eq_true rfl, Nat.le_of_ble_eq_true rfl⟩ ⟨Nat.le_of_ble_eq_true rfl, Nat.le_of_ble_eq_true rfl⟩ hK hP hS hl.1 (rest := []) (Nat.le_of_ble_eq_true rfl) dX7_group5_141 h14 (fun H locs hP hS => ?_)
      refine lv_if_ne (tgt := 149) hx hb dX7_group5_144 (by decide) (fun c8 => ?_) (fun c8 => ?_)
      · have hs := if_f c8 hs
        refine lv_aload_n hx hb dX7_group5_149 rfl (lv_at hl 3 rfl) ?_
        refine lv_iload_n hx hb dX7_group5_150 rfl (lv_at hl 0 rfl) ?_
        refine lv_iconst (v := 1) hx hb dX7_group5_151 (by decide) ?_
        obtain ⟨S12, h15, hs⟩ := bv_e hs
        refine kX7_operand C tM_X7_192 ⟨Nat.le_of_ble_eq_true rfl, Nat.le_of_ble_eq_true rfl⟩ ⟨Nat.le_of_ble_eq_true rfl, Nat.le_of_ble_eq_true rfl⟩ hK hP hS hl.1 (rest := []) (Nat.le_of_ble_eq_true rfl) dX7_group5_152 h15 (fun H locs hP hS => ?_)
        refine lv_aload_n hx hb dX7_group5_155 rfl (lv_at hl 3 rfl) ?_
        refine lv_aload_n hx hb dX7_group5_156 rfl (lv_at hl 3 rfl) ?_
        refine lv_iload_n hx hb dX7_group5_157 rfl (lv_at hl 1 rfl) ?_
        obtain ⟨b4, S13, h16, hs⟩ := bd_e hs
        refine kX7_holds C tM_X7_269 ⟨Nat.le_of_ble_eq_true rfl, Nat.le_of_ble_eq_true rfl⟩ ⟨Nat.le_of_ble_eq_true rfl, Nat.le_of_ble_eq_true rfl⟩ hK hP hS hl.1 (rest := [.ref (ad 0)]) (Nat.le_of_ble_eq_true rfl) dX7_group5_158 h16 (fun H locs hP hS => ?_)
        refine jn_e hs (fun K4 => ∀ (v7 : Int32) (H : Heap) (locs : List Loc) (ls : Array Slot), lv_has ls 7 [] → va_P D vwCl (wM ad cI cB S13) H → va_S (AX 11 ad s.heap.size) s.heap H locs → K4 v7 = some (ro, So) → W p l e rmX7_group5 s m ([.ref (ad 0)] : List Value).toArray below meth c H locs 0 0 (MQ below (uQ D (wM ad cI cB) (some (.int (zI ro)), So) (AX 11 ad s.heap.size)) ([.ref (ad 0)] : List Value).toArray s 0 0 (AX 11 ad s.heap.size)) (F0 m 171 ls [.int v7, .ref (ad 0)])) ?_ (fun K4 J4 hs => ?_)
        · intro v7 H locs ls hl hP hS hs
          refine lv_iconst (v := 1) hx hb dX7_group5_171 (by decide) ?_
          obtain ⟨S14, h17, hs⟩ := bv_e hs
          refine kX7_give C tM_X7_198 ⟨Nat.le_of_ble_eq_true rfl, Nat.le_of_ble_eq_true rfl⟩ ⟨Nat.le_of_ble_eq_true rfl, Nat.le_of_ble_eq_true rfl⟩ hK hP hS hl.1 (rest := []) (Nat.le_of_ble_eq_true rfl) dX7_group5_172 h17 (fun H locs hP hS => ?_)
          refine lv_iconst (v := 1) hx hb dX7_group5_175 (by decide) ?_
          exact u_zret (v := true) hx hb hr hlocks hP hS hs dX7_group5_176
        ·
          refine lv_if_eq (tgt := 170) hx hb dX7_group5_161 (by decide) (fun c9 => ?_) (fun c9 => ?_)
          · have hs := if_t c9 hs
            refine lv_iconst (v := 0) hx hb dX7_group5_170 (by decide) ?_
            exact J4 0 _ _ _ (lv_sub hl [] rfl) hP hS hs
          · have hs := if_f c9 hs
            refine lv_sipush (v := 255) hx hb dX7_group5_164 (by decide) ?_
            refine lv_goto (tgt := 171) hx hb dX7_group5_167 (by decide) ?_
            exact J4 255 _ _ _ (lv_sub hl [] rfl) hP hS hs
      · have hs := if_t c8 hs
        refine lv_iconst (v := 0) hx hb dX7_group5_147 (by decide) ?_
        exact u_zret (v := false) hx hb hr hlocks hP hS hs dX7_group5_148
  · have hs := if_t c1 hs
    refine lv_iload_n hx hb dX7_group5_34 rfl (lv_at hl 0 rfl) ?_
    refine lv_iconst (v := 3) hx hb dX7_group5_35 (by decide) ?_
    refine lv_ishr hx hb dX7_group5_36 ?_
    refine lv_iconst (v := 1) hx hb dX7_group5_37 (by decide) ?_
    refine lv_icmp_ne (tgt := 133) hx hb dX7_group5_38 (by decide) (fun c10 => ?_) (fun c10 => ?_)
    · have hs := if_f c10 hs
      refine lv_iload_n hx hb dX7_group5_133 rfl (lv_at hl 2 rfl) ?_
      refine lv_iconst (v := 3) hx hb dX7_group5_134 (by decide) ?_
      refine lv_icmp_ne (tgt := 177) hx hb dX7_group5_135 (by decide) (fun c11 => ?_) (fun c11 => ?_)
      · have hs := if_f c11 hs
        refine lv_iload_n hx hb dX7_group5_177 rfl (lv_at hl 2 rfl) ?_
        obtain ⟨r6, S15, h18, hs⟩ := bd_e hs
        refine kX7_sizeOf C tM_X7_211 ⟨Nat.le_of_ble_eq_true rfl, Nat.le_of_ble_eq_true rfl⟩ ⟨Nat.le_of_ble_eq_true rfl, Nat.le_of_ble_eq_true rfl⟩ hK hP hS hl.1 (rest := []) (Nat.le_of_ble_eq_true rfl) dX7_group5_178 h18 (fun H locs hP hS => ?_)
        refine lv_istore (lv' := [(4, .int r6), (3, .int v3), (2, .int v2), (1, .int v1), (0, .ref (ad 0))]) hx hb dX7_group5_181 hl (by decide) rfl (fun ls hl => ?_)
        refine lv_iload_n hx hb dX7_group5_183 rfl (lv_at hl 1 rfl) ?_
        refine lv_iconst (v := 5) hx hb dX7_group5_184 (by decide) ?_
        refine lv_iload hx hb dX7_group5_185 (lv_at hl 0 rfl) ?_
        obtain ⟨b5, S16, h19, hs⟩ := bd_e hs
        refine kX7_fits C tM_X7_188 ⟨Nat.le_of_ble_eq_true rfl, Nat.le_of_ble_eq_true rfl⟩ ⟨Nat.le_of_ble_eq_true rfl, Nat.le_of_ble_eq_true rfl⟩ hK hP hS hl.1 (rest := []) (Nat.le_of_ble_eq_true rfl) dX7_group5_187 h19 (fun H locs hP hS => ?_)
        refine lv_if_ne (tgt := 195) hx hb dX7_group5_190 (by decide) (fun c12 => ?_) (fun c12 => ?_)
        · have hs := if_f c12 hs
          refine lv_aload_n hx hb dX7_group5_195 rfl (lv_at hl 4 rfl) ?_
          refine gM_X7_op hx hb hT hown hK hP (hT _ tF_X7_174) dX7_group5_196 ?_
          refine lv_bipush (v := 9) hx hb dX7_group5_199 (by decide) ?_
          refine lv_ishr hx hb dX7_group5_201 ?_
          refine lv_bipush (v := 7) hx hb dX7_group5_202 (by decide) ?_
          refine lv_iand hx hb dX7_group5_204 ?_
          obtain ⟨v8, h20, hs⟩ := lt_e hs
          refine u_top h20 ?_
          refine lv_istore (lv' := [(5, .int v8), (4, .int r6), (3, .int v3), (2, .int v2), (1, .int v1), (0, .ref (ad 0))]) hx hb dX7_group5_205 hl (by decide) rfl (fun ls hl => ?_)
          refine lv_iload hx hb dX7_group5_207 (lv_at hl 0 rfl) ?_
          refine jn_e hs (fun K5 => ∀ (v9 : Int32) (H : Heap) (locs : List Loc) (ls : Array Slot), lv_has ls 7 [(4, .int r6), (3, .int v3), (0, .ref (ad 0))] → va_P D vwCl (wM ad cI cB S16) H → va_S (AX 11 ad s.heap.size) s.heap H locs → K5 v9 = some (ro, So) → W p l e rmX7_group5 s m ([.ref (ad 0)] : List Value).toArray below meth c H locs 0 0 (MQ below (uQ D (wM ad cI cB) (some (.int (zI ro)), So) (AX 11 ad s.heap.size)) ([.ref (ad 0)] : List Value).toArray s 0 0 (AX 11 ad s.heap.size)) (F0 m 219 ls [.int v9])) ?_ (fun K5 J5 hs => ?_)
          · intro v9 H locs ls hl hP hS hs
            refine lv_istore (lv' := [(5, .int v9), (4, .int r6), (3, .int v3), (0, .ref (ad 0))]) hx hb dX7_group5_219 hl (by decide) rfl (fun ls hl => ?_)
            refine lv_aload_n hx hb dX7_group5_221 rfl (lv_at hl 3 rfl) ?_
            refine gM_X7_op hx hb hT hown hK hP (hT _ tF_X7_174) dX7_group5_222 ?_
            refine lv_sipush (v := 256) hx hb dX7_group5_225 (by decide) ?_
            refine lv_iand hx hb dX7_group5_228 ?_
            refine jn_e hs (fun K6 => ∀ (b6 : Bool) (H : Heap) (locs : List Loc) (ls : Array Slot), lv_has ls 7 [(5, .int v9), (4, .int r6), (3, .int v3), (0, .ref (ad 0))] → va_P D vwCl (wM ad cI cB S16) H → va_S (AX 11 ad s.heap.size) s.heap H locs → K6 b6 = some (ro, So) → W p l e rmX7_group5 s m ([.ref (ad 0)] : List Value).toArray below meth c H locs 0 0 (MQ below (uQ D (wM ad cI cB) (some (.int (zI ro)), So) (AX 11 ad s.heap.size)) ([.ref (ad 0)] : List Value).toArray s 0 0 (AX 11 ad s.heap.size)) (F0 m 237 ls [.int (zI b6)])) ?_ (fun K6 J6 hs => ?_)
            · intro b6 H locs ls hl hP hS hs
              refine lv_istore (lv' := [(6, .int (zI b6)), (5, .int v9), (4, .int r6), (3, .int v3), (0, .ref (ad 0))]) hx hb dX7_group5_237 hl (by decide) rfl (fun ls hl => ?_)
              refine lv_iload_n hx hb dX7_group5_239 rfl (lv_at hl 3 rfl) ?_
              refine lv_iconst (v := 3) hx hb dX7_group5_240 (by decide) ?_
              refine lv_ishr hx hb dX7_group5_241 ?_
              refine lv_iconst (v := 1) hx hb dX7_group5_242 (by decide) ?_
              refine lv_icmp_ne (tgt := 295) hx hb dX7_group5_243 (by decide) (fun c13 => ?_) (fun c13 => ?_)
              · have hs := if_f c13 hs
                refine lv_aload_n hx hb dX7_group5_295 rfl (lv_at hl 4 rfl) ?_
                refine lv_iload_n hx hb dX7_group5_296 rfl (lv_at hl 3 rfl) ?_
                refine lv_iload hx hb dX7_group5_297 (lv_at hl 2 rfl) ?_
                obtain ⟨S17, h21, hs⟩ := bv_e hs
                refine kX7_operand C tM_X7_192 ⟨Nat.le_of_ble_eq_true rfl, Nat.le_of_ble_eq_true rfl⟩ ⟨Nat.le_of_ble_eq_true rfl, Nat.le_of_ble_eq_true rfl⟩ hK hP hS hl.1 (rest := []) (Nat.le_of_ble_eq_true rfl) dX7_group5_299 h21 (fun H locs hP hS => ?_)
                refine lv_aload_n hx hb dX7_group5_302 rfl (lv_at hl 4 rfl) ?_
                refine lv_aload_n hx hb dX7_group5_303 rfl (lv_at hl 4 rfl) ?_
                refine lv_aload_n hx hb dX7_group5_304 rfl (lv_at hl 4 rfl) ?_
                refine lv_iload hx hb dX7_group5_305 (lv_at hl 2 rfl) ?_
                obtain ⟨r7, S18, h22, hs⟩ := bd_e hs
                refine kX7_take C tM_X7_195 ⟨Nat.le_of_ble_eq_true rfl, Nat.le_of_ble_eq_true rfl⟩ ⟨Nat.le_of_ble_eq_true rfl, Nat.le_of_ble_eq_true rfl⟩ hK hP hS hl.1 (rest := [.ref (ad 0), .ref (ad 0)]) (Nat.le_of_ble_eq_true rfl) dX7_group5_307 h22 (fun H locs hP hS => ?_)
                refine lv_iload hx hb dX7_group5_310 (lv_at hl 1 rfl) ?_
                refine lv_iconst (v := 0) hx hb dX7_group5_312 (by decide) ?_
                refine lv_iload hx hb dX7_group5_313 (lv_at hl 0 rfl) ?_
                refine lv_iload hx hb dX7_group5_315 (lv_at hl 2 rfl) ?_
                refine lv_iconst (v := 1) hx hb dX7_group5_317 (by decide) ?_
                refine lv_iconst (v := 0) hx hb dX7_group5_318 (by decide) ?_
                obtain ⟨r8, S19, h23, hs⟩ := bd_e hs
                refine kX7_reckon C tM_X7_167 ⟨Nat.le_of_ble_eq_true rfl, Nat.le_of_ble_eq_true rfl⟩ ⟨Nat.le_of_ble_eq_true rfl, Nat.le_of_ble_eq_true rfl⟩ hK hP hS hl.1 (rest := [.ref (ad 0)]) (Nat.le_of_ble_eq_true rfl) dX7_group5_319 h23 (fun H locs hP hS => ?_)
                refine lv_iload hx hb dX7_group5_322 (lv_at hl 2 rfl) ?_
                obtain ⟨S20, h24, hs⟩ := bv_e hs
                refine kX7_give C tM_X7_198 ⟨Nat.le_of_ble_eq_true rfl, Nat.le_of_ble_eq_true rfl⟩ ⟨Nat.le_of_ble_eq_true rfl, Nat.le_of_ble_eq_true rfl⟩ hK hP hS hl.1 (rest := []) (Nat.le_of_ble_eq_true rfl) dX7_group5_324 h24 (fun H locs hP hS => ?_)
                refine lv_iconst (v := 1) hx hb dX7_group5_327 (by decide) ?_
                exact u_zret (v := true) hx hb hr hlocks hP hS hs dX7_group5_328
              · have hs := if_t c13 hs
                refine lv_aload_n hx hb dX7_group5_246 rfl (lv_at hl 4 rfl) ?_
                refine lv_aload_n hx hb dX7_group5_247 rfl (lv_at hl 4 rfl) ?_
                refine gM_X7_op hx hb hT hown hK hP (hT _ tF_X7_174) dX7_group5_248 ?_
                refine lv_bipush (v := 7) hx hb dX7_group5_251 (by decide) ?_
                refine lv_iand hx hb dX7_group5_253 ?_
                refine lv_iload hx hb dX7_group5_254 (lv_at hl 0 rfl) ?_
                refine jn_e hs (fun K7 => ∀ (v10 : Int32) (S21 : St) (H : Heap) (locs : List Loc) (ls : Array Slot), lv_has ls 7 [] → va_P D vwCl (wM ad cI cB S21) H → va_S (AX 11 ad s.heap.size) s.heap H locs → K7 v10 S21 = some (ro, So) → W p l e rmX7_group5 s m ([.ref (ad 0)] : List Value).toArray below meth c H locs 0 0 (MQ below (uQ D (wM ad cI cB) (some (.int (zI ro)), So) (AX 11 ad s.heap.size)) ([.ref (ad 0)] : List Value).toArray s 0 0 (AX 11 ad s.heap.size)) (F0 m 290 ls [.int v10, .int ((S16.1 5) &&& 7), .ref (ad 0)])) ?_ (fun K7 J7 hs => ?_)
                · intro v10 S21 H locs ls hl hP hS hs
                  obtain ⟨S22, h25, hs⟩ := bv_e hs
                  refine kX7_setA C tM_X7_74 ⟨Nat.le_of_ble_eq_true rfl, Nat.le_of_ble_eq_true rfl⟩ ⟨Nat.le_of_ble_eq_true rfl, Nat.le_of_ble_eq_true rfl⟩ hK hP hS hl.1 (rest := []) (Nat.le_of_ble_eq_true rfl) dX7_group5_290 h25 (fun H locs hP hS => ?_)
                  refine lv_iconst (v := 1) hx hb dX7_group5_293 (by decide) ?_
                  exact u_zret (v := true) hx hb hr hlocks hP hS hs dX7_group5_294
                ·
                  refine lv_if_eq (tgt := 276) hx hb dX7_group5_256 (by decide) (fun c14 => ?_) (fun c14 => ?_)
                  · have hs := if_t c14 hs
                    refine lv_aload_n hx hb dX7_group5_276 rfl (lv_at hl 4 rfl) ?_
                    refine lv_aload_n hx hb dX7_group5_277 rfl (lv_at hl 4 rfl) ?_
                    refine gM_X7_op hx hb hT hown hK hP (hT _ tF_X7_174) dX7_group5_278 ?_
                    refine lv_bipush (v := 7) hx hb dX7_group5_281 (by decide) ?_
                    refine lv_iand hx hb dX7_group5_283 ?_
                    obtain ⟨r9, S23, h26, hs⟩ := bd_e hs
                    refine kX7_getA C tM_X7_70 ⟨Nat.le_of_ble_eq_true rfl, Nat.le_of_ble_eq_true rfl⟩ ⟨Nat.le_of_ble_eq_true rfl, Nat.le_of_ble_eq_true rfl⟩ hK hP hS hl.1 (rest := [.int ((S16.1 5) &&& 7), .ref (ad 0)]) (Nat.le_of_ble_eq_true rfl) dX7_group5_284 h26 (fun H locs hP hS => ?_)
                    refine lv_iload hx hb dX7_group5_287 (lv_at hl 1 rfl) ?_
                    refine lv_iadd hx hb dX7_group5_289 ?_
                    exact J7 (r9 + v9) S23 _ _ _ (lv_sub hl [] rfl) hP hS hs
                  · have hs := if_f c14 hs
                    refine lv_aload_n hx hb dX7_group5_259 rfl (lv_at hl 4 rfl) ?_
                    refine lv_aload_n hx hb dX7_group5_260 rfl (lv_at hl 4 rfl) ?_
                    refine gM_X7_op hx hb hT hown hK hP (hT _ tF_X7_174) dX7_group5_261 ?_
                    refine lv_bipush (v := 7) hx hb dX7_group5_264 (by decide) ?_
                    refine lv_iand hx hb dX7_group5_266 ?_
                    obtain ⟨r10, S24, h27, hs⟩ := bd_e hs
                    refine kX7_getA C tM_X7_70 ⟨Nat.le_of_ble_eq_true rfl, Nat.le_of_ble_eq_true rfl⟩ ⟨Nat.le_of_ble_eq_true rfl, Nat.le_of_ble_eq_true rfl⟩ hK hP hS hl.1 (rest := [.int ((S16.1 5) &&& 7), .ref (ad 0)]) (Nat.le_of_ble_eq_true rfl) dX7_group5_267 h27 (fun H locs hP hS => ?_)
                    refine lv_iload hx hb dX7_group5_270 (lv_at hl 1 rfl) ?_
                    refine lv_isub hx hb dX7_group5_272 ?_
                    refine lv_goto (tgt := 290) hx hb dX7_group5_273 (by decide) ?_
                    exact J7 (r10 - v9) S24 _ _ _ (lv_sub hl [] rfl) hP hS hs
            ·
              refine lv_if_eq (tgt := 236) hx hb dX7_group5_229 (by decide) (fun c15 => ?_) (fun c15 => ?_)
              · have hs := if_t c15 hs
                refine lv_iconst (v := 0) hx hb dX7_group5_236 (by decide) ?_
                exact J6 false _ _ _ (lv_sub hl [0, 1, 2, 3] rfl) hP hS hs
              · have hs := if_f c15 hs
                refine lv_iconst (v := 1) hx hb dX7_group5_232 (by decide) ?_
                refine lv_goto (tgt := 237) hx hb dX7_group5_233 (by decide) ?_
                exact J6 true _ _ _ (lv_sub hl [0, 1, 2, 3] rfl) hP hS hs
          ·
            refine lv_if_ne (tgt := 217) hx hb dX7_group5_209 (by decide) (fun c16 => ?_) (fun c16 => ?_)
            · have hs := if_f c16 hs
              refine lv_iload hx hb dX7_group5_217 (lv_at hl 0 rfl) ?_
              exact J5 v8 _ _ _ (lv_sub hl [1, 2, 5] rfl) hP hS hs
            · have hs := if_t c16 hs
              refine lv_bipush (v := 8) hx hb dX7_group5_212 (by decide) ?_
              refine lv_goto (tgt := 219) hx hb dX7_group5_214 (by decide) ?_
              exact J5 8 _ _ _ (lv_sub hl [1, 2, 5] rfl) hP hS hs
        · have hs := if_t c12 hs
          refine lv_iconst (v := 0) hx hb dX7_group5_193 (by decide) ?_
          exact u_zret (v := false) hx hb hr hlocks hP hS hs dX7_group5_194
      · have hs := if_t c11 hs
        refine lv_iload_n hx hb dX7_group5_138 rfl (lv_at hl 0 rfl) ?_
        refine lv_iconst (v := 4) hx hb dX7_group5_139 (by decide) ?_
        refine lv_iconst (v := 1) hx hb dX7_group5_140 (by decide) ?_
        obtain ⟨b7, S25, h28, hs⟩ := bd_e hs
        refine kX7_fits C tM_X7_188 ⟨Nat.le_of_ble_eq_true rfl, Nat.le_of_ble_eq_true rfl⟩ ⟨Nat.le_of_ble_eq_true rfl, Nat.le_of_ble_eq_true rfl⟩ hK hP hS hl.1 (rest := []) (Nat.le_of_ble_eq_true rfl) dX7_group5_141 h28 (fun H locs hP hS => ?_)
        refine lv_if_ne (tgt := 149) hx hb dX7_group5_144 (by decide) (fun c17 => ?_) (fun c17 => ?_)
        · have hs := if_f c17 hs
          refine lv_aload_n hx hb dX7_group5_149 rfl (lv_at hl 3 rfl) ?_
          refine lv_iload_n hx hb dX7_group5_150 rfl (lv_at hl 0 rfl) ?_
          refine lv_iconst (v := 1) hx hb dX7_group5_151 (by decide) ?_
          obtain ⟨S26, h29, hs⟩ := bv_e hs
          refine kX7_operand C tM_X7_192 ⟨Nat.le_of_ble_eq_true rfl, Nat.le_of_ble_eq_true rfl⟩ ⟨Nat.le_of_ble_eq_true rfl, Nat.le_of_ble_eq_true rfl⟩ hK hP hS hl.1 (rest := []) (Nat.le_of_ble_eq_true rfl) dX7_group5_152 h29 (fun H locs hP hS => ?_)
          refine lv_aload_n hx hb dX7_group5_155 rfl (lv_at hl 3 rfl) ?_
          refine lv_aload_n hx hb dX7_group5_156 rfl (lv_at hl 3 rfl) ?_
          refine lv_iload_n hx hb dX7_group5_157 rfl (lv_at hl 1 rfl) ?_
          obtain ⟨b8, S27, h30, hs⟩ := bd_e hs
          refine kX7_holds C tM_X7_269 ⟨Nat.le_of_ble_eq_true rfl, Nat.le_of_ble_eq_true rfl⟩ ⟨Nat.le_of_ble_eq_true rfl, Nat.le_of_ble_eq_true rfl⟩ hK hP hS hl.1 (rest := [.ref (ad 0)]) (Nat.le_of_ble_eq_true rfl) dX7_group5_158 h30 (fun H locs hP hS => ?_)
          refine jn_e hs (fun K8 => ∀ (v11 : Int32) (H : Heap) (locs : List Loc) (ls : Array Slot), lv_has ls 7 [] → va_P D vwCl (wM ad cI cB S27) H → va_S (AX 11 ad s.heap.size) s.heap H locs → K8 v11 = some (ro, So) → W p l e rmX7_group5 s m ([.ref (ad 0)] : List Value).toArray below meth c H locs 0 0 (MQ below (uQ D (wM ad cI cB) (some (.int (zI ro)), So) (AX 11 ad s.heap.size)) ([.ref (ad 0)] : List Value).toArray s 0 0 (AX 11 ad s.heap.size)) (F0 m 171 ls [.int v11, .ref (ad 0)])) ?_ (fun K8 J8 hs => ?_)
          · intro v11 H locs ls hl hP hS hs
            refine lv_iconst (v := 1) hx hb dX7_group5_171 (by decide) ?_
            obtain ⟨S28, h31, hs⟩ := bv_e hs
            refine kX7_give C tM_X7_198 ⟨Nat.le_of_ble_eq_true rfl, Nat.le_of_ble_eq_true rfl⟩ ⟨Nat.le_of_ble_eq_true rfl, Nat.le_of_ble_eq_true rfl⟩ hK hP hS hl.1 (rest := []) (Nat.le_of_ble_eq_true rfl) dX7_group5_172 h31 (fun H locs hP hS => ?_)
            refine lv_iconst (v := 1) hx hb dX7_group5_175 (by decide) ?_
            exact u_zret (v := true) hx hb hr hlocks hP hS hs dX7_group5_176
          ·
            refine lv_if_eq (tgt := 170) hx hb dX7_group5_161 (by decide) (fun c18 => ?_) (fun c18 => ?_)
            · have hs := if_t c18 hs
              refine lv_iconst (v := 0) hx hb dX7_group5_170 (by decide) ?_
              exact J8 0 _ _ _ (lv_sub hl [] rfl) hP hS hs
            · have hs := if_f c18 hs
              refine lv_sipush (v := 255) hx hb dX7_group5_164 (by decide) ?_
              refine lv_goto (tgt := 171) hx hb dX7_group5_167 (by decide) ?_
              exact J8 255 _ _ _ (lv_sub hl [] rfl) hP hS hs
        · have hs := if_t c17 hs
          refine lv_iconst (v := 0) hx hb dX7_group5_147 (by decide) ?_
          exact u_zret (v := false) hx hb hr hlocks hP hS hs dX7_group5_148
    · have hs := if_t c10 hs
      refine lv_aload_n hx hb dX7_group5_41 rfl (lv_at hl 3 rfl) ?_
      refine gM_X7_pc hx hb hT hown hK hP (hT _ tF_X7_47) dX7_group5_42 ?_
      obtain ⟨v12, h32, hs⟩ := lt_e hs
      refine u_top h32 ?_
      refine lv_istore (lv' := [(4, .int v12), (3, .int v3), (2, .int v2), (1, .int v1), (0, .ref (ad 0))]) hx hb dX7_group5_45 hl (by decide) rfl (fun ls hl => ?_)
      refine lv_iload hx hb dX7_group5_47 (lv_at hl 0 rfl) ?_
      refine lv_aload_n hx hb dX7_group5_49 rfl (lv_at hl 4 rfl) ?_
      obtain ⟨r11, S29, h33, hs⟩ := bd_e hs
      refine kX7_extension C tM_X7_125 ⟨Nat.le_of_ble_eq_true rfl, Nat.le_of_ble_eq_true rfl⟩ ⟨Nat.le_of_ble_eq_true rfl, Nat.le_of_ble_eq_true rfl⟩ hK hP hS hl.1 (rest := [.int v12]) (Nat.le_of_ble_eq_true rfl) dX7_group5_50 h33 (fun H locs hP hS => ?_)
      refine lv_i2s (v := (r11.toInt16.toInt32)) hx hb dX7_group5_53 rfl ?_
      refine lv_iadd hx hb dX7_group5_54 ?_
      obtain ⟨v13, h34, hs⟩ := lt_e hs
      refine u_top h34 ?_
      refine lv_istore (lv' := [(5, .int v13), (4, .int v12), (3, .int v3), (2, .int v2), (1, .int v1), (0, .ref (ad 0))]) hx hb dX7_group5_55 hl (by decide) rfl (fun ls hl => ?_)
      refine lv_aload_n hx hb dX7_group5_57 rfl (lv_at hl 5 rfl) ?_
      refine lv_iload_n hx hb dX7_group5_58 rfl (lv_at hl 3 rfl) ?_
      obtain ⟨b9, S30, h35, hs⟩ := bd_e hs
      refine kX7_holds C tM_X7_269 ⟨Nat.le_of_ble_eq_true rfl, Nat.le_of_ble_eq_true rfl⟩ ⟨Nat.le_of_ble_eq_true rfl, Nat.le_of_ble_eq_true rfl⟩ hK hP hS hl.1 (rest := []) (Nat.le_of_ble_eq_true rfl) dX7_group5_59 h35 (fun H locs hP hS => ?_)
      refine lv_if_ne (tgt := 131) hx hb dX7_group5_62 (by decide) (fun c19 => ?_) (fun c19 => ?_)
      · have hs := if_f c19 hs
        refine lv_iconst (v := 1) hx hb dX7_group5_131 (by decide) ?_
        exact u_zret (v := true) hx hb hr hlocks hP hS hs dX7_group5_132
      · have hs := if_t c19 hs
        refine lv_aload_n hx hb dX7_group5_65 rfl (lv_at hl 5 rfl) ?_
        refine gM_X7_d hx hb hT hown hK hP (hT _ tF_X7_13) dX7_group5_66 ?_
        refine lv_aload_n hx hb dX7_group5_69 rfl (lv_at hl 5 rfl) ?_
        refine gM_X7_op hx hb hT hown hK hP (hT _ tF_X7_174) dX7_group5_70 ?_
        refine lv_bipush (v := 7) hx hb dX7_group5_73 (by decide) ?_
        refine lv_iand hx hb dX7_group5_75 ?_
        obtain ⟨h36, hs⟩ := gd_e hs
        refine lM_d hx hb hK hP (ixo_in h36) dX7_group5_76 ?_
        refine lv_iconst (v := 1) hx hb dX7_group5_77 (by decide) ?_
        refine lv_isub hx hb dX7_group5_78 ?_
        obtain ⟨v14, h37, hs⟩ := lt_e hs
        refine u_top h37 ?_
        refine lv_istore (lv' := [(6, .int v14), (5, .int v13), (4, .int v12), (3, .int v3), (2, .int v2), (1, .int v1), (0, .ref (ad 0))]) hx hb dX7_group5_79 hl (by decide) rfl (fun ls hl => ?_)
        refine lv_aload_n hx hb dX7_group5_81 rfl (lv_at hl 6 rfl) ?_
        refine gM_X7_d hx hb hT hown hK hP (hT _ tF_X7_13) dX7_group5_82 ?_
        refine lv_aload_n hx hb dX7_group5_85 rfl (lv_at hl 6 rfl) ?_
        refine gM_X7_op hx hb hT hown hK hP (hT _ tF_X7_174) dX7_group5_86 ?_
        refine lv_bipush (v := 7) hx hb dX7_group5_89 (by decide) ?_
        refine lv_iand hx hb dX7_group5_91 ?_
        refine lv_aload_n hx hb dX7_group5_92 rfl (lv_at hl 6 rfl) ?_
        refine gM_X7_d hx hb hT hown hK hP (hT _ tF_X7_13) dX7_group5_93 ?_
        refine lv_aload_n hx hb dX7_group5_96 rfl (lv_at hl 6 rfl) ?_
        refine gM_X7_op hx hb hT hown hK hP (hT _ tF_X7_174) dX7_group5_97 ?_
        refine lv_bipush (v := 7) hx hb dX7_group5_100 (by decide) ?_
        refine lv_iand hx hb dX7_group5_102 ?_
        obtain ⟨h38, hs⟩ := gd_e hs
        refine lM_d hx hb hK hP (ixo_in h38) dX7_group5_103 ?_
        refine lv_iload hx hb dX7_group5_104 (lv_at hl 0 rfl) ?_
        refine lv_iconst (v := 2) hx hb dX7_group5_106 (by decide) ?_
        obtain ⟨r12, S31, h39, hs⟩ := bd_e hs
        refine kX7_joined C tM_X7_150 ⟨Nat.le_of_ble_eq_true rfl, Nat.le_of_ble_eq_true rfl⟩ ⟨Nat.le_of_ble_eq_true rfl, Nat.le_of_ble_eq_true rfl⟩ hK hP hS hl.1 (rest := [.int ((S30.1 5) &&& 7), .ref (ad 2)]) (Nat.le_of_ble_eq_true rfl) dX7_group5_107 h39 (fun H locs hP hS => ?_)
        obtain ⟨h40, hs⟩ := gd_e hs
        obtain ⟨S32, h41, hs⟩ := lt_e hs
        refine sM_d hx hb hK hP hS (v := r12) (ixo_in h40) dX7_group5_110 h41 (fun H locs hP hS => ?_)
        refine lv_aload_n hx hb dX7_group5_111 rfl (lv_at hl 6 rfl) ?_
        refine lv_iload hx hb dX7_group5_112 (lv_at hl 0 rfl) ?_
        refine lv_i2s (v := (v14.toInt16.toInt32)) hx hb dX7_group5_114 rfl ?_
        refine lv_iconst (v := (-1 : Int32)) hx hb dX7_group5_115 (by decide) ?_
        refine lv_icmp_ne (tgt := 126) hx hb dX7_group5_116 (by decide) (fun c20 => ?_) (fun c20 => ?_)
        · have hs := if_f c20 hs
          refine lv_iload hx hb dX7_group5_126 (lv_at hl 1 rfl) ?_
          obtain ⟨S33, h42, hs⟩ := lt_e hs
          refine pM_X7_pc hx hb hT hown hK hP hS (hT _ tF_X7_47) dX7_group5_128 (v := v13) h42 (fun H locs hP hS => ?_)
          refine lv_iconst (v := 1) hx hb dX7_group5_131 (by decide) ?_
          exact u_zret (v := true) hx hb hr hlocks hP hS hs dX7_group5_132
        · have hs := if_t c20 hs
          refine lv_aload_n hx hb dX7_group5_119 rfl (lv_at hl 6 rfl) ?_
          refine gM_X7_pc hx hb hT hown hK hP (hT _ tF_X7_47) dX7_group5_120 ?_
          refine lv_goto (tgt := 128) hx hb dX7_group5_123 (by decide) ?_
          obtain ⟨S34, h43, hs⟩ := lt_e hs
          refine pM_X7_pc hx hb hT hown hK hP hS (hT _ tF_X7_47) dX7_group5_128 (v := (S32.1 1)) h43 (fun H locs hP hS => ?_)
          refine lv_iconst (v := 1) hx hb dX7_group5_131 (by decide) ?_
          exact u_zret (v := true) hx hb hr hlocks hP hS hs dX7_group5_132
theorem kX7_group5 {p : Program} {l : Launch} {e : Env} {R : Room} {s : State} {m : MethodId} {args : Array Value} {below : List Frame} {meth : Method} {c : Code} {H : Heap} {locs : List Loc} {cells slots : Nat} {Q : State → Prop} {cc : ByteArray} {pc nL : Nat} {ls : Array Slot} {rest : List Value} {D : va_G} {ad : Nat → Nat} {cI cB : ClassId} {en : Nat → Nat} {S : St} {own : String} {index : Nat}  {ro : Bool} {So : St} (C : CallFix p m c cc nL s args wG own) (hlk : Cond.methodLink own index yX7_group5 ∈ wG) (hR : rmX7_group5.frames + 1 ≤ R.frames ∧ 8 + (7 + 11) + rmX7_group5.locals ≤ R.locals) (hc : cells ≤ R.cells ∧ slots ≤ R.slots) (hK : KM D ad cI cB en s) (hP : va_P D vwCl (wM ad cI cB S) H) (hS : va_S (AX 11 ad s.heap.size) s.heap H locs) (hls : ls.size = nL) (hrest : (rest.map fun v => v.category).sum ≤ 8) (hd : decode cc pc = .ok (.invokevirtual index, 3)) (hs : fX7_group5  S = some (ro, So)) (k : ∀ (H : Heap) (locs : List Loc), va_P D vwCl (wM ad cI cB So) H → va_S (AX 11 ad s.heap.size) s.heap H locs → W p l e R s m args below meth c H locs cells slots Q (F0 m (pc + 3) ls (.int (zI ro) :: rest))) : W p l e R s m args below meth c H locs cells slots Q (F0 m pc ls (.ref (ad 0) :: rest)) :=
  u_callV (n := 0) (mX7_group5 l D ad cI cB en S  ro So hs) C uK_M (wg_V hlk tI_X7_group5 tS_X7_group5 tN_X7 tK_X7_group5) rfl rfl rfl (by decide +kernel) hR rfl (va_recv hK.1 hP (ci := 6) (q0 := 0) rfl rfl) hK hP hS hls hrest hd hc rfl k
