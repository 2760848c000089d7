def fX0_refuses (t1 : Nat) (x2 : Int32) (S : St) : Option (Bool × St) :=
    (gd (t1 < 3) (jn (fun (S1 : St) => (if (S1.1 6) = 0 then (some (false, S1))
    else (some (true, S1)))) fun K1 =>
    (if (S.1 6) = 0 then (if t1 = 0 then (K1 S)
    else (if (x2 &&& 1) = 0 then (K1 S)
    else (lt (sI S 6 3) fun S2 => (lt (sI S2 7 x2) fun S3 => (K1 S3)))))
    else (K1 S))))
abbrev rmX0_refuses : Room := { frames := 0, cells := 0, slots := 0, locals := 0 }
set_option maxRecDepth 100000 in
set_option maxHeartbeats 4000000 in
theorem mX0_refuses (l : Launch) (D : va_G) (ad : Nat → Nat) (cI cB : ClassId) (en : Nat → Nat) (S : St) (t1 : Nat) (x2 : Int32) (ro : Bool) (So : St) (hs : fX0_refuses t1 x2 S = some (ro, So)) : uM l yX0_refuses (wg yX0_refuses cX0_refuses 3 (some .boolean)) rmX0_refuses (KB D ad cI cB en) D (wB ad cI cB) (AX 10 ad) [.ref (ad 3), .ref (en t1), .int x2] S (some (.int (zI ro)), So) := by
  refine uM_start (by decide) rfl ?_
  intro p e s m below meth c hx hb hr hlocks hml hown hts hK hP
  have hT : ∀ w ∈ wG, w.before _ s = true := fun w h => hts w (List.mem_cons_of_mem _ h)
  have hS : va_S (AX 10 ad s.heap.size) s.heap s.heap [] := va_S.rf
  have hown : s.vm.findClass RX0 = some m.cls := hown
  have C : CallFix p m c cX0_refuses 3 s _ wG RX0 := ⟨hx, hb, hml, hown, hT⟩
  have hl := lv_entry ([.ref (ad 3), .ref (en t1), .int x2]) (n := 3) (Nat.le_of_ble_eq_true rfl)
  rw [lg_entry_eq]
  generalize (lg_sl ([.ref (ad 3), .ref (en t1), .int x2]) ++ List.replicate (3 - (lg_sl ([.ref (ad 3), .ref (en t1), .int x2])).length) Slot.unset).toArray = ls at hl ⊢
  have hl : lv_has ls 3 [(0, .ref (ad 3)), (1, .ref (en t1)), (2, .int x2)] := hl
  unfold fX0_refuses at hs
  obtain ⟨ht1, hs⟩ := gd_e hs
  refine lv_aload_n hx hb dX0_refuses_0 rfl (lv_at hl 0 rfl) ?_
  refine gB_X0_raised hx hb hT hown hK hP (hT _ tF_X0_19) dX0_refuses_1 ?_
  refine jn_e hs (fun K1 => ∀ (S1 : St) (H : Heap) (locs : List Loc) (ls : Array Slot), lv_has ls 3 [(0, .ref (ad 3))] → va_P D vwCl (wB ad cI cB S1) H → va_S (AX 10 ad s.heap.size) s.heap H locs → K1 S1 = some (ro, So) → W p l e rmX0_refuses s m ([.ref (ad 3), .ref (en t1), .int x2] : List Value).toArray below meth c H locs 0 0 (MQ below (uQ D (wB ad cI cB) (some (.int (zI ro)), So) (AX 10 ad s.heap.size)) ([.ref (ad 3), .ref (en t1), .int x2] : List Value).toArray s 0 0 (AX 10 ad s.heap.size)) (F0 m 30 ls [])) ?_ (fun K1 J1 hs => ?_)
  · intro S1 H locs ls hl hP hS hs
    refine lv_aload_n hx hb dX0_refuses_30 rfl (lv_at hl 0 rfl) ?_
    refine gB_X0_raised hx hb hT hown hK hP (hT _ tF_X0_19) dX0_refuses_31 ?_
    refine lv_if_eq (tgt := 41) hx hb dX0_refuses_34 (by decide) (fun c1 => ?_) (fun c1 => ?_)
    · have hs := if_t c1 hs
      refine lv_iconst (v := 0) hx hb dX0_refuses_41 (by decide) ?_
      exact u_zret (v := false) hx hb hr hlocks hP hS hs dX0_refuses_42
    · have hs := if_f c1 hs
      refine lv_iconst (v := 1) hx hb dX0_refuses_37 (by decide) ?_
      refine lv_goto (tgt := 42) hx hb dX0_refuses_38 (by decide) ?_
      exact u_zret (v := true) hx hb hr hlocks hP hS hs dX0_refuses_42
  ·
    refine lv_if_ne (tgt := 30) hx hb dX0_refuses_4 (by decide) (fun c2 => ?_) (fun c2 => ?_)
    · have hs := if_f c2 hs
      exact J1 S _ _ _ (lv_sub hl [0] rfl) hP hS hs
    · have hs := if_t c2 hs
      refine lv_aload_n hx hb dX0_refuses_7 rfl (lv_at hl 1 rfl) ?_
      refine gS_BYTE hx hb hown hK hS (hT _ tF_X0_26) dX0_refuses_8 ?_
      refine u_acmp_eq (tgt := 30) hx hb hK ht1 (by decide) dX0_refuses_11 (by decide) (fun c3 => ?_) (fun c3 => ?_)
      · have hs := if_t c3 hs
        exact J1 S _ _ _ (lv_sub hl [0] rfl) hP hS hs
      · have hs := if_f c3 hs
        refine lv_iload_n hx hb dX0_refuses_14 rfl (lv_at hl 2 rfl) ?_
        refine lv_iconst (v := 1) hx hb dX0_refuses_15 (by decide) ?_
        refine lv_iand hx hb dX0_refuses_16 ?_
        refine lv_if_eq (tgt := 30) hx hb dX0_refuses_17 (by decide) (fun c4 => ?_) (fun c4 => ?_)
        · have hs := if_t c4 hs
          exact J1 S _ _ _ (lv_sub hl [0] rfl) hP hS hs
        · have hs := if_f c4 hs
          refine lv_aload_n hx hb dX0_refuses_20 rfl (lv_at hl 0 rfl) ?_
          refine lv_iconst (v := 3) hx hb dX0_refuses_21 (by decide) ?_
          obtain ⟨S2, h1, hs⟩ := lt_e hs
          refine pB_X0_raised hx hb hT hown hK hP hS (hT _ tF_X0_19) dX0_refuses_22 (v := 3) h1 (fun H locs hP hS => ?_)
          refine lv_aload_n hx hb dX0_refuses_25 rfl (lv_at hl 0 rfl) ?_
          refine lv_iload_n hx hb dX0_refuses_26 rfl (lv_at hl 2 rfl) ?_
          obtain ⟨S3, h2, hs⟩ := lt_e hs
          refine pB_X0_oddAddress hx hb hT hown hK hP hS (hT _ tF_X0_23) dX0_refuses_27 (v := x2) h2 (fun H locs hP hS => ?_)
          exact J1 S3 _ _ _ (lv_sub hl [0] rfl) hP hS hs
theorem kX0_refuses {p : Program} {l : Launch} {e : Env} {R : Room} {s : State} {m : MethodId} {args : Array Value} {below : List Frame} {meth : Method} {c : Code} {H : Heap} {locs : List Loc} {cells slots : Nat} {Q : State → Prop} {cc : ByteArray} {pc nL : Nat} {ls : Array Slot} {rest : List Value} {D : va_G} {ad : Nat → Nat} {cI cB : ClassId} {en : Nat → Nat} {S : St} {own : String} {index : Nat} {t1 : Nat} {x2 : Int32} {ro : Bool} {So : St} (C : CallFix p m c cc nL s args wG own) (hlk : Cond.methodLink own index yX0_refuses ∈ wG) (hR : rmX0_refuses.frames + 1 ≤ R.frames ∧ 8 + (3 + 11) + rmX0_refuses.locals ≤ R.locals) (hc : cells ≤ R.cells ∧ slots ≤ R.slots) (hK : KB D ad cI cB en s) (hP : va_P D vwCl (wB ad cI cB S) H) (hS : va_S (AX 10 ad s.heap.size) s.heap H locs) (hls : ls.size = nL) (hrest : (rest.map fun v => v.category).sum ≤ 8) (hd : decode cc pc = .ok (.invokevirtual index, 3)) (hs : fX0_refuses t1 x2 S = some (ro, So)) (k : ∀ (H : Heap) (locs : List Loc), va_P D vwCl (wB ad cI cB So) H → va_S (AX 10 ad s.heap.size) s.heap H locs → W p l e R s m args below meth c H locs cells slots Q (F0 m (pc + 3) ls (.int (zI ro) :: rest))) : W p l e R s m args below meth c H locs cells slots Q (F0 m pc ls (.int x2 :: .ref (en t1) :: .ref (ad 3) :: rest)) :=
  u_callV (n := 2) (mX0_refuses l D ad cI cB en S t1 x2 ro So hs) C uK_B (wg_V hlk tI_X0_refuses tS_X0_refuses tN_X0 tK_X0_refuses) rfl rfl rfl (by decide +kernel) hR rfl (va_recv hK.1 hP (ci := 0) (q0 := 3) rfl rfl) hK hP hS hls hrest hd hc rfl k
def fX0_push (t1 : Nat) (x2 : Int32) (S : St) : Option St :=
    (gd (t1 < 3) (bd (fX4_get 15 S) fun r1 S1 => (lt ((r1 - (szB t1)) : Int32) fun v1 => (bv (fX4_set 15 v1 S1) fun S2 => (bd (fX0_refuses t1 v1 S2) fun b1 S3 => (if (zI b1) = 0 then (bv (fX3_store v1 x2 (szB t1) S3) fun S4 => (some S4))
    else (some S3)))))))
abbrev rmX0_push : Room := { frames := 1, cells := 0, slots := 0, locals := 25 }
set_option maxRecDepth 100000 in
set_option maxHeartbeats 4000000 in
theorem mX0_push (l : Launch) (D : va_G) (ad : Nat → Nat) (cI cB : ClassId) (en : Nat → Nat) (S : St) (t1 : Nat) (x2 : Int32) (So : St) (hs : fX0_push t1 x2 S = some So) : uM l yX0_push (wg yX0_push cX0_push 4 none) rmX0_push (KB D ad cI cB en) D (wB ad cI cB) (AX 10 ad) [.ref (ad 3), .ref (en t1), .int x2] S (none, So) := by
  refine uM_start (by decide) rfl ?_
  intro p e s m below meth c hx hb hr hlocks hml hown hts hK hP
  have hT : ∀ w ∈ wG, w.before _ s = true := fun w h => hts w (List.mem_cons_of_mem _ h)
  have hS : va_S (AX 10 ad s.heap.size) s.heap s.heap [] := va_S.rf
  have hown : s.vm.findClass RX0 = some m.cls := hown
  have C : CallFix p m c cX0_push 4 s _ wG RX0 := ⟨hx, hb, hml, hown, hT⟩
  have hl := lv_entry ([.ref (ad 3), .ref (en t1), .int x2]) (n := 4) (Nat.le_of_ble_eq_true rfl)
  rw [lg_entry_eq]
  generalize (lg_sl ([.ref (ad 3), .ref (en t1), .int x2]) ++ List.replicate (4 - (lg_sl ([.ref (ad 3), .ref (en t1), .int x2])).length) Slot.unset).toArray = ls at hl ⊢
  have hl : lv_has ls 4 [(0, .ref (ad 3)), (1, .ref (en t1)), (2, .int x2)] := hl
  unfold fX0_push at hs
  obtain ⟨ht1, hs⟩ := gd_e hs
  refine lv_aload_n hx hb dX0_push_0 rfl (lv_at hl 0 rfl) ?_
  refine gB_X0_registers hx hb hT hown hK hP (hT _ tF_X0_15) dX0_push_1 ?_
  refine lv_bipush (v := 15) hx hb dX0_push_4 (by decide) ?_
  obtain ⟨r1, S1, h1, hs⟩ := bd_e hs
  refine kX4_get C tM_X0_67 ⟨Nat.le_of_ble_eq_true rfl, Nat.le_of_ble_eq_true rfl⟩ ⟨Nat.le_of_ble_eq_true rfl, Nat.le_of_ble_eq_true rfl⟩ hK hP hS hl.1 (rest := []) (Nat.le_of_ble_eq_true rfl) dX0_push_6 h1 (fun H locs hP hS => ?_)
  refine lv_aload_n hx hb dX0_push_9 rfl (lv_at hl 1 rfl) ?_
  refine gE_bytes hx hb hown hK hS ht1 (hT _ tF_X0_92) dX0_push_10 ?_
  refine lv_isub hx hb dX0_push_13 ?_
  obtain ⟨v1, h2, hs⟩ := lt_e hs
  refine u_top h2 ?_
  refine lv_istore_n (lv' := [(3, .int v1), (0, .ref (ad 3)), (1, .ref (en t1)), (2, .int x2)]) hx hb dX0_push_14 rfl hl (by decide) rfl (fun ls hl => ?_)
  refine lv_aload_n hx hb dX0_push_15 rfl (lv_at hl 1 rfl) ?_
  refine gB_X0_registers hx hb hT hown hK hP (hT _ tF_X0_15) dX0_push_16 ?_
  refine lv_bipush (v := 15) hx hb dX0_push_19 (by decide) ?_
  refine lv_iload_n hx hb dX0_push_21 rfl (lv_at hl 0 rfl) ?_
  obtain ⟨S2, h3, hs⟩ := bv_e hs
  refine kX4_set C tM_X0_85 ⟨Nat.le_of_ble_eq_true rfl, Nat.le_of_ble_eq_true rfl⟩ ⟨Nat.le_of_ble_eq_true rfl, Nat.le_of_ble_eq_true rfl⟩ hK hP hS hl.1 (rest := []) (Nat.le_of_ble_eq_true rfl) dX0_push_22 h3 (fun H locs hP hS => ?_)
  refine lv_aload_n hx hb dX0_push_25 rfl (lv_at hl 1 rfl) ?_
  refine lv_aload_n hx hb dX0_push_26 rfl (lv_at hl 2 rfl) ?_
  refine lv_iload_n hx hb dX0_push_27 rfl (lv_at hl 0 rfl) ?_
  obtain ⟨b1, S3, h4, hs⟩ := bd_e hs
  refine kX0_refuses C tM_X0_40 ⟨Nat.le_of_ble_eq_true rfl, Nat.le_of_ble_eq_true rfl⟩ ⟨Nat.le_of_ble_eq_true rfl, Nat.le_of_ble_eq_true rfl⟩ hK hP hS hl.1 (rest := []) (Nat.le_of_ble_eq_true rfl) dX0_push_28 h4 (fun H locs hP hS => ?_)
  refine lv_if_ne (tgt := 47) hx hb dX0_push_31 (by decide) (fun c1 => ?_) (fun c1 => ?_)
  · have hs := if_f c1 hs
    exact u_vret hx hb hr hlocks hP hS hs dX0_push_47
  · have hs := if_t c1 hs
    refine lv_aload_n hx hb dX0_push_34 rfl (lv_at hl 1 rfl) ?_
    refine gB_X0_memory hx hb hT hown hK hP (hT _ tF_X0_9) dX0_push_35 ?_
    refine lv_iload_n hx hb dX0_push_38 rfl (lv_at hl 0 rfl) ?_
    refine lv_iload_n hx hb dX0_push_39 rfl (lv_at hl 3 rfl) ?_
    refine lv_aload_n hx hb dX0_push_40 rfl (lv_at hl 2 rfl) ?_
    refine gE_bytes hx hb hown hK hS ht1 (hT _ tF_X0_92) dX0_push_41 ?_
    obtain ⟨S4, h5, hs⟩ := bv_e hs
    refine kX3_store C tM_X0_102 ⟨Nat.le_of_ble_eq_true rfl, Nat.le_of_ble_eq_true rfl⟩ ⟨Nat.le_of_ble_eq_true rfl, Nat.le_of_ble_eq_true rfl⟩ hK hP hS hl.1 (rest := []) (Nat.le_of_ble_eq_true rfl) dX0_push_44 h5 (fun H locs hP hS => ?_)
    exact u_vret hx hb hr hlocks hP hS hs dX0_push_47
theorem kX0_push {p : Program} {l : Launch} {e : Env} {R : Room} {s : State} {m : MethodId} {args : Array Value} {below : List Frame} {meth : Method} {c : Code} {H : Heap} {locs : List Loc} {cells slots : Nat} {Q : State → Prop} {cc : ByteArray} {pc nL : Nat} {ls : Array Slot} {rest : List Value} {D : va_G} {ad : Nat → Nat} {cI cB : ClassId} {en : Nat → Nat} {S : St} {own : String} {index : Nat} {t1 : Nat} {x2 : Int32} {So : St} (C : CallFix p m c cc nL s args wG own) (hlk : Cond.methodLink own index yX0_push ∈ wG) (hR : rmX0_push.frames + 1 ≤ R.frames ∧ 8 + (4 + 11) + rmX0_push.locals ≤ R.locals) (hc : cells ≤ R.cells ∧ slots ≤ R.slots) (hK : KB D ad cI cB en s) (hP : va_P D vwCl (wB ad cI cB S) H) (hS : va_S (AX 10 ad s.heap.size) s.heap H locs) (hls : ls.size = nL) (hrest : (rest.map fun v => v.category).sum ≤ 8) (hd : decode cc pc = .ok (.invokevirtual index, 3)) (hs : fX0_push t1 x2 S = some So) (k : ∀ (H : Heap) (locs : List Loc), va_P D vwCl (wB ad cI cB So) H → va_S (AX 10 ad s.heap.size) s.heap H locs → W p l e R s m args below meth c H locs cells slots Q (F0 m (pc + 3) ls (rest))) : W p l e R s m args below meth c H locs cells slots Q (F0 m pc ls (.int x2 :: .ref (en t1) :: .ref (ad 3) :: rest)) :=
  u_callV (n := 2) (mX0_push l D ad cI cB en S t1 x2 So hs) C uK_B (wg_V hlk tI_X0_push tS_X0_push tN_X0 tK_X0_push) rfl rfl rfl (by decide +kernel) hR rfl (va_recv hK.1 hP (ci := 0) (q0 := 3) rfl rfl) hK hP hS hls hrest hd hc rfl k
def fX0_nextWord  (S : St) : Option (Int32 × St) :=
    (bd (fX3_load (S.1 2) 2 S) fun r1 S1 => (lt (sI S1 2 ((S1.1 2) + 2)) fun S2 => (some (r1, S2))))
abbrev rmX0_nextWord : Room := { frames := 1, cells := 0, slots := 0, locals := 24 }
set_option maxRecDepth 100000 in
set_option maxHeartbeats 4000000 in
theorem mX0_nextWord (l : Launch) (D : va_G) (ad : Nat → Nat) (cI cB : ClassId) (en : Nat → Nat) (S : St)  (ro : Int32) (So : St) (hs : fX0_nextWord  S = some (ro, So)) : uM l yX0_nextWord (wg yX0_nextWord cX0_nextWord 2 (some .int)) rmX0_nextWord (KB D ad cI cB en) D (wB ad cI cB) (AX 10 ad) [.ref (ad 3)] S (some (.int ro), So) := by
  refine uM_start (by decide) rfl ?_
  intro p e s m below meth c hx hb hr hlocks hml hown hts hK hP
  have hT : ∀ w ∈ wG, w.before _ s = true := fun w h => hts w (List.mem_cons_of_mem _ h)
  have hS : va_S (AX 10 ad s.heap.size) s.heap s.heap [] := va_S.rf
  have hown : s.vm.findClass RX0 = some m.cls := hown
  have C : CallFix p m c cX0_nextWord 2 s _ wG RX0 := ⟨hx, hb, hml, hown, hT⟩
  have hl := lv_entry ([.ref (ad 3)]) (n := 2) (Nat.le_of_ble_eq_true rfl)
  rw [lg_entry_eq]
  generalize (lg_sl ([.ref (ad 3)]) ++ List.replicate (2 - (lg_sl ([.ref (ad 3)])).length) Slot.unset).toArray = ls at hl ⊢
  have hl : lv_has ls 2 [(0, .ref (ad 3))] := hl
  unfold fX0_nextWord at hs
  refine lv_aload_n hx hb dX0_nextWord_0 rfl (lv_at hl 0 rfl) ?_
  refine gB_X0_memory hx hb hT hown hK hP (hT _ tF_X0_9) dX0_nextWord_1 ?_
  refine lv_aload_n hx hb dX0_nextWord_4 rfl (lv_at hl 0 rfl) ?_
  refine gB_X0_registers hx hb hT hown hK hP (hT _ tF_X0_15) dX0_nextWord_5 ?_
  refine gB_X4_pc hx hb hT hown hK hP (hT _ tF_X0_35) dX0_nextWord_8 ?_
  refine lv_iconst (v := 2) hx hb dX0_nextWord_11 (by decide) ?_
  obtain ⟨r1, S1, h1, hs⟩ := bd_e hs
  refine kX3_load C tM_X0_48 ⟨Nat.le_of_ble_eq_true rfl, Nat.le_of_ble_eq_true rfl⟩ ⟨Nat.le_of_ble_eq_true rfl, Nat.le_of_ble_eq_true rfl⟩ hK hP hS hl.1 (rest := []) (Nat.le_of_ble_eq_true rfl) dX0_nextWord_12 h1 (fun H locs hP hS => ?_)
  refine lv_istore_n (lv' := [(1, .int r1), (0, .ref (ad 3))]) hx hb dX0_nextWord_15 rfl hl (by decide) rfl (fun ls hl => ?_)
  refine lv_aload_n hx hb dX0_nextWord_16 rfl (lv_at hl 1 rfl) ?_
  refine gB_X0_registers hx hb hT hown hK hP (hT _ tF_X0_15) dX0_nextWord_17 ?_
  refine lv_dup hx hb dX0_nextWord_20 rfl ?_
  refine gB_X4_pc hx hb hT hown hK hP (hT _ tF_X0_35) dX0_nextWord_21 ?_
  refine lv_iconst (v := 2) hx hb dX0_nextWord_24 (by decide) ?_
  refine lv_iadd hx hb dX0_nextWord_25 ?_
  obtain ⟨S2, h2, hs⟩ := lt_e hs
  refine pB_X4_pc hx hb hT hown hK hP hS (hT _ tF_X0_35) dX0_nextWord_26 (v := ((S1.1 2) + 2)) h2 (fun H locs hP hS => ?_)
  refine lv_iload_n hx hb dX0_nextWord_29 rfl (lv_at hl 0 rfl) ?_
  exact u_iret hx hb hr hlocks hP hS hs dX0_nextWord_30
theorem kX0_nextWord {p : Program} {l : Launch} {e : Env} {R : Room} {s : State} {m : MethodId} {args : Array Value} {below : List Frame} {meth : Method} {c : Code} {H : Heap} {locs : List Loc} {cells slots : Nat} {Q : State → Prop} {cc : ByteArray} {pc nL : Nat} {ls : Array Slot} {rest : List Value} {D : va_G} {ad : Nat → Nat} {cI cB : ClassId} {en : Nat → Nat} {S : St} {own : String} {index : Nat}  {ro : Int32} {So : St} (C : CallFix p m c cc nL s args wG own) (hlk : Cond.methodLink own index yX0_nextWord ∈ wG) (hR : rmX0_nextWord.frames + 1 ≤ R.frames ∧ 8 + (2 + 11) + rmX0_nextWord.locals ≤ R.locals) (hc : cells ≤ R.cells ∧ slots ≤ R.slots) (hK : KB D ad cI cB en s) (hP : va_P D vwCl (wB ad cI cB S) H) (hS : va_S (AX 10 ad s.heap.size) s.heap H locs) (hls : ls.size = nL) (hrest : (rest.map fun v => v.category).sum ≤ 8) (hd : decode cc pc = .ok (.invokevirtual index, 3)) (hs : fX0_nextWord  S = some (ro, So)) (k : ∀ (H : Heap) (locs : List Loc), va_P D vwCl (wB ad cI cB So) H → va_S (AX 10 ad s.heap.size) s.heap H locs → W p l e R s m args below meth c H locs cells slots Q (F0 m (pc + 3) ls (.int ro :: rest))) : W p l e R s m args below meth c H locs cells slots Q (F0 m pc ls (.ref (ad 3) :: rest)) :=
  u_callV (n := 0) (mX0_nextWord l D ad cI cB en S  ro So hs) C uK_B (wg_V hlk tI_X0_nextWord tS_X0_nextWord tN_X0 tK_X0_nextWord) rfl rfl rfl (by decide +kernel) hR rfl (va_recv hK.1 hP (ci := 0) (q0 := 3) rfl rfl) hK hP hS hls hrest hd hc rfl k
def fX0_firstWord  (S : St) : Option (Int32 × St) :=
    (bd (fX0_refuses 1 (S.1 2) S) fun b1 S1 => (if (zI b1) = 0 then (bd (fX0_nextWord S1) fun r1 S2 => (some (r1, S2)))
    else (some (0, S1))))
abbrev rmX0_firstWord : Room := { frames := 2, cells := 0, slots := 0, locals := 45 }
set_option maxRecDepth 100000 in
set_option maxHeartbeats 4000000 in
theorem mX0_firstWord (l : Launch) (D : va_G) (ad : Nat → Nat) (cI cB : ClassId) (en : Nat → Nat) (S : St)  (ro : Int32) (So : St) (hs : fX0_firstWord  S = some (ro, So)) : uM l yX0_firstWord (wg yX0_firstWord cX0_firstWord 1 (some .int)) rmX0_firstWord (KB D ad cI cB en) D (wB ad cI cB) (AX 10 ad) [.ref (ad 3)] S (some (.int ro), So) := by
  refine uM_start (by decide) rfl ?_
  intro p e s m below meth c hx hb hr hlocks hml hown hts hK hP
  have hT : ∀ w ∈ wG, w.before _ s = true := fun w h => hts w (List.mem_cons_of_mem _ h)
  have hS : va_S (AX 10 ad s.heap.size) s.heap s.heap [] := va_S.rf
  have hown : s.vm.findClass RX0 = some m.cls := hown
  have C : CallFix p m c cX0_firstWord 1 s _ wG RX0 := ⟨hx, hb, hml, hown, hT⟩
  have hl := lv_entry ([.ref (ad 3)]) (n := 1) (Nat.le_of_ble_eq_true rfl)
  rw [lg_entry_eq]
  generalize (lg_sl ([.ref (ad 3)]) ++ List.replicate (1 - (lg_sl ([.ref (ad 3)])).length) Slot.unset).toArray = ls at hl ⊢
  have hl : lv_has ls 1 [(0, .ref (ad 3))] := hl
  unfold fX0_firstWord at hs
  refine lv_aload_n hx hb dX0_firstWord_0 rfl (lv_at hl 0 rfl) ?_
  refine gS_WORD hx hb hown hK hS (hT _ tF_X0_32) dX0_firstWord_1 ?_
  refine lv_aload_n hx hb dX0_firstWord_4 rfl (lv_at hl 0 rfl) ?_
  refine gB_X0_registers hx hb hT hown hK hP (hT _ tF_X0_15) dX0_firstWord_5 ?_
  refine gB_X4_pc hx hb hT hown hK hP (hT _ tF_X0_35) dX0_firstWord_8 ?_
  obtain ⟨b1, S1, h1, hs⟩ := bd_e hs
  refine kX0_refuses C tM_X0_40 ⟨Nat.le_of_ble_eq_true rfl, Nat.le_of_ble_eq_true rfl⟩ ⟨Nat.le_of_ble_eq_true rfl, Nat.le_of_ble_eq_true rfl⟩ hK hP hS hl.1 (rest := []) (Nat.le_of_ble_eq_true rfl) dX0_firstWord_11 h1 (fun H locs hP hS => ?_)
  refine lv_if_eq (tgt := 21) hx hb dX0_firstWord_14 (by decide) (fun c1 => ?_) (fun c1 => ?_)
  · have hs := if_t c1 hs
    refine lv_aload_n hx hb dX0_firstWord_21 rfl (lv_at hl 0 rfl) ?_
    obtain ⟨r1, S2, h2, hs⟩ := bd_e hs
    refine kX0_nextWord C tM_X0_44 ⟨Nat.le_of_ble_eq_true rfl, Nat.le_of_ble_eq_true rfl⟩ ⟨Nat.le_of_ble_eq_true rfl, Nat.le_of_ble_eq_true rfl⟩ hK hP hS hl.1 (rest := []) (Nat.le_of_ble_eq_true rfl) dX0_firstWord_22 h2 (fun H locs hP hS => ?_)
    exact u_iret hx hb hr hlocks hP hS hs dX0_firstWord_25
  · have hs := if_f c1 hs
    refine lv_iconst (v := 0) hx hb dX0_firstWord_17 (by decide) ?_
    refine lv_goto (tgt := 25) hx hb dX0_firstWord_18 (by decide) ?_
    exact u_iret hx hb hr hlocks hP hS hs dX0_firstWord_25
theorem kX0_firstWord {p : Program} {l : Launch} {e : Env} {R : Room} {s : State} {m : MethodId} {args : Array Value} {below : List Frame} {meth : Method} {c : Code} {H : Heap} {locs : List Loc} {cells slots : Nat} {Q : State → Prop} {cc : ByteArray} {pc nL : Nat} {ls : Array Slot} {rest : List Value} {D : va_G} {ad : Nat → Nat} {cI cB : ClassId} {en : Nat → Nat} {S : St} {own : String} {index : Nat}  {ro : Int32} {So : St} (C : CallFix p m c cc nL s args wG own) (hlk : Cond.methodLink own index yX0_firstWord ∈ wG) (hR : rmX0_firstWord.frames + 1 ≤ R.frames ∧ 8 + (1 + 11) + rmX0_firstWord.locals ≤ R.locals) (hc : cells ≤ R.cells ∧ slots ≤ R.slots) (hK : KB D ad cI cB en s) (hP : va_P D vwCl (wB ad cI cB S) H) (hS : va_S (AX 10 ad s.heap.size) s.heap H locs) (hls : ls.size = nL) (hrest : (rest.map fun v => v.category).sum ≤ 8) (hd : decode cc pc = .ok (.invokevirtual index, 3)) (hs : fX0_firstWord  S = some (ro, So)) (k : ∀ (H : Heap) (locs : List Loc), va_P D vwCl (wB ad cI cB So) H → va_S (AX 10 ad s.heap.size) s.heap H locs → W p l e R s m args below meth c H locs cells slots Q (F0 m (pc + 3) ls (.int ro :: rest))) : W p l e R s m args below meth c H locs cells slots Q (F0 m pc ls (.ref (ad 3) :: rest)) :=
  u_callV (n := 0) (mX0_firstWord l D ad cI cB en S  ro So hs) C uK_B (wg_V hlk tI_X0_firstWord tS_X0_firstWord tN_X0 tK_X0_firstWord) rfl rfl rfl (by decide +kernel) hR rfl (va_recv hK.1 hP (ci := 0) (q0 := 3) rfl rfl) hK hP hS hls hrest hd hc rfl k
def fX0_storeAt (t1 : Nat) (x2 : Int32) (x3 : Int32) (S : St) : Option St :=
    (gd (t1 < 3) (bd (fX0_refuses t1 x2 S) fun b1 S1 => (if (zI b1) = 0 then (bv (fX3_store x2 x3 (szB t1) S1) fun S2 => (some S2))
    else (some S1))))
abbrev rmX0_storeAt : Room := { frames := 1, cells := 0, slots := 0, locals := 25 }
set_option maxRecDepth 100000 in
set_option maxHeartbeats 4000000 in
theorem mX0_storeAt (l : Launch) (D : va_G) (ad : Nat → Nat) (cI cB : ClassId) (en : Nat → Nat) (S : St) (t1 : Nat) (x2 : Int32) (x3 : Int32) (So : St) (hs : fX0_storeAt t1 x2 x3 S = some So) : uM l yX0_storeAt (wg yX0_storeAt cX0_storeAt 4 none) rmX0_storeAt (KB D ad cI cB en) D (wB ad cI cB) (AX 10 ad) [.ref (ad 3), .ref (en t1), .int x2, .int x3] S (none, So) := by
  refine uM_start (by decide) rfl ?_
  intro p e s m below meth c hx hb hr hlocks hml hown hts hK hP
  have hT : ∀ w ∈ wG, w.before _ s = true := fun w h => hts w (List.mem_cons_of_mem _ h)
  have hS : va_S (AX 10 ad s.heap.size) s.heap s.heap [] := va_S.rf
  have hown : s.vm.findClass RX0 = some m.cls := hown
  have C : CallFix p m c cX0_storeAt 4 s _ wG RX0 := ⟨hx, hb, hml, hown, hT⟩
  have hl := lv_entry ([.ref (ad 3), .ref (en t1), .int x2, .int x3]) (n := 4) (Nat.le_of_ble_eq_true rfl)
  rw [lg_entry_eq]
  generalize (lg_sl ([.ref (ad 3), .ref (en t1), .int x2, .int x3]) ++ List.replicate (4 - (lg_sl ([.ref (ad 3), .ref (en t1), .int x2, .int x3])).length) Slot.unset).toArray = ls at hl ⊢
  have hl : lv_has ls 4 [(0, .ref (ad 3)), (1, .ref (en t1)), (2, .int x2), (3, .int x3)] := hl
  unfold fX0_storeAt at hs
  obtain ⟨ht1, hs⟩ := gd_e hs
  refine lv_aload_n hx hb dX0_storeAt_0 rfl (lv_at hl 0 rfl) ?_
  refine lv_aload_n hx hb dX0_storeAt_1 rfl (lv_at hl 1 rfl) ?_
  refine lv_iload_n hx hb dX0_storeAt_2 rfl (lv_at hl 2 rfl) ?_
  obtain ⟨b1, S1, h1, hs⟩ := bd_e hs
  refine kX0_refuses C tM_X0_40 ⟨Nat.le_of_ble_eq_true rfl, Nat.le_of_ble_eq_true rfl⟩ ⟨Nat.le_of_ble_eq_true rfl, Nat.le_of_ble_eq_true rfl⟩ hK hP hS hl.1 (rest := []) (Nat.le_of_ble_eq_true rfl) dX0_storeAt_3 h1 (fun H locs hP hS => ?_)
  refine lv_if_ne (tgt := 22) hx hb dX0_storeAt_6 (by decide) (fun c1 => ?_) (fun c1 => ?_)
  · have hs := if_f c1 hs
    exact u_vret hx hb hr hlocks hP hS hs dX0_storeAt_22
  · have hs := if_t c1 hs
    refine lv_aload_n hx hb dX0_storeAt_9 rfl (lv_at hl 0 rfl) ?_
    refine gB_X0_memory hx hb hT hown hK hP (hT _ tF_X0_9) dX0_storeAt_10 ?_
    refine lv_iload_n hx hb dX0_storeAt_13 rfl (lv_at hl 2 rfl) ?_
    refine lv_iload_n hx hb dX0_storeAt_14 rfl (lv_at hl 3 rfl) ?_
    refine lv_aload_n hx hb dX0_storeAt_15 rfl (lv_at hl 1 rfl) ?_
    refine gE_bytes hx hb hown hK hS ht1 (hT _ tF_X0_92) dX0_storeAt_16 ?_
    obtain ⟨S2, h2, hs⟩ := bv_e hs
    refine kX3_store C tM_X0_102 ⟨Nat.le_of_ble_eq_true rfl, Nat.le_of_ble_eq_true rfl⟩ ⟨Nat.le_of_ble_eq_true rfl, Nat.le_of_ble_eq_true rfl⟩ hK hP hS hl.1 (rest := []) (Nat.le_of_ble_eq_true rfl) dX0_storeAt_19 h2 (fun H locs hP hS => ?_)
    exact u_vret hx hb hr hlocks hP hS hs dX0_storeAt_22
theorem kX0_storeAt {p : Program} {l : Launch} {e : Env} {R : Room} {s : State} {m : MethodId} {args : Array Value} {below : List Frame} {meth : Method} {c : Code} {H : Heap} {locs : List Loc} {cells slots : Nat} {Q : State → Prop} {cc : ByteArray} {pc nL : Nat} {ls : Array Slot} {rest : List Value} {D : va_G} {ad : Nat → Nat} {cI cB : ClassId} {en : Nat → Nat} {S : St} {own : String} {index : Nat} {t1 : Nat} {x2 : Int32} {x3 : Int32} {So : St} (C : CallFix p m c cc nL s args wG own) (hlk : Cond.methodLink own index yX0_storeAt ∈ wG) (hR : rmX0_storeAt.frames + 1 ≤ R.frames ∧ 8 + (4 + 11) + rmX0_storeAt.locals ≤ R.locals) (hc : cells ≤ R.cells ∧ slots ≤ R.slots) (hK : KB D ad cI cB en s) (hP : va_P D vwCl (wB ad cI cB S) H) (hS : va_S (AX 10 ad s.heap.size) s.heap H locs) (hls : ls.size = nL) (hrest : (rest.map fun v => v.category).sum ≤ 8) (hd : decode cc pc = .ok (.invokevirtual index, 3)) (hs : fX0_storeAt t1 x2 x3 S = some So) (k : ∀ (H : Heap) (locs : List Loc), va_P D vwCl (wB ad cI cB So) H → va_S (AX 10 ad s.heap.size) s.heap H locs → W p l e R s m args below meth c H locs cells slots Q (F0 m (pc + 3) ls (rest))) : W p l e R s m args below meth c H locs cells slots Q (F0 m pc ls (.int x3 :: .int x2 :: .ref (en t1) :: .ref (ad 3) :: rest)) :=
  u_callV (n := 3) (mX0_storeAt l D ad cI cB en S t1 x2 x3 So hs) C uK_B (wg_V hlk tI_X0_storeAt tS_X0_storeAt tN_X0 tK_X0_storeAt) rfl rfl rfl (by decide +kernel) hR rfl (va_recv hK.1 hP (ci := 0) (q0 := 3) rfl rfl) hK hP hS hls hrest hd hc rfl k
def fX0_loadAt (t1 : Nat) (x2 : Int32) (S : St) : Option (Int32 × St) :=
    (gd (t1 < 3) (bd (fX0_refuses t1 x2 S) fun b1 S1 => (if (zI b1) = 0 then (bd (fX3_load x2 (szB t1) S1) fun r1 S2 => (some (r1, S2)))
    else (some (0, S1)))))
abbrev rmX0_loadAt : Room := { frames := 1, cells := 0, slots := 0, locals := 24 }
set_option maxRecDepth 100000 in
set_option maxHeartbeats 4000000 in
theorem mX0_loadAt (l : Launch) (D : va_G) (ad : Nat → Nat) (cI cB : ClassId) (en : Nat → Nat) (S : St) (t1 : Nat) (x2 : Int32) (ro : Int32) (So : St) (hs : fX0_loadAt t1 x2 S = some (ro, So)) : uM l yX0_loadAt (wg yX0_loadAt cX0_loadAt 3 (some .int)) rmX0_loadAt (KB D ad cI cB en) D (wB ad cI cB) (AX 10 ad) [.ref (ad 3), .ref (en t1), .int x2] S (some (.int ro), So) := by
  refine uM_start (by decide) rfl ?_
  intro p e s m below meth c hx hb hr hlocks hml hown hts hK hP
  have hT : ∀ w ∈ wG, w.before _ s = true := fun w h => hts w (List.mem_cons_of_mem _ h)
  have hS : va_S (AX 10 ad s.heap.size) s.heap s.heap [] := va_S.rf
  have hown : s.vm.findClass RX0 = some m.cls := hown
  have C : CallFix p m c cX0_loadAt 3 s _ wG RX0 := ⟨hx, hb, hml, hown, hT⟩
  have hl := lv_entry ([.ref (ad 3), .ref (en t1), .int x2]) (n := 3) (Nat.le_of_ble_eq_true rfl)
  rw [lg_entry_eq]
  generalize (lg_sl ([.ref (ad 3), .ref (en t1), .int x2]) ++ List.replicate (3 - (lg_sl ([.ref (ad 3), .ref (en t1), .int x2])).length) Slot.unset).toArray = ls at hl ⊢
  have hl : lv_has ls 3 [(0, .ref (ad 3)), (1, .ref (en t1)), (2, .int x2)] := hl
  unfold fX0_loadAt at hs
  obtain ⟨ht1, hs⟩ := gd_e hs
  refine lv_aload_n hx hb dX0_loadAt_0 rfl (lv_at hl 0 rfl) ?_
  refine lv_aload_n hx hb dX0_loadAt_1 rfl (lv_at hl 1 rfl) ?_
  refine lv_iload_n hx hb dX0_loadAt_2 rfl (lv_at hl 2 rfl) ?_
  obtain ⟨b1, S1, h1, hs⟩ := bd_e hs
  refine kX0_refuses C tM_X0_40 ⟨Nat.le_of_ble_eq_true rfl, Nat.le_of_ble_eq_true rfl⟩ ⟨Nat.le_of_ble_eq_true rfl, Nat.le_of_ble_eq_true rfl⟩ hK hP hS hl.1 (rest := []) (Nat.le_of_ble_eq_true rfl) dX0_loadAt_3 h1 (fun H locs hP hS => ?_)
  refine lv_if_eq (tgt := 13) hx hb dX0_loadAt_6 (by decide) (fun c1 => ?_) (fun c1 => ?_)
  · have hs := if_t c1 hs
    refine lv_aload_n hx hb dX0_loadAt_13 rfl (lv_at hl 0 rfl) ?_
    refine gB_X0_memory hx hb hT hown hK hP (hT _ tF_X0_9) dX0_loadAt_14 ?_
    refine lv_iload_n hx hb dX0_loadAt_17 rfl (lv_at hl 2 rfl) ?_
    refine lv_aload_n hx hb dX0_loadAt_18 rfl (lv_at hl 1 rfl) ?_
    refine gE_bytes hx hb hown hK hS ht1 (hT _ tF_X0_92) dX0_loadAt_19 ?_
    obtain ⟨r1, S2, h2, hs⟩ := bd_e hs
    refine kX3_load C tM_X0_48 ⟨Nat.le_of_ble_eq_true rfl, Nat.le_of_ble_eq_true rfl⟩ ⟨Nat.le_of_ble_eq_true rfl, Nat.le_of_ble_eq_true rfl⟩ hK hP hS hl.1 (rest := []) (Nat.le_of_ble_eq_true rfl) dX0_loadAt_22 h2 (fun H locs hP hS => ?_)
    exact u_iret hx hb hr hlocks hP hS hs dX0_loadAt_25
  · have hs := if_f c1 hs
    refine lv_iconst (v := 0) hx hb dX0_loadAt_9 (by decide) ?_
    refine lv_goto (tgt := 25) hx hb dX0_loadAt_10 (by decide) ?_
    exact u_iret hx hb hr hlocks hP hS hs dX0_loadAt_25
theorem kX0_loadAt {p : Program} {l : Launch} {e : Env} {R : Room} {s : State} {m : MethodId} {args : Array Value} {below : List Frame} {meth : Method} {c : Code} {H : Heap} {locs : List Loc} {cells slots : Nat} {Q : State → Prop} {cc : ByteArray} {pc nL : Nat} {ls : Array Slot} {rest : List Value} {D : va_G} {ad : Nat → Nat} {cI cB : ClassId} {en : Nat → Nat} {S : St} {own : String} {index : Nat} {t1 : Nat} {x2 : Int32} {ro : Int32} {So : St} (C : CallFix p m c cc nL s args wG own) (hlk : Cond.methodLink own index yX0_loadAt ∈ wG) (hR : rmX0_loadAt.frames + 1 ≤ R.frames ∧ 8 + (3 + 11) + rmX0_loadAt.locals ≤ R.locals) (hc : cells ≤ R.cells ∧ slots ≤ R.slots) (hK : KB D ad cI cB en s) (hP : va_P D vwCl (wB ad cI cB S) H) (hS : va_S (AX 10 ad s.heap.size) s.heap H locs) (hls : ls.size = nL) (hrest : (rest.map fun v => v.category).sum ≤ 8) (hd : decode cc pc = .ok (.invokevirtual index, 3)) (hs : fX0_loadAt t1 x2 S = some (ro, So)) (k : ∀ (H : Heap) (locs : List Loc), va_P D vwCl (wB ad cI cB So) H → va_S (AX 10 ad s.heap.size) s.heap H locs → W p l e R s m args below meth c H locs cells slots Q (F0 m (pc + 3) ls (.int ro :: rest))) : W p l e R s m args below meth c H locs cells slots Q (F0 m pc ls (.int x2 :: .ref (en t1) :: .ref (ad 3) :: rest)) :=
  u_callV (n := 2) (mX0_loadAt l D ad cI cB en S t1 x2 ro So hs) C uK_B (wg_V hlk tI_X0_loadAt tS_X0_loadAt tN_X0 tK_X0_loadAt) rfl rfl rfl (by decide +kernel) hR rfl (va_recv hK.1 hP (ci := 0) (q0 := 3) rfl rfl) hK hP hS hls hrest hd hc rfl k
def fX0_kind (x0 : Int32) (S : St) : Option (Int32 × St) :=
    (lt (((ush x0 3) &&& 7) : Int32) fun v1 => (if 7 ≤ v1 then (some ((7 + (x0 &&& 7)), S))
    else (some (v1, S))))
abbrev rmX0_kind : Room := { frames := 0, cells := 0, slots := 0, locals := 0 }
set_option maxRecDepth 100000 in
set_option maxHeartbeats 4000000 in
theorem mX0_kind (l : Launch) (D : va_G) (ad : Nat → Nat) (cI cB : ClassId) (en : Nat → Nat) (S : St) (x0 : Int32) (ro : Int32) (So : St) (hs : fX0_kind x0 S = some (ro, So)) : uM l yX0_kind (wg yX0_kind cX0_kind 2 (some .int)) rmX0_kind (KB D ad cI cB en) D (wB ad cI cB) (AX 10 ad) [.int x0] S (some (.int ro), So) := by
  refine uM_start (by decide) rfl ?_
  intro p e s m below meth c hx hb hr hlocks hml hown hts hK hP
  have hT : ∀ w ∈ wG, w.before _ s = true := fun w h => hts w (List.mem_cons_of_mem _ h)
  have hS : va_S (AX 10 ad s.heap.size) s.heap s.heap [] := va_S.rf
  have hown : s.vm.findClass RX0 = some m.cls := hown
  have C : CallFix p m c cX0_kind 2 s _ wG RX0 := ⟨hx, hb, hml, hown, hT⟩
  have hl := lv_entry ([.int x0]) (n := 2) (Nat.le_of_ble_eq_true rfl)
  rw [lg_entry_eq]
  generalize (lg_sl ([.int x0]) ++ List.replicate (2 - (lg_sl ([.int x0])).length) Slot.unset).toArray = ls at hl ⊢
  have hl : lv_has ls 2 [(0, .int x0)] := hl
  unfold fX0_kind at hs
  refine lv_iload_n hx hb dX0_kind_0 rfl (lv_at hl 0 rfl) ?_
  refine lv_iconst (v := 3) hx hb dX0_kind_1 (by decide) ?_
  refine lv_iushr (v := (ush x0 3)) hx hb dX0_kind_2 rfl ?_
  refine lv_bipush (v := 7) hx hb dX0_kind_3 (by decide) ?_
  refine lv_iand hx hb dX0_kind_5 ?_
  obtain ⟨v1, h1, hs⟩ := lt_e hs
  refine u_top h1 ?_
  refine lv_istore_n (lv' := [(1, .int v1), (0, .int x0)]) hx hb dX0_kind_6 rfl hl (by decide) rfl (fun ls hl => ?_)
  refine lv_iload_n hx hb dX0_kind_7 rfl (lv_at hl 0 rfl) ?_
  refine lv_bipush (v := 7) hx hb dX0_kind_8 (by decide) ?_
  refine lv_icmp_ge (tgt := 17) hx hb dX0_kind_10 (by decide) (fun c1 => ?_) (fun c1 => ?_)
  · have hs := if_t c1 hs
    refine lv_bipush (v := 7) hx hb dX0_kind_17 (by decide) ?_
    refine lv_iload_n hx hb dX0_kind_19 rfl (lv_at hl 1 rfl) ?_
    refine lv_bipush (v := 7) hx hb dX0_kind_20 (by decide) ?_
    refine lv_iand hx hb dX0_kind_22 ?_
    refine lv_iadd hx hb dX0_kind_23 ?_
    exact u_iret hx hb hr hlocks hP hS hs dX0_kind_24
  · have hs := if_f c1 hs
    refine lv_iload_n hx hb dX0_kind_13 rfl (lv_at hl 0 rfl) ?_
    refine lv_goto (tgt := 24) hx hb dX0_kind_14 (by decide) ?_
    exact u_iret hx hb hr hlocks hP hS hs dX0_kind_24
theorem kX0_kind {p : Program} {l : Launch} {e : Env} {R : Room} {s : State} {m : MethodId} {args : Array Value} {below : List Frame} {meth : Method} {c : Code} {H : Heap} {locs : List Loc} {cells slots : Nat} {Q : State → Prop} {cc : ByteArray} {pc nL : Nat} {ls : Array Slot} {rest : List Value} {D : va_G} {ad : Nat → Nat} {cI cB : ClassId} {en : Nat → Nat} {S : St} {own : String} {index : Nat} {x0 : Int32} {ro : Int32} {So : St} (C : CallFix p m c cc nL s args wG own) (hlk : Cond.methodLink own index yX0_kind ∈ wG) (hR : rmX0_kind.frames + 1 ≤ R.frames ∧ 8 + (2 + 11) + rmX0_kind.locals ≤ R.locals) (hc : cells ≤ R.cells ∧ slots ≤ R.slots) (hK : KB D ad cI cB en s) (hP : va_P D vwCl (wB ad cI cB S) H) (hS : va_S (AX 10 ad s.heap.size) s.heap H locs) (hls : ls.size = nL) (hrest : (rest.map fun v => v.category).sum ≤ 8) (hd : decode cc pc = .ok (.invokestatic index, 3)) (hs : fX0_kind x0 S = some (ro, So)) (k : ∀ (H : Heap) (locs : List Loc), va_P D vwCl (wB ad cI cB So) H → va_S (AX 10 ad s.heap.size) s.heap H locs → W p l e R s m args below meth c H locs cells slots Q (F0 m (pc + 3) ls (.int ro :: rest))) : W p l e R s m args below meth c H locs cells slots Q (F0 m pc ls (.int x0 :: rest)) :=
  u_callS (n := 1) (mX0_kind l D ad cI cB en S x0 ro So hs) C uK_B (wg_S hlk tI_X0_kind tN_X0 tK_X0_kind) rfl rfl rfl (by decide +kernel) hR rfl hK hP hS hls hrest hd hc rfl k
def fX0_raise (x1 : Int32) (S : St) : Option St :=
    (if (S.1 6) = 0 then (lt (sI S 6 x1) fun S1 => (some S1))
    else (some S))
abbrev rmX0_raise : Room := { frames := 0, cells := 0, slots := 0, locals := 0 }
set_option maxRecDepth 100000 in
set_option maxHeartbeats 4000000 in
theorem mX0_raise (l : Launch) (D : va_G) (ad : Nat → Nat) (cI cB : ClassId) (en : Nat → Nat) (S : St) (x1 : Int32) (So : St) (hs : fX0_raise x1 S = some So) : uM l yX0_raise (wg yX0_raise cX0_raise 2 none) rmX0_raise (KB D ad cI cB en) D (wB ad cI cB) (AX 10 ad) [.ref (ad 3), .int x1] S (none, So) := by
  refine uM_start (by decide) rfl ?_
  intro p e s m below meth c hx hb hr hlocks hml hown hts hK hP
  have hT : ∀ w ∈ wG, w.before _ s = true := fun w h => hts w (List.mem_cons_of_mem _ h)
  have hS : va_S (AX 10 ad s.heap.size) s.heap s.heap [] := va_S.rf
  have hown : s.vm.findClass RX0 = some m.cls := hown
  have C : CallFix p m c cX0_raise 2 s _ wG RX0 := ⟨hx, hb, hml, hown, hT⟩
  have hl := lv_entry ([.ref (ad 3), .int x1]) (n := 2) (Nat.le_of_ble_eq_true rfl)
  rw [lg_entry_eq]
  generalize (lg_sl ([.ref (ad 3), .int x1]) ++ List.replicate (2 - (lg_sl ([.ref (ad 3), .int x1])).length) Slot.unset).toArray = ls at hl ⊢
  have hl : lv_has ls 2 [(0, .ref (ad 3)), (1, .int x1)] := hl
  unfold fX0_raise at hs
  refine lv_aload_n hx hb dX0_raise_0 rfl (lv_at hl 0 rfl) ?_
  refine gB_X0_raised hx hb hT hown hK hP (hT _ tF_X0_19) dX0_raise_1 ?_
  refine lv_if_ne (tgt := 12) hx hb dX0_raise_4 (by decide) (fun c1 => ?_) (fun c1 => ?_)
  · have hs := if_f c1 hs
    exact u_vret hx hb hr hlocks hP hS hs dX0_raise_12
  · have hs := if_t c1 hs
    refine lv_aload_n hx hb dX0_raise_7 rfl (lv_at hl 0 rfl) ?_
    refine lv_iload_n hx hb dX0_raise_8 rfl (lv_at hl 1 rfl) ?_
    obtain ⟨S1, h1, hs⟩ := lt_e hs
    refine pB_X0_raised hx hb hT hown hK hP hS (hT _ tF_X0_19) dX0_raise_9 (v := x1) h1 (fun H locs hP hS => ?_)
    exact u_vret hx hb hr hlocks hP hS hs dX0_raise_12
theorem kX0_raise {p : Program} {l : Launch} {e : Env} {R : Room} {s : State} {m : MethodId} {args : Array Value} {below : List Frame} {meth : Method} {c : Code} {H : Heap} {locs : List Loc} {cells slots : Nat} {Q : State → Prop} {cc : ByteArray} {pc nL : Nat} {ls : Array Slot} {rest : List Value} {D : va_G} {ad : Nat → Nat} {cI cB : ClassId} {en : Nat → Nat} {S : St} {own : String} {index : Nat} {x1 : Int32} {So : St} (C : CallFix p m c cc nL s args wG own) (hlk : Cond.methodLink own index yX0_raise ∈ wG) (hR : rmX0_raise.frames + 1 ≤ R.frames ∧ 8 + (2 + 11) + rmX0_raise.locals ≤ R.locals) (hc : cells ≤ R.cells ∧ slots ≤ R.slots) (hK : KB D ad cI cB en s) (hP : va_P D vwCl (wB ad cI cB S) H) (hS : va_S (AX 10 ad s.heap.size) s.heap H locs) (hls : ls.size = nL) (hrest : (rest.map fun v => v.category).sum ≤ 8) (hd : decode cc pc = .ok (.invokevirtual index, 3)) (hs : fX0_raise x1 S = some So) (k : ∀ (H : Heap) (locs : List Loc), va_P D vwCl (wB ad cI cB So) H → va_S (AX 10 ad s.heap.size) s.heap H locs → W p l e R s m args below meth c H locs cells slots Q (F0 m (pc + 3) ls (rest))) : W p l e R s m args below meth c H locs cells slots Q (F0 m pc ls (.int x1 :: .ref (ad 3) :: rest)) :=
  u_callV (n := 1) (mX0_raise l D ad cI cB en S x1 So hs) C uK_B (wg_V hlk tI_X0_raise tS_X0_raise tN_X0 tK_X0_raise) rfl rfl rfl (by decide +kernel) hR rfl (va_recv hK.1 hP (ci := 0) (q0 := 3) rfl rfl) hK hP hS hls hrest hd hc rfl k
def fX0_inRegister (x0 : Int32) (S : St) : Option (Int64 × St) :=
    (some (((-1 : Int64) - (x0.toInt64)), S))
abbrev rmX0_inRegister : Room := { frames := 0, cells := 0, slots := 0, locals := 0 }
set_option maxRecDepth 100000 in
set_option maxHeartbeats 4000000 in
theorem mX0_inRegister (l : Launch) (D : va_G) (ad : Nat → Nat) (cI cB : ClassId) (en : Nat → Nat) (S : St) (x0 : Int32) (ro : Int64) (So : St) (hs : fX0_inRegister x0 S = some (ro, So)) : uM l yX0_inRegister (wg yX0_inRegister cX0_inRegister 1 (some .long)) rmX0_inRegister (KB D ad cI cB en) D (wB ad cI cB) (AX 10 ad) [.int x0] S (some (.long ro), So) := by
  refine uM_start (by decide) rfl ?_
  intro p e s m below meth c hx hb hr hlocks hml hown hts hK hP
  have hT : ∀ w ∈ wG, w.before _ s = true := fun w h => hts w (List.mem_cons_of_mem _ h)
  have hS : va_S (AX 10 ad s.heap.size) s.heap s.heap [] := va_S.rf
  have hown : s.vm.findClass RX0 = some m.cls := hown
  have C : CallFix p m c cX0_inRegister 1 s _ wG RX0 := ⟨hx, hb, hml, hown, hT⟩
  have hl := lv_entry ([.int x0]) (n := 1) (Nat.le_of_ble_eq_true rfl)
  rw [lg_entry_eq]
  generalize (lg_sl ([.int x0]) ++ List.replicate (1 - (lg_sl ([.int x0])).length) Slot.unset).toArray = ls at hl ⊢
  have hl : lv_has ls 1 [(0, .int x0)] := hl
  unfold fX0_inRegister at hs
  refine lv_ldc2 (v := (-1 : Int64)) hx hb hown (hT _ tC_X0_63) dX0_inRegister_0 ?_
  refine lv_iload_n hx hb dX0_inRegister_3 rfl (lv_at hl 0 rfl) ?_
  refine lv_i2l (v := (x0.toInt64)) hx hb dX0_inRegister_4 rfl ?_
  refine lv_lsub hx hb dX0_inRegister_5 ?_
  exact u_lret hx hb hr hlocks hP hS hs dX0_inRegister_6
theorem kX0_inRegister {p : Program} {l : Launch} {e : Env} {R : Room} {s : State} {m : MethodId} {args : Array Value} {below : List Frame} {meth : Method} {c : Code} {H : Heap} {locs : List Loc} {cells slots : Nat} {Q : State → Prop} {cc : ByteArray} {pc nL : Nat} {ls : Array Slot} {rest : List Value} {D : va_G} {ad : Nat → Nat} {cI cB : ClassId} {en : Nat → Nat} {S : St} {own : String} {index : Nat} {x0 : Int32} {ro : Int64} {So : St} (C : CallFix p m c cc nL s args wG own) (hlk : Cond.methodLink own index yX0_inRegister ∈ wG) (hR : rmX0_inRegister.frames + 1 ≤ R.frames ∧ 8 + (1 + 11) + rmX0_inRegister.locals ≤ R.locals) (hc : cells ≤ R.cells ∧ slots ≤ R.slots) (hK : KB D ad cI cB en s) (hP : va_P D vwCl (wB ad cI cB S) H) (hS : va_S (AX 10 ad s.heap.size) s.heap H locs) (hls : ls.size = nL) (hrest : (rest.map fun v => v.category).sum ≤ 8) (hd : decode cc pc = .ok (.invokestatic index, 3)) (hs : fX0_inRegister x0 S = some (ro, So)) (k : ∀ (H : Heap) (locs : List Loc), va_P D vwCl (wB ad cI cB So) H → va_S (AX 10 ad s.heap.size) s.heap H locs → W p l e R s m args below meth c H locs cells slots Q (F0 m (pc + 3) ls (.long ro :: rest))) : W p l e R s m args below meth c H locs cells slots Q (F0 m pc ls (.int x0 :: rest)) :=
  u_callS (n := 1) (mX0_inRegister l D ad cI cB en S x0 ro So hs) C uK_B (wg_S hlk tI_X0_inRegister tN_X0 tK_X0_inRegister) rfl rfl rfl (by decide +kernel) hR rfl hK hP hS hls hrest hd hc rfl k
def fX0_at (x0 : Int32) (S : St) : Option (Int64 × St) :=
    (some (((x0.toInt64) &&& 4294967295), S))
abbrev rmX0_at : Room := { frames := 0, cells := 0, slots := 0, locals := 0 }
set_option maxRecDepth 100000 in
set_option maxHeartbeats 4000000 in
theorem mX0_at (l : Launch) (D : va_G) (ad : Nat → Nat) (cI cB : ClassId) (en : Nat → Nat) (S : St) (x0 : Int32) (ro : Int64) (So : St) (hs : fX0_at x0 S = some (ro, So)) : uM l yX0_at (wg yX0_at cX0_at 1 (some .long)) rmX0_at (KB D ad cI cB en) D (wB ad cI cB) (AX 10 ad) [.int x0] S (some (.long ro), So) := by
  refine uM_start (by decide) rfl ?_
  intro p e s m below meth c hx hb hr hlocks hml hown hts hK hP
  have hT : ∀ w ∈ wG, w.before _ s = true := fun w h => hts w (List.mem_cons_of_mem _ h)
  have hS : va_S (AX 10 ad s.heap.size) s.heap s.heap [] := va_S.rf
  have hown : s.vm.findClass RX0 = some m.cls := hown
  have C : CallFix p m c cX0_at 1 s _ wG RX0 := ⟨hx, hb, hml, hown, hT⟩
  have hl := lv_entry ([.int x0]) (n := 1) (Nat.le_of_ble_eq_true rfl)
  rw [lg_entry_eq]
  generalize (lg_sl ([.int x0]) ++ List.replicate (1 - (lg_sl ([.int x0])).length) Slot.unset).toArray = ls at hl ⊢
  have hl : lv_has ls 1 [(0, .int x0)] := hl
  unfold fX0_at at hs
  refine lv_iload_n hx hb dX0_at_0 rfl (lv_at hl 0 rfl) ?_
  refine lv_i2l (v := (x0.toInt64)) hx hb dX0_at_1 rfl ?_
  refine lv_ldc2 (v := 4294967295) hx hb hown (hT _ tC_X0_65) dX0_at_2 ?_
  refine lv_land hx hb dX0_at_5 ?_
  exact u_lret hx hb hr hlocks hP hS hs dX0_at_6
theorem kX0_at {p : Program} {l : Launch} {e : Env} {R : Room} {s : State} {m : MethodId} {args : Array Value} {below : List Frame} {meth : Method} {c : Code} {H : Heap} {locs : List Loc} {cells slots : Nat} {Q : State → Prop} {cc : ByteArray} {pc nL : Nat} {ls : Array Slot} {rest : List Value} {D : va_G} {ad : Nat → Nat} {cI cB : ClassId} {en : Nat → Nat} {S : St} {own : String} {index : Nat} {x0 : Int32} {ro : Int64} {So : St} (C : CallFix p m c cc nL s args wG own) (hlk : Cond.methodLink own index yX0_at ∈ wG) (hR : rmX0_at.frames + 1 ≤ R.frames ∧ 8 + (1 + 11) + rmX0_at.locals ≤ R.locals) (hc : cells ≤ R.cells ∧ slots ≤ R.slots) (hK : KB D ad cI cB en s) (hP : va_P D vwCl (wB ad cI cB S) H) (hS : va_S (AX 10 ad s.heap.size) s.heap H locs) (hls : ls.size = nL) (hrest : (rest.map fun v => v.category).sum ≤ 8) (hd : decode cc pc = .ok (.invokestatic index, 3)) (hs : fX0_at x0 S = some (ro, So)) (k : ∀ (H : Heap) (locs : List Loc), va_P D vwCl (wB ad cI cB So) H → va_S (AX 10 ad s.heap.size) s.heap H locs → W p l e R s m args below meth c H locs cells slots Q (F0 m (pc + 3) ls (.long ro :: rest))) : W p l e R s m args below meth c H locs cells slots Q (F0 m pc ls (.int x0 :: rest)) :=
  u_callS (n := 1) (mX0_at l D ad cI cB en S x0 ro So hs) C uK_B (wg_S hlk tI_X0_at tN_X0 tK_X0_at) rfl rfl rfl (by decide +kernel) hR rfl hK hP hS hls hrest hd hc rfl k
def fX0_stride (t0 : Nat) (x1 : Int32) (S : St) : Option (Int32 × St) :=
    (gd (t0 < 3) (if t0 = 0 then (if x1 = 7 then (some (2, S))
    else (some ((szB t0), S)))
    else (some ((szB t0), S))))
abbrev rmX0_stride : Room := { frames := 0, cells := 0, slots := 0, locals := 0 }
set_option maxRecDepth 100000 in
set_option maxHeartbeats 4000000 in
theorem mX0_stride (l : Launch) (D : va_G) (ad : Nat → Nat) (cI cB : ClassId) (en : Nat → Nat) (S : St) (t0 : Nat) (x1 : Int32) (ro : Int32) (So : St) (hs : fX0_stride t0 x1 S = some (ro, So)) : uM l yX0_stride (wg yX0_stride cX0_stride 2 (some .int)) rmX0_stride (KB D ad cI cB en) D (wB ad cI cB) (AX 10 ad) [.ref (en t0), .int x1] S (some (.int ro), So) := by
  refine uM_start (by decide) rfl ?_
  intro p e s m below meth c hx hb hr hlocks hml hown hts hK hP
  have hT : ∀ w ∈ wG, w.before _ s = true := fun w h => hts w (List.mem_cons_of_mem _ h)
  have hS : va_S (AX 10 ad s.heap.size) s.heap s.heap [] := va_S.rf
  have hown : s.vm.findClass RX0 = some m.cls := hown
  have C : CallFix p m c cX0_stride 2 s _ wG RX0 := ⟨hx, hb, hml, hown, hT⟩
  have hl := lv_entry ([.ref (en t0), .int x1]) (n := 2) (Nat.le_of_ble_eq_true rfl)
  rw [lg_entry_eq]
  generalize (lg_sl ([.ref (en t0), .int x1]) ++ List.replicate (2 - (lg_sl ([.ref (en t0), .int x1])).length) Slot.unset).toArray = ls at hl ⊢
  have hl : lv_has ls 2 [(0, .ref (en t0)), (1, .int x1)] := hl
  unfold fX0_stride at hs
  obtain ⟨ht0, hs⟩ := gd_e hs
  refine lv_aload_n hx hb dX0_stride_0 rfl (lv_at hl 0 rfl) ?_
  refine gS_BYTE hx hb hown hK hS (hT _ tF_X0_26) dX0_stride_1 ?_
  refine u_acmp_ne (tgt := 17) hx hb hK ht0 (by decide) dX0_stride_4 (by decide) (fun c1 => ?_) (fun c1 => ?_)
  · have hs := if_f c1 hs
    refine lv_aload_n hx hb dX0_stride_17 rfl (lv_at hl 0 rfl) ?_
    refine gE_bytes hx hb hown hK hS ht0 (hT _ tF_X0_92) dX0_stride_18 ?_
    exact u_iret hx hb hr hlocks hP hS hs dX0_stride_21
  · have hs := if_t c1 hs
    refine lv_iload_n hx hb dX0_stride_7 rfl (lv_at hl 1 rfl) ?_
    refine lv_bipush (v := 7) hx hb dX0_stride_8 (by decide) ?_
    refine lv_icmp_ne (tgt := 17) hx hb dX0_stride_10 (by decide) (fun c2 => ?_) (fun c2 => ?_)
    · have hs := if_f c2 hs
      refine lv_aload_n hx hb dX0_stride_17 rfl (lv_at hl 0 rfl) ?_
      refine gE_bytes hx hb hown hK hS ht0 (hT _ tF_X0_92) dX0_stride_18 ?_
      exact u_iret hx hb hr hlocks hP hS hs dX0_stride_21
    · have hs := if_t c2 hs
      refine lv_iconst (v := 2) hx hb dX0_stride_13 (by decide) ?_
      refine lv_goto (tgt := 21) hx hb dX0_stride_14 (by decide) ?_
      exact u_iret hx hb hr hlocks hP hS hs dX0_stride_21
theorem kX0_stride {p : Program} {l : Launch} {e : Env} {R : Room} {s : State} {m : MethodId} {args : Array Value} {below : List Frame} {meth : Method} {c : Code} {H : Heap} {locs : List Loc} {cells slots : Nat} {Q : State → Prop} {cc : ByteArray} {pc nL : Nat} {ls : Array Slot} {rest : List Value} {D : va_G} {ad : Nat → Nat} {cI cB : ClassId} {en : Nat → Nat} {S : St} {own : String} {index : Nat} {t0 : Nat} {x1 : Int32} {ro : Int32} {So : St} (C : CallFix p m c cc nL s args wG own) (hlk : Cond.methodLink own index yX0_stride ∈ wG) (hR : rmX0_stride.frames + 1 ≤ R.frames ∧ 8 + (2 + 11) + rmX0_stride.locals ≤ R.locals) (hc : cells ≤ R.cells ∧ slots ≤ R.slots) (hK : KB D ad cI cB en s) (hP : va_P D vwCl (wB ad cI cB S) H) (hS : va_S (AX 10 ad s.heap.size) s.heap H locs) (hls : ls.size = nL) (hrest : (rest.map fun v => v.category).sum ≤ 8) (hd : decode cc pc = .ok (.invokestatic index, 3)) (hs : fX0_stride t0 x1 S = some (ro, So)) (k : ∀ (H : Heap) (locs : List Loc), va_P D vwCl (wB ad cI cB So) H → va_S (AX 10 ad s.heap.size) s.heap H locs → W p l e R s m args below meth c H locs cells slots Q (F0 m (pc + 3) ls (.int ro :: rest))) : W p l e R s m args below meth c H locs cells slots Q (F0 m pc ls (.int x1 :: .ref (en t0) :: rest)) :=
  u_callS (n := 2) (mX0_stride l D ad cI cB en S t0 x1 ro So hs) C uK_B (wg_S hlk tI_X0_stride tN_X0 tK_X0_stride) rfl rfl rfl (by decide +kernel) hR rfl hK hP hS hls hrest hd hc rfl k
def fX0_indexed (x1 : Int32) (x2 : Int32) (S : St) : Option (Int32 × St) :=
    (bd (fX4_get (ush x2 12) S) fun r1 S1 => (if (x2 &&& 2048) = 0 then (some (((x1 + (x2.toInt8.toInt32)) + (r1.toInt16.toInt32)), S1))
    else (some (((x1 + (x2.toInt8.toInt32)) + r1), S1))))
abbrev rmX0_indexed : Room := { frames := 1, cells := 0, slots := 0, locals := 21 }
set_option maxRecDepth 100000 in
set_option maxHeartbeats 4000000 in
theorem mX0_indexed (l : Launch) (D : va_G) (ad : Nat → Nat) (cI cB : ClassId) (en : Nat → Nat) (S : St) (x1 : Int32) (x2 : Int32) (ro : Int32) (So : St) (hs : fX0_indexed x1 x2 S = some (ro, So)) : uM l yX0_indexed (wg yX0_indexed cX0_indexed 4 (some .int)) rmX0_indexed (KB D ad cI cB en) D (wB ad cI cB) (AX 10 ad) [.ref (ad 3), .int x1, .int x2] S (some (.int ro), So) := by
  refine uM_start (by decide) rfl ?_
  intro p e s m below meth c hx hb hr hlocks hml hown hts hK hP
  have hT : ∀ w ∈ wG, w.before _ s = true := fun w h => hts w (List.mem_cons_of_mem _ h)
  have hS : va_S (AX 10 ad s.heap.size) s.heap s.heap [] := va_S.rf
  have hown : s.vm.findClass RX0 = some m.cls := hown
  have C : CallFix p m c cX0_indexed 4 s _ wG RX0 := ⟨hx, hb, hml, hown, hT⟩
  have hl := lv_entry ([.ref (ad 3), .int x1, .int x2]) (n := 4) (Nat.le_of_ble_eq_true rfl)
  rw [lg_entry_eq]
  generalize (lg_sl ([.ref (ad 3), .int x1, .int x2]) ++ List.replicate (4 - (lg_sl ([.ref (ad 3), .int x1, .int x2])).length) Slot.unset).toArray = ls at hl ⊢
  have hl : lv_has ls 4 [(0, .ref (ad 3)), (1, .int x1), (2, .int x2)] := hl
  unfold fX0_indexed at hs
  refine lv_aload_n hx hb dX0_indexed_0 rfl (lv_at hl 0 rfl) ?_
  refine gB_X0_registers hx hb hT hown hK hP (hT _ tF_X0_15) dX0_indexed_1 ?_
  refine lv_iload_n hx hb dX0_indexed_4 rfl (lv_at hl 2 rfl) ?_
  refine lv_bipush (v := 12) hx hb dX0_indexed_5 (by decide) ?_
  refine lv_iushr (v := (ush x2 12)) hx hb dX0_indexed_7 rfl ?_
  obtain ⟨r1, S1, h1, hs⟩ := bd_e hs
  refine kX4_get C tM_X0_67 ⟨Nat.le_of_ble_eq_true rfl, Nat.le_of_ble_eq_true rfl⟩ ⟨Nat.le_of_ble_eq_true rfl, Nat.le_of_ble_eq_true rfl⟩ hK hP hS hl.1 (rest := []) (Nat.le_of_ble_eq_true rfl) dX0_indexed_8 h1 (fun H locs hP hS => ?_)
  refine lv_istore_n (lv' := [(3, .int r1), (0, .ref (ad 3)), (1, .int x1), (2, .int x2)]) hx hb dX0_indexed_11 rfl hl (by decide) rfl (fun ls hl => ?_)
  refine lv_iload_n hx hb dX0_indexed_12 rfl (lv_at hl 2 rfl) ?_
  refine lv_iload_n hx hb dX0_indexed_13 rfl (lv_at hl 3 rfl) ?_
  refine lv_i2b (v := (x2.toInt8.toInt32)) hx hb dX0_indexed_14 rfl ?_
  refine lv_iadd hx hb dX0_indexed_15 ?_
  refine lv_iload_n hx hb dX0_indexed_16 rfl (lv_at hl 3 rfl) ?_
  refine lv_sipush (v := 2048) hx hb dX0_indexed_17 (by decide) ?_
  refine lv_iand hx hb dX0_indexed_20 ?_
  refine lv_if_eq (tgt := 28) hx hb dX0_indexed_21 (by decide) (fun c1 => ?_) (fun c1 => ?_)
  · have hs := if_t c1 hs
    refine lv_iload_n hx hb dX0_indexed_28 rfl (lv_at hl 0 rfl) ?_
    refine lv_i2s (v := (r1.toInt16.toInt32)) hx hb dX0_indexed_29 rfl ?_
    refine lv_iadd hx hb dX0_indexed_30 ?_
    exact u_iret hx hb hr hlocks hP hS hs dX0_indexed_31
  · have hs := if_f c1 hs
    refine lv_iload_n hx hb dX0_indexed_24 rfl (lv_at hl 0 rfl) ?_
    refine lv_goto (tgt := 30) hx hb dX0_indexed_25 (by decide) ?_
    refine lv_iadd hx hb dX0_indexed_30 ?_
    exact u_iret hx hb hr hlocks hP hS hs dX0_indexed_31
theorem kX0_indexed {p : Program} {l : Launch} {e : Env} {R : Room} {s : State} {m : MethodId} {args : Array Value} {below : List Frame} {meth : Method} {c : Code} {H : Heap} {locs : List Loc} {cells slots : Nat} {Q : State → Prop} {cc : ByteArray} {pc nL : Nat} {ls : Array Slot} {rest : List Value} {D : va_G} {ad : Nat → Nat} {cI cB : ClassId} {en : Nat → Nat} {S : St} {own : String} {index : Nat} {x1 : Int32} {x2 : Int32} {ro : Int32} {So : St} (C : CallFix p m c cc nL s args wG own) (hlk : Cond.methodLink own index yX0_indexed ∈ wG) (hR : rmX0_indexed.frames + 1 ≤ R.frames ∧ 8 + (4 + 11) + rmX0_indexed.locals ≤ R.locals) (hc : cells ≤ R.cells ∧ slots ≤ R.slots) (hK : KB D ad cI cB en s) (hP : va_P D vwCl (wB ad cI cB S) H) (hS : va_S (AX 10 ad s.heap.size) s.heap H locs) (hls : ls.size = nL) (hrest : (rest.map fun v => v.category).sum ≤ 8) (hd : decode cc pc = .ok (.invokevirtual index, 3)) (hs : fX0_indexed x1 x2 S = some (ro, So)) (k : ∀ (H : Heap) (locs : List Loc), va_P D vwCl (wB ad cI cB So) H → va_S (AX 10 ad s.heap.size) s.heap H locs → W p l e R s m args below meth c H locs cells slots Q (F0 m (pc + 3) ls (.int ro :: rest))) : W p l e R s m args below meth c H locs cells slots Q (F0 m pc ls (.int x2 :: .int x1 :: .ref (ad 3) :: rest)) :=
  u_callV (n := 2) (mX0_indexed l D ad cI cB en S x1 x2 ro So hs) C uK_B (wg_V hlk tI_X0_indexed tS_X0_indexed tN_X0 tK_X0_indexed) rfl rfl rfl (by decide +kernel) hR rfl (va_recv hK.1 hP (ci := 0) (q0 := 3) rfl rfl) hK hP hS hls hrest hd hc rfl k
def fX0_nextLong  (S : St) : Option (Int32 × St) :=
    (bd (fX3_load (S.1 2) 4 S) fun r1 S1 => (lt (sI S1 2 ((S1.1 2) + 4)) fun S2 => (some (r1, S2))))
abbrev rmX0_nextLong : Room := { frames := 1, cells := 0, slots := 0, locals := 24 }
set_option maxRecDepth 100000 in
set_option maxHeartbeats 4000000 in
theorem mX0_nextLong (l : Launch) (D : va_G) (ad : Nat → Nat) (cI cB : ClassId) (en : Nat → Nat) (S : St)  (ro : Int32) (So : St) (hs : fX0_nextLong  S = some (ro, So)) : uM l yX0_nextLong (wg yX0_nextLong cX0_nextLong 2 (some .int)) rmX0_nextLong (KB D ad cI cB en) D (wB ad cI cB) (AX 10 ad) [.ref (ad 3)] S (some (.int ro), So) := by
  refine uM_start (by decide) rfl ?_
  intro p e s m below meth c hx hb hr hlocks hml hown hts hK hP
  have hT : ∀ w ∈ wG, w.before _ s = true := fun w h => hts w (List.mem_cons_of_mem _ h)
  have hS : va_S (AX 10 ad s.heap.size) s.heap s.heap [] := va_S.rf
  have hown : s.vm.findClass RX0 = some m.cls := hown
  have C : CallFix p m c cX0_nextLong 2 s _ wG RX0 := ⟨hx, hb, hml, hown, hT⟩
  have hl := lv_entry ([.ref (ad 3)]) (n := 2) (Nat.le_of_ble_eq_true rfl)
  rw [lg_entry_eq]
  generalize (lg_sl ([.ref (ad 3)]) ++ List.replicate (2 - (lg_sl ([.ref (ad 3)])).length) Slot.unset).toArray = ls at hl ⊢
  have hl : lv_has ls 2 [(0, .ref (ad 3))] := hl
  unfold fX0_nextLong at hs
  refine lv_aload_n hx hb dX0_nextLong_0 rfl (lv_at hl 0 rfl) ?_
  refine gB_X0_memory hx hb hT hown hK hP (hT _ tF_X0_9) dX0_nextLong_1 ?_
  refine lv_aload_n hx hb dX0_nextLong_4 rfl (lv_at hl 0 rfl) ?_
  refine gB_X0_registers hx hb hT hown hK hP (hT _ tF_X0_15) dX0_nextLong_5 ?_
  refine gB_X4_pc hx hb hT hown hK hP (hT _ tF_X0_35) dX0_nextLong_8 ?_
  refine lv_iconst (v := 4) hx hb dX0_nextLong_11 (by decide) ?_
  obtain ⟨r1, S1, h1, hs⟩ := bd_e hs
  refine kX3_load C tM_X0_48 ⟨Nat.le_of_ble_eq_true rfl, Nat.le_of_ble_eq_true rfl⟩ ⟨Nat.le_of_ble_eq_true rfl, Nat.le_of_ble_eq_true rfl⟩ hK hP hS hl.1 (rest := []) (Nat.le_of_ble_eq_true rfl) dX0_nextLong_12 h1 (fun H locs hP hS => ?_)
  refine lv_istore_n (lv' := [(1, .int r1), (0, .ref (ad 3))]) hx hb dX0_nextLong_15 rfl hl (by decide) rfl (fun ls hl => ?_)
  refine lv_aload_n hx hb dX0_nextLong_16 rfl (lv_at hl 1 rfl) ?_
  refine gB_X0_registers hx hb hT hown hK hP (hT _ tF_X0_15) dX0_nextLong_17 ?_
  refine lv_dup hx hb dX0_nextLong_20 rfl ?_
  refine gB_X4_pc hx hb hT hown hK hP (hT _ tF_X0_35) dX0_nextLong_21 ?_
  refine lv_iconst (v := 4) hx hb dX0_nextLong_24 (by decide) ?_
  refine lv_iadd hx hb dX0_nextLong_25 ?_
  obtain ⟨S2, h2, hs⟩ := lt_e hs
  refine pB_X4_pc hx hb hT hown hK hP hS (hT _ tF_X0_35) dX0_nextLong_26 (v := ((S1.1 2) + 4)) h2 (fun H locs hP hS => ?_)
  refine lv_iload_n hx hb dX0_nextLong_29 rfl (lv_at hl 0 rfl) ?_
  exact u_iret hx hb hr hlocks hP hS hs dX0_nextLong_30
theorem kX0_nextLong {p : Program} {l : Launch} {e : Env} {R : Room} {s : State} {m : MethodId} {args : Array Value} {below : List Frame} {meth : Method} {c : Code} {H : Heap} {locs : List Loc} {cells slots : Nat} {Q : State → Prop} {cc : ByteArray} {pc nL : Nat} {ls : Array Slot} {rest : List Value} {D : va_G} {ad : Nat → Nat} {cI cB : ClassId} {en : Nat → Nat} {S : St} {own : String} {index : Nat}  {ro : Int32} {So : St} (C : CallFix p m c cc nL s args wG own) (hlk : Cond.methodLink own index yX0_nextLong ∈ wG) (hR : rmX0_nextLong.frames + 1 ≤ R.frames ∧ 8 + (2 + 11) + rmX0_nextLong.locals ≤ R.locals) (hc : cells ≤ R.cells ∧ slots ≤ R.slots) (hK : KB D ad cI cB en s) (hP : va_P D vwCl (wB ad cI cB S) H) (hS : va_S (AX 10 ad s.heap.size) s.heap H locs) (hls : ls.size = nL) (hrest : (rest.map fun v => v.category).sum ≤ 8) (hd : decode cc pc = .ok (.invokevirtual index, 3)) (hs : fX0_nextLong  S = some (ro, So)) (k : ∀ (H : Heap) (locs : List Loc), va_P D vwCl (wB ad cI cB So) H → va_S (AX 10 ad s.heap.size) s.heap H locs → W p l e R s m args below meth c H locs cells slots Q (F0 m (pc + 3) ls (.int ro :: rest))) : W p l e R s m args below meth c H locs cells slots Q (F0 m pc ls (.ref (ad 3) :: rest)) :=
  u_callV (n := 0) (mX0_nextLong l D ad cI cB en S  ro So hs) C uK_B (wg_V hlk tI_X0_nextLong tS_X0_nextLong tN_X0 tK_X0_nextLong) rfl rfl rfl (by decide +kernel) hR rfl (va_recv hK.1 hP (ci := 0) (q0 := 3) rfl rfl) hK hP hS hls hrest hd hc rfl k
def fX0_locate (t1 : Nat) (x2 : Int32) (S : St) : Option (Int64 × St) :=
    (gd (t1 < 3) (lt ((x2 &&& 7) : Int32) fun v1 => (bd (fX4_get (8 + v1) S) fun r1 S1 => (lt ((S1.1 2) : Int32) fun v2 => (bd (fX0_kind x2 S1) fun r2 S2 => (if r2 = 0 then (bd (fX0_inRegister v1 S2) fun w1 S3 => (some (w1, S3)))
    else (if r2 = 1 then (bd (fX0_inRegister (8 + v1) S2) fun w2 S4 => (some (w2, S4)))
    else (if r2 = 2 then (bd (fX0_at r1 S2) fun w3 S5 => (some (w3, S5)))
    else (if r2 = 3 then (bd (fX0_stride t1 v1 S2) fun r3 S6 => (bv (fX4_set (8 + v1) (r1 + r3) S6) fun S7 => (bd (fX0_at r1 S7) fun w4 S8 => (some (w4, S8)))))
    else (if r2 = 4 then (bd (fX0_stride t1 v1 S2) fun r4 S9 => (bv (fX4_set (8 + v1) (r1 - r4) S9) fun S10 => (bd (fX0_stride t1 v1 S10) fun r5 S11 => (bd (fX0_at (r1 - r5) S11) fun w5 S12 => (some (w5, S12))))))
    else (if r2 = 5 then (bd (fX0_nextWord S2) fun r6 S13 => (bd (fX0_at (r1 + (r6.toInt16.toInt32)) S13) fun w6 S14 => (some (w6, S14))))
    else (if r2 = 6 then (bd (fX0_nextWord S2) fun r7 S15 => (bd (fX0_indexed r1 r7 S15) fun r8 S16 => (bd (fX0_at r8 S16) fun w7 S17 => (some (w7, S17)))))
    else (if r2 = 7 then (bd (fX0_nextWord S2) fun r9 S18 => (bd (fX0_at (r9.toInt16.toInt32) S18) fun w8 S19 => (some (w8, S19))))
    else (if r2 = 8 then (bd (fX0_nextLong S2) fun r10 S20 => (bd (fX0_at r10 S20) fun w9 S21 => (some (w9, S21))))
    else (if r2 = 9 then (bd (fX0_nextWord S2) fun r11 S22 => (bd (fX0_at (v2 + (r11.toInt16.toInt32)) S22) fun w10 S23 => (some (w10, S23))))
    else (if r2 = 10 then (bd (fX0_nextWord S2) fun r12 S24 => (bd (fX0_indexed v2 r12 S24) fun r13 S25 => (bd (fX0_at r13 S25) fun w11 S26 => (some (w11, S26)))))
    else (jn (fun (v3 : Int32) => (lt (sI S2 2 ((S2.1 2) + v3)) fun S27 => (jn (fun (v4 : Int32) => (bd (fX0_at v4 S27) fun w12 S28 => (some (w12, S28)))) fun K2 =>
    (if t1 = 0 then (K2 (v2 + 1))
    else (K2 v2))))) fun K1 =>
    (if t1 = 2 then (K1 4)
    else (K1 2)))))))))))))))))))
abbrev rmX0_locate : Room := { frames := 2, cells := 0, slots := 0, locals := 45 }
set_option maxRecDepth 100000 in
set_option maxHeartbeats 4000000 in
theorem mX0_locate (l : Launch) (D : va_G) (ad : Nat → Nat) (cI cB : ClassId) (en : Nat → Nat) (S : St) (t1 : Nat) (x2 : Int32) (ro : Int64) (So : St) (hs : fX0_locate t1 x2 S = some (ro, So)) : uM l yX0_locate (wg yX0_locate cX0_locate 6 (some .long)) rmX0_locate (KB D ad cI cB en) D (wB ad cI cB) (AX 10 ad) [.ref (ad 3), .ref (en t1), .int x2] S (some (.long ro), So) := by
  refine uM_start (by decide) rfl ?_
  intro p e s m below meth c hx hb hr hlocks hml hown hts hK hP
  have hT : ∀ w ∈ wG, w.before _ s = true := fun w h => hts w (List.mem_cons_of_mem _ h)
  have hS : va_S (AX 10 ad s.heap.size) s.heap s.heap [] := va_S.rf
  have hown : s.vm.findClass RX0 = some m.cls := hown
  have C : CallFix p m c cX0_locate 6 s _ wG RX0 := ⟨hx, hb, hml, hown, hT⟩
  have hl := lv_entry ([.ref (ad 3), .ref (en t1), .int x2]) (n := 6) (Nat.le_of_ble_eq_true rfl)
  rw [lg_entry_eq]
  generalize (lg_sl ([.ref (ad 3), .ref (en t1), .int x2]) ++ List.replicate (6 - (lg_sl ([.ref (ad 3), .ref (en t1), .int x2])).length) Slot.unset).toArray = ls at hl ⊢
  have hl : lv_has ls 6 [(0, .ref (ad 3)), (1, .ref (en t1)), (2, .int x2)] := hl
  unfold fX0_locate at hs
  obtain ⟨ht1, hs⟩ := gd_e hs
  refine lv_iload_n hx hb dX0_locate_0 rfl (lv_at hl 2 rfl) ?_
  refine lv_bipush (v := 7) hx hb dX0_locate_1 (by decide) ?_
  refine lv_iand hx hb dX0_locate_3 ?_
  obtain ⟨v1, h1, hs⟩ := lt_e hs
  refine u_top h1 ?_
  refine lv_istore_n (lv' := [(3, .int v1), (0, .ref (ad 3)), (1, .ref (en t1)), (2, .int x2)]) hx hb dX0_locate_4 rfl hl (by decide) rfl (fun ls hl => ?_)
  refine lv_aload_n hx hb dX0_locate_5 rfl (lv_at hl 1 rfl) ?_
  refine gB_X0_registers hx hb hT hown hK hP (hT _ tF_X0_15) dX0_locate_6 ?_
  refine lv_bipush (v := 8) hx hb dX0_locate_9 (by decide) ?_
  refine lv_iload_n hx hb dX0_locate_11 rfl (lv_at hl 0 rfl) ?_
  refine lv_iadd hx hb dX0_locate_12 ?_
  obtain ⟨r1, S1, h2, hs⟩ := bd_e hs
  refine kX4_get C tM_X0_67 ⟨Nat.le_of_ble_eq_true rfl, Nat.le_of_ble_eq_true rfl⟩ ⟨Nat.le_of_ble_eq_true rfl, Nat.le_of_ble_eq_true rfl⟩ hK hP hS hl.1 (rest := []) (Nat.le_of_ble_eq_true rfl) dX0_locate_13 h2 (fun H locs hP hS => ?_)
  refine lv_istore (lv' := [(4, .int r1), (3, .int v1), (0, .ref (ad 3)), (1, .ref (en t1)), (2, .int x2)]) hx hb dX0_locate_16 hl (by decide) rfl (fun ls hl => ?_)
  refine lv_aload_n hx hb dX0_locate_18 rfl (lv_at hl 2 rfl) ?_
  refine gB_X0_registers hx hb hT hown hK hP (hT _ tF_X0_15) dX0_locate_19 ?_
  refine gB_X4_pc hx hb hT hown hK hP (hT _ tF_X0_35) dX0_locate_22 ?_
  obtain ⟨v2, h3, hs⟩ := lt_e hs
  refine u_top h3 ?_
  refine lv_istore (lv' := [(5, .int v2), (4, .int r1), (3, .int v1), (0, .ref (ad 3)), (1, .ref (en t1)), (2, .int x2)]) hx hb dX0_locate_25 hl (by decide) rfl (fun ls hl => ?_)
  refine lv_iload_n hx hb dX0_locate_27 rfl (lv_at hl 5 rfl) ?_
  obtain ⟨r2, S2, h4, hs⟩ := bd_e hs
  refine kX0_kind C tM_X0_71 ⟨Nat.le_of_ble_eq_true rfl, Nat.le_of_ble_eq_true rfl⟩ ⟨Nat.le_of_ble_eq_true rfl, Nat.le_of_ble_eq_true rfl⟩ hK hP hS hl.1 (rest := []) (Nat.le_of_ble_eq_true rfl) dX0_locate_28 h4 (fun H locs hP hS => ?_)
  by_cases c1 : r2 = 0
  · have hs := if_t c1 hs
    refine u_table (k := 0) (a := 0) (off := 57) (tgt := 88) hx hb dX0_locate_31 c1 (by decide) (by decide) (by decide) (by decide) (by decide) ?_
    refine lv_iload_n hx hb dX0_locate_88 rfl (lv_at hl 2 rfl) ?_
    obtain ⟨w1, S3, h5, hs⟩ := bd_e hs
    refine kX0_inRegister C tM_X0_74 ⟨Nat.le_of_ble_eq_true rfl, Nat.le_of_ble_eq_true rfl⟩ ⟨Nat.le_of_ble_eq_true rfl, Nat.le_of_ble_eq_true rfl⟩ hK hP hS hl.1 (rest := []) (Nat.le_of_ble_eq_true rfl) dX0_locate_89 h5 (fun H locs hP hS => ?_)
    exact u_lret hx hb hr hlocks hP hS hs dX0_locate_92
  have hs := if_f c1 hs
  by_cases c2 : r2 = 1
  · have hs := if_t c2 hs
    refine u_table (k := 1) (a := 1) (off := 62) (tgt := 93) hx hb dX0_locate_31 c2 (by decide) (by decide) (by decide) (by decide) (by decide) ?_
    refine lv_bipush (v := 8) hx hb dX0_locate_93 (by decide) ?_
    refine lv_iload_n hx hb dX0_locate_95 rfl (lv_at hl 2 rfl) ?_
    refine lv_iadd hx hb dX0_locate_96 ?_
    obtain ⟨w2, S4, h6, hs⟩ := bd_e hs
    refine kX0_inRegister C tM_X0_74 ⟨Nat.le_of_ble_eq_true rfl, Nat.le_of_ble_eq_true rfl⟩ ⟨Nat.le_of_ble_eq_true rfl, Nat.le_of_ble_eq_true rfl⟩ hK hP hS hl.1 (rest := []) (Nat.le_of_ble_eq_true rfl) dX0_locate_97 h6 (fun H locs hP hS => ?_)
    exact u_lret hx hb hr hlocks hP hS hs dX0_locate_100
  have hs := if_f c2 hs
  by_cases c3 : r2 = 2
  · have hs := if_t c3 hs
    refine u_table (k := 2) (a := 2) (off := 70) (tgt := 101) hx hb dX0_locate_31 c3 (by decide) (by decide) (by decide) (by decide) (by decide) ?_
    refine lv_iload hx hb dX0_locate_101 (lv_at hl 1 rfl) ?_
    obtain ⟨w3, S5, h7, hs⟩ := bd_e hs
    refine kX0_at C tM_X0_78 ⟨Nat.le_of_ble_eq_true rfl, Nat.le_of_ble_eq_true rfl⟩ ⟨Nat.le_of_ble_eq_true rfl, Nat.le_of_ble_eq_true rfl⟩ hK hP hS hl.1 (rest := []) (Nat.le_of_ble_eq_true rfl) dX0_locate_103 h7 (fun H locs hP hS => ?_)
    exact u_lret hx hb hr hlocks hP hS hs dX0_locate_106
  have hs := if_f c3 hs
  by_cases c4 : r2 = 3
  · have hs := if_t c4 hs
    refine u_table (k := 3) (a := 3) (off := 76) (tgt := 107) hx hb dX0_locate_31 c4 (by decide) (by decide) (by decide) (by decide) (by decide) ?_
    refine lv_aload_n hx hb dX0_locate_107 rfl (lv_at hl 3 rfl) ?_
    refine gB_X0_registers hx hb hT hown hK hP (hT _ tF_X0_15) dX0_locate_108 ?_
    refine lv_bipush (v := 8) hx hb dX0_locate_111 (by decide) ?_
    refine lv_iload_n hx hb dX0_locate_113 rfl (lv_at hl 2 rfl) ?_
    refine lv_iadd hx hb dX0_locate_114 ?_
    refine lv_iload hx hb dX0_locate_115 (lv_at hl 1 rfl) ?_
    refine lv_aload_n hx hb dX0_locate_117 rfl (lv_at hl 4 rfl) ?_
    refine lv_iload_n hx hb dX0_locate_118 rfl (lv_at hl 2 rfl) ?_
    obtain ⟨r3, S6, h8, hs⟩ := bd_e hs
    refine kX0_stride C tM_X0_81 ⟨Nat.le_of_ble_eq_true rfl, Nat.le_of_ble_eq_true rfl⟩ ⟨Nat.le_of_ble_eq_true rfl, Nat.le_of_ble_eq_true rfl⟩ hK hP hS hl.1 (rest := [.int r1, .int (8 + v1), .ref (ad 2)]) (Nat.le_of_ble_eq_true rfl) dX0_locate_119 h8 (fun H locs hP hS => ?_)
    refine lv_iadd hx hb dX0_locate_122 ?_
    obtain ⟨S7, h9, hs⟩ := bv_e hs
    refine kX4_set C tM_X0_85 ⟨Nat.le_of_ble_eq_true rfl, Nat.le_of_ble_eq_true rfl⟩ ⟨Nat.le_of_ble_eq_true rfl, Nat.le_of_ble_eq_true rfl⟩ hK hP hS hl.1 (rest := []) (Nat.le_of_ble_eq_true rfl) dX0_locate_123 h9 (fun H locs hP hS => ?_)
    refine lv_iload hx hb dX0_locate_126 (lv_at hl 1 rfl) ?_
    obtain ⟨w4, S8, h10, hs⟩ := bd_e hs
    refine kX0_at C tM_X0_78 ⟨Nat.le_of_ble_eq_true rfl, Nat.le_of_ble_eq_true rfl⟩ ⟨Nat.le_of_ble_eq_true rfl, Nat.le_of_ble_eq_true rfl⟩ hK hP hS hl.1 (rest := []) (Nat.le_of_ble_eq_true rfl) dX0_locate_128 h10 (fun H locs hP hS => ?_)
    exact u_lret hx hb hr hlocks hP hS hs dX0_locate_131
  have hs := if_f c4 hs
  by_cases c5 : r2 = 4
  · have hs := if_t c5 hs
    refine u_table (k := 4) (a := 4) (off := 101) (tgt := 132) hx hb dX0_locate_31 c5 (by decide) (by decide) (by decide) (by decide) (by decide) ?_
    refine lv_aload_n hx hb dX0_locate_132 rfl (lv_at hl 3 rfl) ?_
    refine gB_X0_registers hx hb hT hown hK hP (hT _ tF_X0_15) dX0_locate_133 ?_
    refine lv_bipush (v := 8) hx hb dX0_locate_136 (by decide) ?_
    refine lv_iload_n hx hb dX0_locate_138 rfl (lv_at hl 2 rfl) ?_
    refine lv_iadd hx hb dX0_locate_139 ?_
    refine lv_iload hx hb dX0_locate_140 (lv_at hl 1 rfl) ?_
    refine lv_aload_n hx hb dX0_locate_142 rfl (lv_at hl 4 rfl) ?_
    refine lv_iload_n hx hb dX0_locate_143 rfl (lv_at hl 2 rfl) ?_
    obtain ⟨r4, S9, h11, hs⟩ := bd_e hs
    refine kX0_stride C tM_X0_81 ⟨Nat.le_of_ble_eq_true rfl, Nat.le_of_ble_eq_true rfl⟩ ⟨Nat.le_of_ble_eq_true rfl, Nat.le_of_ble_eq_true rfl⟩ hK hP hS hl.1 (rest := [.int r1, .int (8 + v1), .ref (ad 2)]) (Nat.le_of_ble_eq_true rfl) dX0_locate_144 h11 (fun H locs hP hS => ?_)
    refine lv_isub hx hb dX0_locate_147 ?_
    obtain ⟨S10, h12, hs⟩ := bv_e hs
    refine kX4_set C tM_X0_85 ⟨Nat.le_of_ble_eq_true rfl, Nat.le_of_ble_eq_true rfl⟩ ⟨Nat.le_of_ble_eq_true rfl, Nat.le_of_ble_eq_true rfl⟩ hK hP hS hl.1 (rest := []) (Nat.le_of_ble_eq_true rfl) dX0_locate_148 h12 (fun H locs hP hS => ?_)
    refine lv_iload hx hb dX0_locate_151 (lv_at hl 1 rfl) ?_
    refine lv_aload_n hx hb dX0_locate_153 rfl (lv_at hl 4 rfl) ?_
    refine lv_iload_n hx hb dX0_locate_154 rfl (lv_at hl 2 rfl) ?_
    obtain ⟨r5, S11, h13, hs⟩ := bd_e hs
    refine kX0_stride C tM_X0_81 ⟨Nat.le_of_ble_eq_true rfl, Nat.le_of_ble_eq_true rfl⟩ ⟨Nat.le_of_ble_eq_true rfl, Nat.le_of_ble_eq_true rfl⟩ hK hP hS hl.1 (rest := [.int r1]) (Nat.le_of_ble_eq_true rfl) dX0_locate_155 h13 (fun H locs hP hS => ?_)
    refine lv_isub hx hb dX0_locate_158 ?_
    obtain ⟨w5, S12, h14, hs⟩ := bd_e hs
    refine kX0_at C tM_X0_78 ⟨Nat.le_of_ble_eq_true rfl, Nat.le_of_ble_eq_true rfl⟩ ⟨Nat.le_of_ble_eq_true rfl, Nat.le_of_ble_eq_true rfl⟩ hK hP hS hl.1 (rest := []) (Nat.le_of_ble_eq_true rfl) dX0_locate_159 h14 (fun H locs hP hS => ?_)
    exact u_lret hx hb hr hlocks hP hS hs dX0_locate_162
  have hs := if_f c5 hs
  by_cases c6 : r2 = 5
  · have hs := if_t c6 hs
    refine u_table (k := 5) (a := 5) (off := 132) (tgt := 163) hx hb dX0_locate_31 c6 (by decide) (by decide) (by decide) (by decide) (by decide) ?_
    refine lv_iload hx hb dX0_locate_163 (lv_at hl 1 rfl) ?_
    refine lv_aload_n hx hb dX0_locate_165 rfl (lv_at hl 3 rfl) ?_
    obtain ⟨r6, S13, h15, hs⟩ := bd_e hs
    refine kX0_nextWord C tM_X0_44 ⟨Nat.le_of_ble_eq_true rfl, Nat.le_of_ble_eq_true rfl⟩ ⟨Nat.le_of_ble_eq_true rfl, Nat.le_of_ble_eq_true rfl⟩ hK hP hS hl.1 (rest := [.int r1]) (Nat.le_of_ble_eq_true rfl) dX0_locate_166 h15 (fun H locs hP hS => ?_)
    refine lv_i2s (v := (r6.toInt16.toInt32)) hx hb dX0_locate_169 rfl ?_
    refine lv_iadd hx hb dX0_locate_170 ?_
    obtain ⟨w6, S14, h16, hs⟩ := bd_e hs
    refine kX0_at C tM_X0_78 ⟨Nat.le_of_ble_eq_true rfl, Nat.le_of_ble_eq_true rfl⟩ ⟨Nat.le_of_ble_eq_true rfl, Nat.le_of_ble_eq_true rfl⟩ hK hP hS hl.1 (rest := []) (Nat.le_of_ble_eq_true rfl) dX0_locate_171 h16 (fun H locs hP hS => ?_)
    exact u_lret hx hb hr hlocks hP hS hs dX0_locate_174
  have hs := if_f c6 hs
  by_cases c7 : r2 = 6
  · have hs := if_t c7 hs
    refine u_table (k := 6) (a := 6) (off := 144) (tgt := 175) hx hb dX0_locate_31 c7 (by decide) (by decide) (by decide) (by decide) (by decide) ?_
    refine lv_aload_n hx hb dX0_locate_175 rfl (lv_at hl 3 rfl) ?_
    refine lv_iload hx hb dX0_locate_176 (lv_at hl 1 rfl) ?_
    refine lv_aload_n hx hb dX0_locate_178 rfl (lv_at hl 3 rfl) ?_
    obtain ⟨r7, S15, h17, hs⟩ := bd_e hs
    refine kX0_nextWord C tM_X0_44 ⟨Nat.le_of_ble_eq_true rfl, Nat.le_of_ble_eq_true rfl⟩ ⟨Nat.le_of_ble_eq_true rfl, Nat.le_of_ble_eq_true rfl⟩ hK hP hS hl.1 (rest := [.int r1, .ref (ad 3)]) (Nat.le_of_ble_eq_true rfl) dX0_locate_179 h17 (fun H locs hP hS => ?_)
    obtain ⟨r8, S16, h18, hs⟩ := bd_e hs
    refine kX0_indexed C tM_X0_89 ⟨Nat.le_of_ble_eq_true rfl, Nat.le_of_ble_eq_true rfl⟩ ⟨Nat.le_of_ble_eq_true rfl, Nat.le_of_ble_eq_true rfl⟩ hK hP hS hl.1 (rest := []) (Nat.le_of_ble_eq_true rfl) dX0_locate_182 h18 (fun H locs hP hS => ?_)
    obtain ⟨w7, S17, h19, hs⟩ := bd_e hs
    refine kX0_at C tM_X0_78 ⟨Nat.le_of_ble_eq_true rfl, Nat.le_of_ble_eq_true rfl⟩ ⟨Nat.le_of_ble_eq_true rfl, Nat.le_of_ble_eq_true rfl⟩ hK hP hS hl.1 (rest := []) (Nat.le_of_ble_eq_true rfl) dX0_locate_185 h19 (fun H locs hP hS => ?_)
    exact u_lret hx hb hr hlocks hP hS hs dX0_locate_188
  have hs := if_f c7 hs
  by_cases c8 : r2 = 7
  · have hs := if_t c8 hs
    refine u_table (k := 7) (a := 7) (off := 158) (tgt := 189) hx hb dX0_locate_31 c8 (by decide) (by decide) (by decide) (by decide) (by decide) ?_
    refine lv_aload_n hx hb dX0_locate_189 rfl (lv_at hl 3 rfl) ?_
    obtain ⟨r9, S18, h20, hs⟩ := bd_e hs
    refine kX0_nextWord C tM_X0_44 ⟨Nat.le_of_ble_eq_true rfl, Nat.le_of_ble_eq_true rfl⟩ ⟨Nat.le_of_ble_eq_true rfl, Nat.le_of_ble_eq_true rfl⟩ hK hP hS hl.1 (rest := []) (Nat.le_of_ble_eq_true rfl) dX0_locate_190 h20 (fun H locs hP hS => ?_)
    refine lv_i2s (v := (r9.toInt16.toInt32)) hx hb dX0_locate_193 rfl ?_
    obtain ⟨w8, S19, h21, hs⟩ := bd_e hs
    refine kX0_at C tM_X0_78 ⟨Nat.le_of_ble_eq_true rfl, Nat.le_of_ble_eq_true rfl⟩ ⟨Nat.le_of_ble_eq_true rfl, Nat.le_of_ble_eq_true rfl⟩ hK hP hS hl.1 (rest := []) (Nat.le_of_ble_eq_true rfl) dX0_locate_194 h21 (fun H locs hP hS => ?_)
    exact u_lret hx hb hr hlocks hP hS hs dX0_locate_197
  have hs := if_f c8 hs
  by_cases c9 : r2 = 8
  · have hs := if_t c9 hs
    refine u_table (k := 8) (a := 8) (off := 167) (tgt := 198) hx hb dX0_locate_31 c9 (by decide) (by decide) (by decide) (by decide) (by decide) ?_
    refine lv_aload_n hx hb dX0_locate_198 rfl (lv_at hl 3 rfl) ?_
    obtain ⟨r10, S20, h22, hs⟩ := bd_e hs
    refine kX0_nextLong C tM_X0_57 ⟨Nat.le_of_ble_eq_true rfl, Nat.le_of_ble_eq_true rfl⟩ ⟨Nat.le_of_ble_eq_true rfl, Nat.le_of_ble_eq_true rfl⟩ hK hP hS hl.1 (rest := []) (Nat.le_of_ble_eq_true rfl) dX0_locate_199 h22 (fun H locs hP hS => ?_)
    obtain ⟨w9, S21, h23, hs⟩ := bd_e hs
    refine kX0_at C tM_X0_78 ⟨Nat.le_of_ble_eq_true rfl, Nat.le_of_ble_eq_true rfl⟩ ⟨Nat.le_of_ble_eq_true rfl, Nat.le_of_ble_eq_true rfl⟩ hK hP hS hl.1 (rest := []) (Nat.le_of_ble_eq_true rfl) dX0_locate_202 h23 (fun H locs hP hS => ?_)
    exact u_lret hx hb hr hlocks hP hS hs dX0_locate_205
  have hs := if_f c9 hs
  by_cases c10 : r2 = 9
  · have hs := if_t c10 hs
    refine u_table (k := 9) (a := 9) (off := 175) (tgt := 206) hx hb dX0_locate_31 c10 (by decide) (by decide) (by decide) (by decide) (by decide) ?_
    refine lv_iload hx hb dX0_locate_206 (lv_at hl 0 rfl) ?_
    refine lv_aload_n hx hb dX0_locate_208 rfl (lv_at hl 3 rfl) ?_
    obtain ⟨r11, S22, h24, hs⟩ := bd_e hs
    refine kX0_nextWord C tM_X0_44 ⟨Nat.le_of_ble_eq_true rfl, Nat.le_of_ble_eq_true rfl⟩ ⟨Nat.le_of_ble_eq_true rfl, Nat.le_of_ble_eq_true rfl⟩ hK hP hS hl.1 (rest := [.int v2]) (Nat.le_of_ble_eq_true rfl) dX0_locate_209 h24 (fun H locs hP hS => ?_)
    refine lv_i2s (v := (r11.toInt16.toInt32)) hx hb dX0_locate_212 rfl ?_
    refine lv_iadd hx hb dX0_locate_213 ?_
    obtain ⟨w10, S23, h25, hs⟩ := bd_e hs
    refine kX0_at C tM_X0_78 ⟨Nat.le_of_ble_eq_true rfl, Nat.le_of_ble_eq_true rfl⟩ ⟨Nat.le_of_ble_eq_true rfl, Nat.le_of_ble_eq_true rfl⟩ hK hP hS hl.1 (rest := []) (Nat.le_of_ble_eq_true rfl) dX0_locate_214 h25 (fun H locs hP hS => ?_)
    exact u_lret hx hb hr hlocks hP hS hs dX0_locate_217
  have hs := if_f c10 hs
  by_cases c11 : r2 = 10
  · have hs := if_t c11 hs
    refine u_table (k := 10) (a := 10) (off := 187) (tgt := 218) hx hb dX0_locate_31 c11 (by decide) (by decide) (by decide) (by decide) (by decide) ?_
    refine lv_aload_n hx hb dX0_locate_218 rfl (lv_at hl 3 rfl) ?_
    refine lv_iload hx hb dX0_locate_219 (lv_at hl 0 rfl) ?_
    refine lv_aload_n hx hb dX0_locate_221 rfl (lv_at hl 3 rfl) ?_
    obtain ⟨r12, S24, h26, hs⟩ := bd_e hs
    refine kX0_nextWord C tM_X0_44 ⟨Nat.le_of_ble_eq_true rfl, Nat.le_of_ble_eq_true rfl⟩ ⟨Nat.le_of_ble_eq_true rfl, Nat.le_of_ble_eq_true rfl⟩ hK hP hS hl.1 (rest := [.int v2, .ref (ad 3)]) (Nat.le_of_ble_eq_true rfl) dX0_locate_222 h26 (fun H locs hP hS => ?_)
    obtain ⟨r13, S25, h27, hs⟩ := bd_e hs
    refine kX0_indexed C tM_X0_89 ⟨Nat.le_of_ble_eq_true rfl, Nat.le_of_ble_eq_true rfl⟩ ⟨Nat.le_of_ble_eq_true rfl, Nat.le_of_ble_eq_true rfl⟩ hK hP hS hl.1 (rest := []) (Nat.le_of_ble_eq_true rfl) dX0_locate_225 h27 (fun H locs hP hS => ?_)
    obtain ⟨w11, S26, h28, hs⟩ := bd_e hs
    refine kX0_at C tM_X0_78 ⟨Nat.le_of_ble_eq_true rfl, Nat.le_of_ble_eq_true rfl⟩ ⟨Nat.le_of_ble_eq_true rfl, Nat.le_of_ble_eq_true rfl⟩ hK hP hS hl.1 (rest := []) (Nat.le_of_ble_eq_true rfl) dX0_locate_228 h28 (fun H locs hP hS => ?_)
    exact u_lret hx hb hr hlocks hP hS hs dX0_locate_231
  have hs := if_f c11 hs
  refine u_tableD (tgt := 232) hx hb dX0_locate_31 (fun hlo hhi => ?_) (by decide) ?_
  · have hz : (r2).toInt = 0 ∨ (r2).toInt = 1 ∨ (r2).toInt = 2 ∨ (r2).toInt = 3 ∨ (r2).toInt = 4 ∨ (r2).toInt = 5 ∨ (r2).toInt = 6 ∨ (r2).toInt = 7 ∨ (r2).toInt = 8 ∨ (r2).toInt = 9 ∨ (r2).toInt = 10 := by omega
    rcases hz with hz | hz | hz | hz | hz | hz | hz | hz | hz | hz | hz
    · exact absurd hz (lv_neT c1 (by decide))
    · exact absurd hz (lv_neT c2 (by decide))
    · exact absurd hz (lv_neT c3 (by decide))
    · exact absurd hz (lv_neT c4 (by decide))
    · exact absurd hz (lv_neT c5 (by decide))
    · exact absurd hz (lv_neT c6 (by decide))
    · exact absurd hz (lv_neT c7 (by decide))
    · exact absurd hz (lv_neT c8 (by decide))
    · exact absurd hz (lv_neT c9 (by decide))
    · exact absurd hz (lv_neT c10 (by decide))
    · exact absurd hz (lv_neT c11 (by decide))
  refine lv_aload_n hx hb dX0_locate_232 rfl (lv_at hl 3 rfl) ?_
  refine gB_X0_registers hx hb hT hown hK hP (hT _ tF_X0_15) dX0_locate_233 ?_
  refine lv_dup hx hb dX0_locate_236 rfl ?_
  refine gB_X4_pc hx hb hT hown hK hP (hT _ tF_X0_35) dX0_locate_237 ?_
  refine lv_aload_n hx hb dX0_locate_240 rfl (lv_at hl 4 rfl) ?_
  refine gS_LONG hx hb hown hK hS (hT _ tF_X0_54) dX0_locate_241 ?_
  refine jn_e hs (fun K1 => ∀ (v3 : Int32) (H : Heap) (locs : List Loc) (ls : Array Slot), lv_has ls 6 [(5, .int v2), (1, .ref (en t1))] → va_P D vwCl (wB ad cI cB S2) H → va_S (AX 10 ad s.heap.size) s.heap H locs → K1 v3 = some (ro, So) → W p l e rmX0_locate s m ([.ref (ad 3), .ref (en t1), .int x2] : List Value).toArray below meth c H locs 0 0 (MQ below (uQ D (wB ad cI cB) (some (.long ro), So) (AX 10 ad s.heap.size)) ([.ref (ad 3), .ref (en t1), .int x2] : List Value).toArray s 0 0 (AX 10 ad s.heap.size)) (F0 m 252 ls [.int v3, .int (S2.1 2), .ref (ad 2)])) ?_ (fun K1 J1 hs => ?_)
  · intro v3 H locs ls hl hP hS hs
    refine lv_iadd hx hb dX0_locate_252 ?_
    obtain ⟨S27, h29, hs⟩ := lt_e hs
    refine pB_X4_pc hx hb hT hown hK hP hS (hT _ tF_X0_35) dX0_locate_253 (v := ((S2.1 2) + v3)) h29 (fun H locs hP hS => ?_)
    refine lv_aload_n hx hb dX0_locate_256 rfl (lv_at hl 1 rfl) ?_
    refine gS_BYTE hx hb hown hK hS (hT _ tF_X0_26) dX0_locate_257 ?_
    refine jn_e hs (fun K2 => ∀ (v4 : Int32) (H : Heap) (locs : List Loc) (ls : Array Slot), lv_has ls 6 [] → va_P D vwCl (wB ad cI cB S27) H → va_S (AX 10 ad s.heap.size) s.heap H locs → K2 v4 = some (ro, So) → W p l e rmX0_locate s m ([.ref (ad 3), .ref (en t1), .int x2] : List Value).toArray below meth c H locs 0 0 (MQ below (uQ D (wB ad cI cB) (some (.long ro), So) (AX 10 ad s.heap.size)) ([.ref (ad 3), .ref (en t1), .int x2] : List Value).toArray s 0 0 (AX 10 ad s.heap.size)) (F0 m 272 ls [.int v4])) ?_ (fun K2 J2 hs => ?_)
    · intro v4 H locs ls hl hP hS hs
      obtain ⟨w12, S28, h30, hs⟩ := bd_e hs
      refine kX0_at C tM_X0_78 ⟨Nat.le_of_ble_eq_true rfl, Nat.le_of_ble_eq_true rfl⟩ ⟨Nat.le_of_ble_eq_true rfl, Nat.le_of_ble_eq_true rfl⟩ hK hP hS hl.1 (rest := []) (Nat.le_of_ble_eq_true rfl) dX0_locate_272 h30 (fun H locs hP hS => ?_)
      exact u_lret hx hb hr hlocks hP hS hs dX0_locate_275
    ·
      refine u_acmp_ne (tgt := 270) hx hb hK ht1 (by decide) dX0_locate_260 (by decide) (fun c12 => ?_) (fun c12 => ?_)
      · have hs := if_f c12 hs
        refine lv_iload hx hb dX0_locate_270 (lv_at hl 0 rfl) ?_
        exact J2 v2 _ _ _ (lv_sub hl [] rfl) hP hS hs
      · have hs := if_t c12 hs
        refine lv_iload hx hb dX0_locate_263 (lv_at hl 0 rfl) ?_
        refine lv_iconst (v := 1) hx hb dX0_locate_265 (by decide) ?_
        refine lv_iadd hx hb dX0_locate_266 ?_
        refine lv_goto (tgt := 272) hx hb dX0_locate_267 (by decide) ?_
        exact J2 (v2 + 1) _ _ _ (lv_sub hl [] rfl) hP hS hs
  ·
    refine u_acmp_ne (tgt := 251) hx hb hK ht1 (by decide) dX0_locate_244 (by decide) (fun c13 => ?_) (fun c13 => ?_)
    · have hs := if_f c13 hs
      refine lv_iconst (v := 2) hx hb dX0_locate_251 (by decide) ?_
      exact J1 2 _ _ _ (lv_sub hl [0, 4] rfl) hP hS hs
    · have hs := if_t c13 hs
      refine lv_iconst (v := 4) hx hb dX0_locate_247 (by decide) ?_
      refine lv_goto (tgt := 252) hx hb dX0_locate_248 (by decide) ?_
      exact J1 4 _ _ _ (lv_sub hl [0, 4] rfl) hP hS hs
theorem kX0_locate {p : Program} {l : Launch} {e : Env} {R : Room} {s : State} {m : MethodId} {args : Array Value} {below : List Frame} {meth : Method} {c : Code} {H : Heap} {locs : List Loc} {cells slots : Nat} {Q : State → Prop} {cc : ByteArray} {pc nL : Nat} {ls : Array Slot} {rest : List Value} {D : va_G} {ad : Nat → Nat} {cI cB : ClassId} {en : Nat → Nat} {S : St} {own : String} {index : Nat} {t1 : Nat} {x2 : Int32} {ro : Int64} {So : St} (C : CallFix p m c cc nL s args wG own) (hlk : Cond.methodLink own index yX0_locate ∈ wG) (hR : rmX0_locate.frames + 1 ≤ R.frames ∧ 8 + (6 + 11) + rmX0_locate.locals ≤ R.locals) (hc : cells ≤ R.cells ∧ slots ≤ R.slots) (hK : KB D ad cI cB en s) (hP : va_P D vwCl (wB ad cI cB S) H) (hS : va_S (AX 10 ad s.heap.size) s.heap H locs) (hls : ls.size = nL) (hrest : (rest.map fun v => v.category).sum ≤ 8) (hd : decode cc pc = .ok (.invokevirtual index, 3)) (hs : fX0_locate t1 x2 S = some (ro, So)) (k : ∀ (H : Heap) (locs : List Loc), va_P D vwCl (wB ad cI cB So) H → va_S (AX 10 ad s.heap.size) s.heap H locs → W p l e R s m args below meth c H locs cells slots Q (F0 m (pc + 3) ls (.long ro :: rest))) : W p l e R s m args below meth c H locs cells slots Q (F0 m pc ls (.int x2 :: .ref (en t1) :: .ref (ad 3) :: rest)) :=
  u_callV (n := 2) (mX0_locate l D ad cI cB en S t1 x2 ro So hs) C uK_B (wg_V hlk tI_X0_locate tS_X0_locate tN_X0 tK_X0_locate) rfl rfl rfl (by decide +kernel) hR rfl (va_recv hK.1 hP (ci := 0) (q0 := 3) rfl rfl) hK hP hS hls hrest hd hc rfl k
def fX0_load (t1 : Nat) (y2 : Int64) (S : St) : Option (Int32 × St) :=
    (gd (t1 < 3) (if 0 ≤ (lg_cmp y2 0) then (bd (fX0_loadAt t1 (y2.toInt32) S) fun r1 S1 => (some (r1, S1)))
    else (bd (fX4_get (((-1 : Int64) - y2).toInt32) S) fun r2 S2 => (some ((r2 &&& (szM t1)), S2)))))
abbrev rmX0_load : Room := { frames := 2, cells := 0, slots := 0, locals := 46 }
set_option maxRecDepth 100000 in
set_option maxHeartbeats 4000000 in
theorem mX0_load (l : Launch) (D : va_G) (ad : Nat → Nat) (cI cB : ClassId) (en : Nat → Nat) (S : St) (t1 : Nat) (y2 : Int64) (ro : Int32) (So : St) (hs : fX0_load t1 y2 S = some (ro, So)) : uM l yX0_load (wg yX0_load cX0_load 4 (some .int)) rmX0_load (KB D ad cI cB en) D (wB ad cI cB) (AX 10 ad) [.ref (ad 3), .ref (en t1), .long y2] S (some (.int ro), So) := by
  refine uM_start (by decide) rfl ?_
  intro p e s m below meth c hx hb hr hlocks hml hown hts hK hP
  have hT : ∀ w ∈ wG, w.before _ s = true := fun w h => hts w (List.mem_cons_of_mem _ h)
  have hS : va_S (AX 10 ad s.heap.size) s.heap s.heap [] := va_S.rf
  have hown : s.vm.findClass RX0 = some m.cls := hown
  have C : CallFix p m c cX0_load 4 s _ wG RX0 := ⟨hx, hb, hml, hown, hT⟩
  have hl := lv_entry ([.ref (ad 3), .ref (en t1), .long y2]) (n := 4) (Nat.le_of_ble_eq_true rfl)
  rw [lg_entry_eq]
  generalize (lg_sl ([.ref (ad 3), .ref (en t1), .long y2]) ++ List.replicate (4 - (lg_sl ([.ref (ad 3), .ref (en t1), .long y2])).length) Slot.unset).toArray = ls at hl ⊢
  have hl : lv_has ls 4 [(0, .ref (ad 3)), (1, .ref (en t1)), (2, .long y2)] := hl
  unfold fX0_load at hs
  obtain ⟨ht1, hs⟩ := gd_e hs
  refine lv_lload_n hx hb dX0_load_0 rfl (lv_at hl 2 rfl) ?_
  refine lv_lconst (v := 0) hx hb dX0_load_1 (by decide) ?_
  refine W.lcmp hx hb dX0_load_2 ?_
  refine lv_if_ge (tgt := 25) hx hb dX0_load_3 (by decide) (fun c1 => ?_) (fun c1 => ?_)
  · have hs := if_t c1 hs
    refine lv_aload_n hx hb dX0_load_25 rfl (lv_at hl 0 rfl) ?_
    refine lv_aload_n hx hb dX0_load_26 rfl (lv_at hl 1 rfl) ?_
    refine lv_lload_n hx hb dX0_load_27 rfl (lv_at hl 2 rfl) ?_
    refine lv_l2i (v := (y2.toInt32)) hx hb dX0_load_28 rfl ?_
    obtain ⟨r1, S1, h1, hs⟩ := bd_e hs
    refine kX0_loadAt C tM_X0_95 ⟨Nat.le_of_ble_eq_true rfl, Nat.le_of_ble_eq_true rfl⟩ ⟨Nat.le_of_ble_eq_true rfl, Nat.le_of_ble_eq_true rfl⟩ hK hP hS hl.1 (rest := []) (Nat.le_of_ble_eq_true rfl) dX0_load_29 h1 (fun H locs hP hS => ?_)
    exact u_iret hx hb hr hlocks hP hS hs dX0_load_32
  · have hs := if_f c1 hs
    refine lv_aload_n hx hb dX0_load_6 rfl (lv_at hl 0 rfl) ?_
    refine gB_X0_registers hx hb hT hown hK hP (hT _ tF_X0_15) dX0_load_7 ?_
    refine lv_ldc2 (v := (-1 : Int64)) hx hb hown (hT _ tC_X0_63) dX0_load_10 ?_
    refine lv_lload_n hx hb dX0_load_13 rfl (lv_at hl 2 rfl) ?_
    refine lv_lsub hx hb dX0_load_14 ?_
    refine lv_l2i (v := (((-1 : Int64) - y2).toInt32)) hx hb dX0_load_15 rfl ?_
    obtain ⟨r2, S2, h2, hs⟩ := bd_e hs
    refine kX4_get C tM_X0_67 ⟨Nat.le_of_ble_eq_true rfl, Nat.le_of_ble_eq_true rfl⟩ ⟨Nat.le_of_ble_eq_true rfl, Nat.le_of_ble_eq_true rfl⟩ hK hP hS hl.1 (rest := []) (Nat.le_of_ble_eq_true rfl) dX0_load_16 h2 (fun H locs hP hS => ?_)
    refine lv_aload_n hx hb dX0_load_19 rfl (lv_at hl 1 rfl) ?_
    refine gE_mask hx hb hown hK hS ht1 (hT _ tF_X0_60) dX0_load_20 ?_
    refine lv_iand hx hb dX0_load_23 ?_
    exact u_iret hx hb hr hlocks hP hS hs dX0_load_24
theorem kX0_load {p : Program} {l : Launch} {e : Env} {R : Room} {s : State} {m : MethodId} {args : Array Value} {below : List Frame} {meth : Method} {c : Code} {H : Heap} {locs : List Loc} {cells slots : Nat} {Q : State → Prop} {cc : ByteArray} {pc nL : Nat} {ls : Array Slot} {rest : List Value} {D : va_G} {ad : Nat → Nat} {cI cB : ClassId} {en : Nat → Nat} {S : St} {own : String} {index : Nat} {t1 : Nat} {y2 : Int64} {ro : Int32} {So : St} (C : CallFix p m c cc nL s args wG own) (hlk : Cond.methodLink own index yX0_load ∈ wG) (hR : rmX0_load.frames + 1 ≤ R.frames ∧ 8 + (4 + 11) + rmX0_load.locals ≤ R.locals) (hc : cells ≤ R.cells ∧ slots ≤ R.slots) (hK : KB D ad cI cB en s) (hP : va_P D vwCl (wB ad cI cB S) H) (hS : va_S (AX 10 ad s.heap.size) s.heap H locs) (hls : ls.size = nL) (hrest : (rest.map fun v => v.category).sum ≤ 8) (hd : decode cc pc = .ok (.invokevirtual index, 3)) (hs : fX0_load t1 y2 S = some (ro, So)) (k : ∀ (H : Heap) (locs : List Loc), va_P D vwCl (wB ad cI cB So) H → va_S (AX 10 ad s.heap.size) s.heap H locs → W p l e R s m args below meth c H locs cells slots Q (F0 m (pc + 3) ls (.int ro :: rest))) : W p l e R s m args below meth c H locs cells slots Q (F0 m pc ls (.long y2 :: .ref (en t1) :: .ref (ad 3) :: rest)) :=
  u_callV (n := 2) (mX0_load l D ad cI cB en S t1 y2 ro So hs) C uK_B (wg_V hlk tI_X0_load tS_X0_load tN_X0 tK_X0_load) rfl rfl rfl (by decide +kernel) hR rfl (va_recv hK.1 hP (ci := 0) (q0 := 3) rfl rfl) hK hP hS hls hrest hd hc rfl k
def fX0_store (t1 : Nat) (y2 : Int64) (x4 : Int32) (S : St) : Option St :=
    (gd (t1 < 3) (if 0 ≤ (lg_cmp y2 0) then (bv (fX0_storeAt t1 (y2.toInt32) x4 S) fun S1 => (some S1))
    else (lt ((((-1 : Int64) - y2).toInt32) : Int32) fun v1 => (bd (fX4_get v1 S) fun r1 S2 => (bv (fX4_set v1 ((r1 &&& ((szM t1) ^^^ (-1 : Int32))) ||| (x4 &&& (szM t1))) S2) fun S3 => (some S3))))))
abbrev rmX0_store : Room := { frames := 2, cells := 0, slots := 0, locals := 48 }
set_option maxRecDepth 100000 in
set_option maxHeartbeats 4000000 in
theorem mX0_store (l : Launch) (D : va_G) (ad : Nat → Nat) (cI cB : ClassId) (en : Nat → Nat) (S : St) (t1 : Nat) (y2 : Int64) (x4 : Int32) (So : St) (hs : fX0_store t1 y2 x4 S = some So) : uM l yX0_store (wg yX0_store cX0_store 6 none) rmX0_store (KB D ad cI cB en) D (wB ad cI cB) (AX 10 ad) [.ref (ad 3), .ref (en t1), .long y2, .int x4] S (none, So) := by
  refine uM_start (by decide) rfl ?_
  intro p e s m below meth c hx hb hr hlocks hml hown hts hK hP
  have hT : ∀ w ∈ wG, w.before _ s = true := fun w h => hts w (List.mem_cons_of_mem _ h)
  have hS : va_S (AX 10 ad s.heap.size) s.heap s.heap [] := va_S.rf
  have hown : s.vm.findClass RX0 = some m.cls := hown
  have C : CallFix p m c cX0_store 6 s _ wG RX0 := ⟨hx, hb, hml, hown, hT⟩
  have hl := lv_entry ([.ref (ad 3), .ref (en t1), .long y2, .int x4]) (n := 6) (Nat.le_of_ble_eq_true rfl)
  rw [lg_entry_eq]
  generalize (lg_sl ([.ref (ad 3), .ref (en t1), .long y2, .int x4]) ++ List.replicate (6 - (lg_sl ([.ref (ad 3), .ref (en t1), .long y2, .int x4])).length) Slot.unset).toArray = ls at hl ⊢
  have hl : lv_has ls 6 [(0, .ref (ad 3)), (1, .ref (en t1)), (2, .long y2), (4, .int x4)] := hl
  unfold fX0_store at hs
  obtain ⟨ht1, hs⟩ := gd_e hs
  refine lv_lload_n hx hb dX0_store_0 rfl (lv_at hl 2 rfl) ?_
  refine lv_lconst (v := 0) hx hb dX0_store_1 (by decide) ?_
  refine W.lcmp hx hb dX0_store_2 ?_
  refine lv_if_ge (tgt := 50) hx hb dX0_store_3 (by decide) (fun c1 => ?_) (fun c1 => ?_)
  · have hs := if_t c1 hs
    refine lv_aload_n hx hb dX0_store_50 rfl (lv_at hl 0 rfl) ?_
    refine lv_aload_n hx hb dX0_store_51 rfl (lv_at hl 1 rfl) ?_
    refine lv_lload_n hx hb dX0_store_52 rfl (lv_at hl 2 rfl) ?_
    refine lv_l2i (v := (y2.toInt32)) hx hb dX0_store_53 rfl ?_
    refine lv_iload hx hb dX0_store_54 (lv_at hl 3 rfl) ?_
    obtain ⟨S1, h1, hs⟩ := bv_e hs
    refine kX0_storeAt C tM_X0_98 ⟨Nat.le_of_ble_eq_true rfl, Nat.le_of_ble_eq_true rfl⟩ ⟨Nat.le_of_ble_eq_true rfl, Nat.le_of_ble_eq_true rfl⟩ hK hP hS hl.1 (rest := []) (Nat.le_of_ble_eq_true rfl) dX0_store_56 h1 (fun H locs hP hS => ?_)
    exact u_vret hx hb hr hlocks hP hS hs dX0_store_59
  · have hs := if_f c1 hs
    refine lv_ldc2 (v := (-1 : Int64)) hx hb hown (hT _ tC_X0_63) dX0_store_6 ?_
    refine lv_lload_n hx hb dX0_store_9 rfl (lv_at hl 2 rfl) ?_
    refine lv_lsub hx hb dX0_store_10 ?_
    refine lv_l2i (v := (((-1 : Int64) - y2).toInt32)) hx hb dX0_store_11 rfl ?_
    obtain ⟨v1, h2, hs⟩ := lt_e hs
    refine u_top h2 ?_
    refine lv_istore (lv' := [(5, .int v1), (0, .ref (ad 3)), (1, .ref (en t1)), (2, .long y2), (4, .int x4)]) hx hb dX0_store_12 hl (by decide) rfl (fun ls hl => ?_)
    refine lv_aload_n hx hb dX0_store_14 rfl (lv_at hl 1 rfl) ?_
    refine gB_X0_registers hx hb hT hown hK hP (hT _ tF_X0_15) dX0_store_15 ?_
    refine lv_iload hx hb dX0_store_18 (lv_at hl 0 rfl) ?_
    refine lv_aload_n hx hb dX0_store_20 rfl (lv_at hl 1 rfl) ?_
    refine gB_X0_registers hx hb hT hown hK hP (hT _ tF_X0_15) dX0_store_21 ?_
    refine lv_iload hx hb dX0_store_24 (lv_at hl 0 rfl) ?_
    obtain ⟨r1, S2, h3, hs⟩ := bd_e hs
    refine kX4_get C tM_X0_67 ⟨Nat.le_of_ble_eq_true rfl, Nat.le_of_ble_eq_true rfl⟩ ⟨Nat.le_of_ble_eq_true rfl, Nat.le_of_ble_eq_true rfl⟩ hK hP hS hl.1 (rest := [.int v1, .ref (ad 2)]) (Nat.le_of_ble_eq_true rfl) dX0_store_26 h3 (fun H locs hP hS => ?_)
    refine lv_aload_n hx hb dX0_store_29 rfl (lv_at hl 2 rfl) ?_
    refine gE_mask hx hb hown hK hS ht1 (hT _ tF_X0_60) dX0_store_30 ?_
    refine lv_iconst (v := (-1 : Int32)) hx hb dX0_store_33 (by decide) ?_
    refine lv_ixor hx hb dX0_store_34 ?_
    refine lv_iand hx hb dX0_store_35 ?_
    refine lv_iload hx hb dX0_store_36 (lv_at hl 4 rfl) ?_
    refine lv_aload_n hx hb dX0_store_38 rfl (lv_at hl 2 rfl) ?_
    refine gE_mask hx hb hown hK hS ht1 (hT _ tF_X0_60) dX0_store_39 ?_
    refine lv_iand hx hb dX0_store_42 ?_
    refine lv_ior hx hb dX0_store_43 ?_
    obtain ⟨S3, h4, hs⟩ := bv_e hs
    refine kX4_set C tM_X0_85 ⟨Nat.le_of_ble_eq_true rfl, Nat.le_of_ble_eq_true rfl⟩ ⟨Nat.le_of_ble_eq_true rfl, Nat.le_of_ble_eq_true rfl⟩ hK hP hS hl.1 (rest := []) (Nat.le_of_ble_eq_true rfl) dX0_store_44 h4 (fun H locs hP hS => ?_)
    refine lv_goto (tgt := 59) hx hb dX0_store_47 (by decide) ?_
    exact u_vret hx hb hr hlocks hP hS hs dX0_store_59
theorem kX0_store {p : Program} {l : Launch} {e : Env} {R : Room} {s : State} {m : MethodId} {args : Array Value} {below : List Frame} {meth : Method} {c : Code} {H : Heap} {locs : List Loc} {cells slots : Nat} {Q : State → Prop} {cc : ByteArray} {pc nL : Nat} {ls : Array Slot} {rest : List Value} {D : va_G} {ad : Nat → Nat} {cI cB : ClassId} {en : Nat → Nat} {S : St} {own : String} {index : Nat} {t1 : Nat} {y2 : Int64} {x4 : Int32} {So : St} (C : CallFix p m c cc nL s args wG own) (hlk : Cond.methodLink own index yX0_store ∈ wG) (hR : rmX0_store.frames + 1 ≤ R.frames ∧ 8 + (6 + 11) + rmX0_store.locals ≤ R.locals) (hc : cells ≤ R.cells ∧ slots ≤ R.slots) (hK : KB D ad cI cB en s) (hP : va_P D vwCl (wB ad cI cB S) H) (hS : va_S (AX 10 ad s.heap.size) s.heap H locs) (hls : ls.size = nL) (hrest : (rest.map fun v => v.category).sum ≤ 8) (hd : decode cc pc = .ok (.invokevirtual index, 3)) (hs : fX0_store t1 y2 x4 S = some So) (k : ∀ (H : Heap) (locs : List Loc), va_P D vwCl (wB ad cI cB So) H → va_S (AX 10 ad s.heap.size) s.heap H locs → W p l e R s m args below meth c H locs cells slots Q (F0 m (pc + 3) ls (rest))) : W p l e R s m args below meth c H locs cells slots Q (F0 m pc ls (.int x4 :: .long y2 :: .ref (en t1) :: .ref (ad 3) :: rest)) :=
  u_callV (n := 3) (mX0_store l D ad cI cB en S t1 y2 x4 So hs) C uK_B (wg_V hlk tI_X0_store tS_X0_store tN_X0 tK_X0_store) rfl rfl rfl (by decide +kernel) hR rfl (va_recv hK.1 hP (ci := 0) (q0 := 3) rfl rfl) hK hP hS hls hrest hd hc rfl k
def fX0_immediate (t1 : Nat) (S : St) : Option (Int32 × St) :=
    (gd (t1 < 3) (if t1 = 2 then (bd (fX0_nextLong S) fun r2 S2 => (some (r2, S2)))
    else (bd (fX0_nextWord S) fun r1 S1 => (some ((r1 &&& (szM t1)), S1)))))
abbrev rmX0_immediate : Room := { frames := 2, cells := 0, slots := 0, locals := 45 }
set_option maxRecDepth 100000 in
set_option maxHeartbeats 4000000 in
theorem mX0_immediate (l : Launch) (D : va_G) (ad : Nat → Nat) (cI cB : ClassId) (en : Nat → Nat) (S : St) (t1 : Nat) (ro : Int32) (So : St) (hs : fX0_immediate t1 S = some (ro, So)) : uM l yX0_immediate (wg yX0_immediate cX0_immediate 2 (some .int)) rmX0_immediate (KB D ad cI cB en) D (wB ad cI cB) (AX 10 ad) [.ref (ad 3), .ref (en t1)] S (some (.int ro), So) := by
  refine uM_start (by decide) rfl ?_
  intro p e s m below meth c hx hb hr hlocks hml hown hts hK hP
  have hT : ∀ w ∈ wG, w.before _ s = true := fun w h => hts w (List.mem_cons_of_mem _ h)
  have hS : va_S (AX 10 ad s.heap.size) s.heap s.heap [] := va_S.rf
  have hown : s.vm.findClass RX0 = some m.cls := hown
  have C : CallFix p m c cX0_immediate 2 s _ wG RX0 := ⟨hx, hb, hml, hown, hT⟩
  have hl := lv_entry ([.ref (ad 3), .ref (en t1)]) (n := 2) (Nat.le_of_ble_eq_true rfl)
  rw [lg_entry_eq]
  generalize (lg_sl ([.ref (ad 3), .ref (en t1)]) ++ List.replicate (2 - (lg_sl ([.ref (ad 3), .ref (en t1)])).length) Slot.unset).toArray = ls at hl ⊢
  have hl : lv_has ls 2 [(0, .ref (ad 3)), (1, .ref (en t1))] := hl
  unfold fX0_immediate at hs
  obtain ⟨ht1, hs⟩ := gd_e hs
  refine lv_aload_n hx hb dX0_immediate_0 rfl (lv_at hl 1 rfl) ?_
  refine gS_LONG hx hb hown hK hS (hT _ tF_X0_54) dX0_immediate_1 ?_
  refine u_acmp_ne (tgt := 14) hx hb hK ht1 (by decide) dX0_immediate_4 (by decide) (fun c1 => ?_) (fun c1 => ?_)
  · have hs := if_f c1 hs
    refine lv_aload_n hx hb dX0_immediate_14 rfl (lv_at hl 0 rfl) ?_
    obtain ⟨r1, S1, h1, hs⟩ := bd_e hs
    refine kX0_nextWord C tM_X0_44 ⟨Nat.le_of_ble_eq_true rfl, Nat.le_of_ble_eq_true rfl⟩ ⟨Nat.le_of_ble_eq_true rfl, Nat.le_of_ble_eq_true rfl⟩ hK hP hS hl.1 (rest := []) (Nat.le_of_ble_eq_true rfl) dX0_immediate_15 h1 (fun H locs hP hS => ?_)
    refine lv_aload_n hx hb dX0_immediate_18 rfl (lv_at hl 1 rfl) ?_
    refine gE_mask hx hb hown hK hS ht1 (hT _ tF_X0_60) dX0_immediate_19 ?_
    refine lv_iand hx hb dX0_immediate_22 ?_
    exact u_iret hx hb hr hlocks hP hS hs dX0_immediate_23
  · have hs := if_t c1 hs
    refine lv_aload_n hx hb dX0_immediate_7 rfl (lv_at hl 0 rfl) ?_
    obtain ⟨r2, S2, h2, hs⟩ := bd_e hs
    refine kX0_nextLong C tM_X0_57 ⟨Nat.le_of_ble_eq_true rfl, Nat.le_of_ble_eq_true rfl⟩ ⟨Nat.le_of_ble_eq_true rfl, Nat.le_of_ble_eq_true rfl⟩ hK hP hS hl.1 (rest := []) (Nat.le_of_ble_eq_true rfl) dX0_immediate_8 h2 (fun H locs hP hS => ?_)
    refine lv_goto (tgt := 23) hx hb dX0_immediate_11 (by decide) ?_
    exact u_iret hx hb hr hlocks hP hS hs dX0_immediate_23
theorem kX0_immediate {p : Program} {l : Launch} {e : Env} {R : Room} {s : State} {m : MethodId} {args : Array Value} {below : List Frame} {meth : Method} {c : Code} {H : Heap} {locs : List Loc} {cells slots : Nat} {Q : State → Prop} {cc : ByteArray} {pc nL : Nat} {ls : Array Slot} {rest : List Value} {D : va_G} {ad : Nat → Nat} {cI cB : ClassId} {en : Nat → Nat} {S : St} {own : String} {index : Nat} {t1 : Nat} {ro : Int32} {So : St} (C : CallFix p m c cc nL s args wG own) (hlk : Cond.methodLink own index yX0_immediate ∈ wG) (hR : rmX0_immediate.frames + 1 ≤ R.frames ∧ 8 + (2 + 11) + rmX0_immediate.locals ≤ R.locals) (hc : cells ≤ R.cells ∧ slots ≤ R.slots) (hK : KB D ad cI cB en s) (hP : va_P D vwCl (wB ad cI cB S) H) (hS : va_S (AX 10 ad s.heap.size) s.heap H locs) (hls : ls.size = nL) (hrest : (rest.map fun v => v.category).sum ≤ 8) (hd : decode cc pc = .ok (.invokevirtual index, 3)) (hs : fX0_immediate t1 S = some (ro, So)) (k : ∀ (H : Heap) (locs : List Loc), va_P D vwCl (wB ad cI cB So) H → va_S (AX 10 ad s.heap.size) s.heap H locs → W p l e R s m args below meth c H locs cells slots Q (F0 m (pc + 3) ls (.int ro :: rest))) : W p l e R s m args below meth c H locs cells slots Q (F0 m pc ls (.ref (en t1) :: .ref (ad 3) :: rest)) :=
  u_callV (n := 1) (mX0_immediate l D ad cI cB en S t1 ro So hs) C uK_B (wg_V hlk tI_X0_immediate tS_X0_immediate tN_X0 tK_X0_immediate) rfl rfl rfl (by decide +kernel) hR rfl (va_recv hK.1 hP (ci := 0) (q0 := 3) rfl rfl) hK hP hS hls hrest hd hc rfl k
def fX0_pop (t1 : Nat) (S : St) : Option (Int32 × St) :=
    (gd (t1 < 3) (bd (fX4_get 15 S) fun r1 S1 => (bv (fX4_set 15 (r1 + (szB t1)) S1) fun S2 => (bd (fX0_refuses t1 r1 S2) fun b1 S3 => (if (zI b1) = 0 then (bd (fX3_load r1 (szB t1) S3) fun r2 S4 => (some (r2, S4)))
    else (some (0, S3)))))))
abbrev rmX0_pop : Room := { frames := 1, cells := 0, slots := 0, locals := 24 }
set_option maxRecDepth 100000 in
set_option maxHeartbeats 4000000 in
theorem mX0_pop (l : Launch) (D : va_G) (ad : Nat → Nat) (cI cB : ClassId) (en : Nat → Nat) (S : St) (t1 : Nat) (ro : Int32) (So : St) (hs : fX0_pop t1 S = some (ro, So)) : uM l yX0_pop (wg yX0_pop cX0_pop 3 (some .int)) rmX0_pop (KB D ad cI cB en) D (wB ad cI cB) (AX 10 ad) [.ref (ad 3), .ref (en t1)] S (some (.int ro), So) := by
  refine uM_start (by decide) rfl ?_
  intro p e s m below meth c hx hb hr hlocks hml hown hts hK hP
  have hT : ∀ w ∈ wG, w.before _ s = true := fun w h => hts w (List.mem_cons_of_mem _ h)
  have hS : va_S (AX 10 ad s.heap.size) s.heap s.heap [] := va_S.rf
  have hown : s.vm.findClass RX0 = some m.cls := hown
  have C : CallFix p m c cX0_pop 3 s _ wG RX0 := ⟨hx, hb, hml, hown, hT⟩
  have hl := lv_entry ([.ref (ad 3), .ref (en t1)]) (n := 3) (Nat.le_of_ble_eq_true rfl)
  rw [lg_entry_eq]
  generalize (lg_sl ([.ref (ad 3), .ref (en t1)]) ++ List.replicate (3 - (lg_sl ([.ref (ad 3), .ref (en t1)])).length) Slot.unset).toArray = ls at hl ⊢
  have hl : lv_has ls 3 [(0, .ref (ad 3)), (1, .ref (en t1))] := hl
  unfold fX0_pop at hs
  obtain ⟨ht1, hs⟩ := gd_e hs
  refine lv_aload_n hx hb dX0_pop_0 rfl (lv_at hl 0 rfl) ?_
  refine gB_X0_registers hx hb hT hown hK hP (hT _ tF_X0_15) dX0_pop_1 ?_
  refine lv_bipush (v := 15) hx hb dX0_pop_4 (by decide) ?_
  obtain ⟨r1, S1, h1, hs⟩ := bd_e hs
  refine kX4_get C tM_X0_67 ⟨Nat.le_of_ble_eq_true rfl, Nat.le_of_ble_eq_true rfl⟩ ⟨Nat.le_of_ble_eq_true rfl, Nat.le_of_ble_eq_true rfl⟩ hK hP hS hl.1 (rest := []) (Nat.le_of_ble_eq_true rfl) dX0_pop_6 h1 (fun H locs hP hS => ?_)
  refine lv_istore_n (lv' := [(2, .int r1), (0, .ref (ad 3)), (1, .ref (en t1))]) hx hb dX0_pop_9 rfl hl (by decide) rfl (fun ls hl => ?_)
  refine lv_aload_n hx hb dX0_pop_10 rfl (lv_at hl 1 rfl) ?_
  refine gB_X0_registers hx hb hT hown hK hP (hT _ tF_X0_15) dX0_pop_11 ?_
  refine lv_bipush (v := 15) hx hb dX0_pop_14 (by decide) ?_
  refine lv_iload_n hx hb dX0_pop_16 rfl (lv_at hl 0 rfl) ?_
  refine lv_aload_n hx hb dX0_pop_17 rfl (lv_at hl 2 rfl) ?_
  refine gE_bytes hx hb hown hK hS ht1 (hT _ tF_X0_92) dX0_pop_18 ?_
  refine lv_iadd hx hb dX0_pop_21 ?_
  obtain ⟨S2, h2, hs⟩ := bv_e hs
  refine kX4_set C tM_X0_85 ⟨Nat.le_of_ble_eq_true rfl, Nat.le_of_ble_eq_true rfl⟩ ⟨Nat.le_of_ble_eq_true rfl, Nat.le_of_ble_eq_true rfl⟩ hK hP hS hl.1 (rest := []) (Nat.le_of_ble_eq_true rfl) dX0_pop_22 h2 (fun H locs hP hS => ?_)
  refine lv_aload_n hx hb dX0_pop_25 rfl (lv_at hl 1 rfl) ?_
  refine lv_aload_n hx hb dX0_pop_26 rfl (lv_at hl 2 rfl) ?_
  refine lv_iload_n hx hb dX0_pop_27 rfl (lv_at hl 0 rfl) ?_
  obtain ⟨b1, S3, h3, hs⟩ := bd_e hs
  refine kX0_refuses C tM_X0_40 ⟨Nat.le_of_ble_eq_true rfl, Nat.le_of_ble_eq_true rfl⟩ ⟨Nat.le_of_ble_eq_true rfl, Nat.le_of_ble_eq_true rfl⟩ hK hP hS hl.1 (rest := []) (Nat.le_of_ble_eq_true rfl) dX0_pop_28 h3 (fun H locs hP hS => ?_)
  refine lv_if_eq (tgt := 38) hx hb dX0_pop_31 (by decide) (fun c1 => ?_) (fun c1 => ?_)
  · have hs := if_t c1 hs
    refine lv_aload_n hx hb dX0_pop_38 rfl (lv_at hl 1 rfl) ?_
    refine gB_X0_memory hx hb hT hown hK hP (hT _ tF_X0_9) dX0_pop_39 ?_
    refine lv_iload_n hx hb dX0_pop_42 rfl (lv_at hl 0 rfl) ?_
    refine lv_aload_n hx hb dX0_pop_43 rfl (lv_at hl 2 rfl) ?_
    refine gE_bytes hx hb hown hK hS ht1 (hT _ tF_X0_92) dX0_pop_44 ?_
    obtain ⟨r2, S4, h4, hs⟩ := bd_e hs
    refine kX3_load C tM_X0_48 ⟨Nat.le_of_ble_eq_true rfl, Nat.le_of_ble_eq_true rfl⟩ ⟨Nat.le_of_ble_eq_true rfl, Nat.le_of_ble_eq_true rfl⟩ hK hP hS hl.1 (rest := []) (Nat.le_of_ble_eq_true rfl) dX0_pop_47 h4 (fun H locs hP hS => ?_)
    exact u_iret hx hb hr hlocks hP hS hs dX0_pop_50
  · have hs := if_f c1 hs
    refine lv_iconst (v := 0) hx hb dX0_pop_34 (by decide) ?_
    refine lv_goto (tgt := 50) hx hb dX0_pop_35 (by decide) ?_
    exact u_iret hx hb hr hlocks hP hS hs dX0_pop_50
theorem kX0_pop {p : Program} {l : Launch} {e : Env} {R : Room} {s : State} {m : MethodId} {args : Array Value} {below : List Frame} {meth : Method} {c : Code} {H : Heap} {locs : List Loc} {cells slots : Nat} {Q : State → Prop} {cc : ByteArray} {pc nL : Nat} {ls : Array Slot} {rest : List Value} {D : va_G} {ad : Nat → Nat} {cI cB : ClassId} {en : Nat → Nat} {S : St} {own : String} {index : Nat} {t1 : Nat} {ro : Int32} {So : St} (C : CallFix p m c cc nL s args wG own) (hlk : Cond.methodLink own index yX0_pop ∈ wG) (hR : rmX0_pop.frames + 1 ≤ R.frames ∧ 8 + (3 + 11) + rmX0_pop.locals ≤ R.locals) (hc : cells ≤ R.cells ∧ slots ≤ R.slots) (hK : KB D ad cI cB en s) (hP : va_P D vwCl (wB ad cI cB S) H) (hS : va_S (AX 10 ad s.heap.size) s.heap H locs) (hls : ls.size = nL) (hrest : (rest.map fun v => v.category).sum ≤ 8) (hd : decode cc pc = .ok (.invokevirtual index, 3)) (hs : fX0_pop t1 S = some (ro, So)) (k : ∀ (H : Heap) (locs : List Loc), va_P D vwCl (wB ad cI cB So) H → va_S (AX 10 ad s.heap.size) s.heap H locs → W p l e R s m args below meth c H locs cells slots Q (F0 m (pc + 3) ls (.int ro :: rest))) : W p l e R s m args below meth c H locs cells slots Q (F0 m pc ls (.ref (en t1) :: .ref (ad 3) :: rest)) :=
  u_callV (n := 1) (mX0_pop l D ad cI cB en S t1 ro So hs) C uK_B (wg_V hlk tI_X0_pop tS_X0_pop tN_X0 tK_X0_pop) rfl rfl rfl (by decide +kernel) hR rfl (va_recv hK.1 hP (ci := 0) (q0 := 3) rfl rfl) hK hP hS hls hrest hd hc rfl k
def fX0_forget  (S : St) : Option St :=
    (lt (sI S 6 0) fun S1 => (lt (sI S1 7 0) fun S2 => (some S2)))
abbrev rmX0_forget : Room := { frames := 0, cells := 0, slots := 0, locals := 0 }
set_option maxRecDepth 100000 in
set_option maxHeartbeats 4000000 in
theorem mX0_forget (l : Launch) (D : va_G) (ad : Nat → Nat) (cI cB : ClassId) (en : Nat → Nat) (S : St)  (So : St) (hs : fX0_forget  S = some So) : uM l yX0_forget (wg yX0_forget cX0_forget 1 none) rmX0_forget (KB D ad cI cB en) D (wB ad cI cB) (AX 10 ad) [.ref (ad 3)] S (none, So) := by
  refine uM_start (by decide) rfl ?_
  intro p e s m below meth c hx hb hr hlocks hml hown hts hK hP
  have hT : ∀ w ∈ wG, w.before _ s = true := fun w h => hts w (List.mem_cons_of_mem _ h)
  have hS : va_S (AX 10 ad s.heap.size) s.heap s.heap [] := va_S.rf
  have hown : s.vm.findClass RX0 = some m.cls := hown
  have C : CallFix p m c cX0_forget 1 s _ wG RX0 := ⟨hx, hb, hml, hown, hT⟩
  have hl := lv_entry ([.ref (ad 3)]) (n := 1) (Nat.le_of_ble_eq_true rfl)
  rw [lg_entry_eq]
  generalize (lg_sl ([.ref (ad 3)]) ++ List.replicate (1 - (lg_sl ([.ref (ad 3)])).length) Slot.unset).toArray = ls at hl ⊢
  have hl : lv_has ls 1 [(0, .ref (ad 3))] := hl
  unfold fX0_forget at hs
  refine lv_aload_n hx hb dX0_forget_0 rfl (lv_at hl 0 rfl) ?_
  refine lv_iconst (v := 0) hx hb dX0_forget_1 (by decide) ?_
  obtain ⟨S1, h1, hs⟩ := lt_e hs
  refine pB_X0_raised hx hb hT hown hK hP hS (hT _ tF_X0_19) dX0_forget_2 (v := 0) h1 (fun H locs hP hS => ?_)
  refine lv_aload_n hx hb dX0_forget_5 rfl (lv_at hl 0 rfl) ?_
  refine lv_iconst (v := 0) hx hb dX0_forget_6 (by decide) ?_
  obtain ⟨S2, h2, hs⟩ := lt_e hs
  refine pB_X0_oddAddress hx hb hT hown hK hP hS (hT _ tF_X0_23) dX0_forget_7 (v := 0) h2 (fun H locs hP hS => ?_)
  exact u_vret hx hb hr hlocks hP hS hs dX0_forget_10
theorem kX0_forget {p : Program} {l : Launch} {e : Env} {R : Room} {s : State} {m : MethodId} {args : Array Value} {below : List Frame} {meth : Method} {c : Code} {H : Heap} {locs : List Loc} {cells slots : Nat} {Q : State → Prop} {cc : ByteArray} {pc nL : Nat} {ls : Array Slot} {rest : List Value} {D : va_G} {ad : Nat → Nat} {cI cB : ClassId} {en : Nat → Nat} {S : St} {own : String} {index : Nat}  {So : St} (C : CallFix p m c cc nL s args wG own) (hlk : Cond.methodLink own index yX0_forget ∈ wG) (hR : rmX0_forget.frames + 1 ≤ R.frames ∧ 8 + (1 + 11) + rmX0_forget.locals ≤ R.locals) (hc : cells ≤ R.cells ∧ slots ≤ R.slots) (hK : KB D ad cI cB en s) (hP : va_P D vwCl (wB ad cI cB S) H) (hS : va_S (AX 10 ad s.heap.size) s.heap H locs) (hls : ls.size = nL) (hrest : (rest.map fun v => v.category).sum ≤ 8) (hd : decode cc pc = .ok (.invokevirtual index, 3)) (hs : fX0_forget  S = some So) (k : ∀ (H : Heap) (locs : List Loc), va_P D vwCl (wB ad cI cB So) H → va_S (AX 10 ad s.heap.size) s.heap H locs → W p l e R s m args below meth c H locs cells slots Q (F0 m (pc + 3) ls (rest))) : W p l e R s m args below meth c H locs cells slots Q (F0 m pc ls (.ref (ad 3) :: rest)) :=
  u_callV (n := 0) (mX0_forget l D ad cI cB en S  So hs) C uK_B (wg_V hlk tI_X0_forget tS_X0_forget tN_X0 tK_X0_forget) rfl rfl rfl (by decide +kernel) hR rfl (va_recv hK.1 hP (ci := 0) (q0 := 3) rfl rfl) hK hP hS hls hrest hd hc rfl k
