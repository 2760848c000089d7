/-! ===== the face where it throws ===== -/
abbrev rmT : Room := { frames := 6, cells := 1, slots := 6, locals := 90 }
abbrev MT (l : Launch) (y : MethodName) (cc : ByteArray) (n : Nat) (r : Option FieldType) (E : String) (As : List Value) : Prop := vx_Met l y (wg y cc n r) rmT (va_Pc As (fun U => EX (fun _ => False) U U.heap)) (fun _ _ _ _ => False) (fun E9 st t => E9 = E ∧ va_F (fun _ => False) st t) 1 6 (fun _ => False)
theorem og_IB_63 : ∀ w ∈ Cond.classLink RX6 61 nIB :: Cond.initialized nIB :: vx_at0 RX6 63 nIB nSup, vx_ot w = true := by decide +kernel
theorem ag_IB63 : ∀ w ∈ (vx_at0 RX6 63 nIB nSup).filter goodWord, w ∈ lw_tbl := by decide +kernel
theorem ab_IB63 : ∀ w ∈ (vx_at0 RX6 63 nIB nSup).filter (fun w => !goodWord w), w ∈ [.castable nIB nIB, .declares (yI0 "java/lang/RuntimeException"), .declares (yI0 "java/lang/Exception"), .declares (yI0 "java/lang/Throwable")] := by decide +kernel
theorem at_IB63 {args : Array Value} {s : State} (hT : ∀ w ∈ wG, w.before args s = true) (h1 : (Cond.castable nIB nIB).before args s = true) (h2 : (Cond.declares (yI0 "java/lang/RuntimeException")).before args s = true) (h3 : (Cond.declares (yI0 "java/lang/Exception")).before args s = true) (h4 : (Cond.declares (yI0 "java/lang/Throwable")).before args s = true) : ∀ w ∈ vx_at0 RX6 63 nIB nSup, w.before args s = true :=
  vx_hat (fun w hw => hT w (wG_of (ag_IB63 w hw) (List.mem_filter.mp hw).2)) ab_IB63 (vx_c h1 (vx_c h2 (vx_c h3 (vx_c h4 vx_n))))
theorem og_IA_90 : ∀ w ∈ Cond.classLink RX6 88 nIA :: Cond.initialized nIA :: vx_at0 RX6 90 nIA nSup, vx_ot w = true := by decide +kernel
theorem ag_IA90 : ∀ w ∈ (vx_at0 RX6 90 nIA nSup).filter goodWord, w ∈ lw_tbl := by decide +kernel
theorem ab_IA90 : ∀ w ∈ (vx_at0 RX6 90 nIA nSup).filter (fun w => !goodWord w), w ∈ [.castable nIA nIA, .declares (yI0 "java/lang/RuntimeException"), .declares (yI0 "java/lang/Exception"), .declares (yI0 "java/lang/Throwable")] := by decide +kernel
theorem at_IA90 {args : Array Value} {s : State} (hT : ∀ w ∈ wG, w.before args s = true) (h1 : (Cond.castable nIA nIA).before args s = true) (h2 : (Cond.declares (yI0 "java/lang/RuntimeException")).before args s = true) (h3 : (Cond.declares (yI0 "java/lang/Exception")).before args s = true) (h4 : (Cond.declares (yI0 "java/lang/Throwable")).before args s = true) : ∀ w ∈ vx_at0 RX6 90 nIA nSup, w.before args s = true :=
  vx_hat (fun w hw => hT w (wG_of (ag_IA90 w hw) (List.mem_filter.mp hw).2)) ab_IA90 (vx_c h1 (vx_c h2 (vx_c h3 (vx_c h4 vx_n))))
set_option maxRecDepth 100000 in
set_option maxHeartbeats 4000000 in
theorem tX6_register (l : Launch) (hl : l.stackTraces = false) (a0 : Nat) (x1 : Int32) (hc : x1 < 0 ∨ ¬ x1 ≤ 19) : MT l yX6_register cX6_register 2 (some .int) nIB ([.ref a0, .int x1]) := by
  refine vx_ofW (cc := cX6_register) (maxL := 2) (ret := (some .int)) (by decide) rfl ?_
  intro p e s m args below meth c s₁ B hml htab hv
  obtain ⟨rfl, hE⟩ := hv
  have hx := B.exec
  have hb := B.bytes
  have hlocks := B.notSynchronized
  have hts := atoms_spec (ws := wg yX6_register cX6_register 2 (some .int)) B.pre
  have hT : ∀ w ∈ wG, w.before _ s = true := fun w h => hts w (List.mem_cons_of_mem _ h)
  have hown : s.vm.findClass RX6 = some m.cls := findClass_of_methodNamed B.named
  have hS : va_S (fun _ => False) s.heap s.heap [] := va_S.rf
  have hl9 := lv_entry ([.ref a0, .int x1]) (n := 2) (Nat.le_of_ble_eq_true rfl)
  rw [lg_entry_eq]
  generalize (lg_sl ([.ref a0, .int x1]) ++ List.replicate (2 - (lg_sl ([.ref a0, .int x1])).length) Slot.unset).toArray = ls at hl9 ⊢
  have hl9 : lv_has ls 2 [(0, .ref a0), (1, .int x1)] := hl9
  refine lv_iload_n hx hb dX6_register_0 rfl (lv_at hl9 1 rfl) ?_
  refine lv_if_lt (tgt := 10) hx hb dX6_register_1 (by decide) (fun c1 => ?_) (fun c1 => ?_)
  · exact vx_throw0 (names := nSup) (A := fun _ => False) hx hb hl hown (by decide +kernel) (by decide +kernel) (hT _ (wG_of (by decide +kernel) (by decide +kernel))) (hT _ (wG_of (by decide +kernel) (by decide +kernel))) (at_IB63 hT (va_Nw.use rfl hE.2.2.1) (va_Nw.use rfl hE.2.2.2.2.1) (va_Nw.use rfl hE.2.2.2.2.2.1) (va_Nw.use rfl hE.2.2.2.2.2.2)) og_IB_63 hE.1 hE.2.1 hS (hl9.1.trans hml.symm) dX6_register_10 dX6_register_13 dX6_register_14 dX6_register_17 (fun x h => absurd (htab x h) (fun z => z)) (by decide) (by decide) (by decide) (by decide) hlocks (fun t _ h1 h2 => ⟨rfl, h1, fun q hq _ => h2 q hq⟩) (fun z h => by cases h) (by decide) (by decide)
  · refine lv_iload_n hx hb dX6_register_4 rfl (lv_at hl9 1 rfl) ?_
    refine lv_bipush (v := 19) hx hb dX6_register_5 (by decide) ?_
    refine lv_icmp_le (tgt := 18) hx hb dX6_register_7 (by decide) (fun c2 => absurd c2 (hc.resolve_left c1)) (fun c2 => ?_)
    exact vx_throw0 (names := nSup) (A := fun _ => False) hx hb hl hown (by decide +kernel) (by decide +kernel) (hT _ (wG_of (by decide +kernel) (by decide +kernel))) (hT _ (wG_of (by decide +kernel) (by decide +kernel))) (at_IB63 hT (va_Nw.use rfl hE.2.2.1) (va_Nw.use rfl hE.2.2.2.2.1) (va_Nw.use rfl hE.2.2.2.2.2.1) (va_Nw.use rfl hE.2.2.2.2.2.2)) og_IB_63 hE.1 hE.2.1 hS (hl9.1.trans hml.symm) dX6_register_10 dX6_register_13 dX6_register_14 dX6_register_17 (fun x h => absurd (htab x h) (fun z => z)) (by decide) (by decide) (by decide) (by decide) hlocks (fun t _ h1 h2 => ⟨rfl, h1, fun q hq _ => h2 q hq⟩) (fun z h => by cases h) (by decide) (by decide)
set_option maxRecDepth 100000 in
set_option maxHeartbeats 4000000 in
theorem tX6_put (l : Launch) (hl : l.stackTraces = false) (a0 : Nat) (x1 x2 : Int32) (hc : x1 < 0 ∨ ¬ x1 ≤ 19) : MT l yX6_put cX6_put 3 none nIB ([.ref a0, .int x1, .int x2]) := by
  refine vx_ofW (cc := cX6_put) (maxL := 3) (ret := none) (by decide) rfl ?_
  intro p e s m args below meth c s₁ B hml htab hv
  obtain ⟨rfl, hE⟩ := hv
  have hx := B.exec
  have hb := B.bytes
  have hlocks := B.notSynchronized
  have hts := atoms_spec (ws := wg yX6_put cX6_put 3 none) B.pre
  have hT : ∀ w ∈ wG, w.before _ s = true := fun w h => hts w (List.mem_cons_of_mem _ h)
  have hown : s.vm.findClass RX6 = some m.cls := findClass_of_methodNamed B.named
  have hS : va_S (fun _ => False) s.heap s.heap [] := va_S.rf
  have hl9 := lv_entry ([.ref a0, .int x1, .int x2]) (n := 3) (Nat.le_of_ble_eq_true rfl)
  rw [lg_entry_eq]
  generalize (lg_sl ([.ref a0, .int x1, .int x2]) ++ List.replicate (3 - (lg_sl ([.ref a0, .int x1, .int x2])).length) Slot.unset).toArray = ls at hl9 ⊢
  have hl9 : lv_has ls 3 [(0, .ref a0), (1, .int x1), (2, .int x2)] := hl9
  refine lv_iload_n hx hb dX6_put_0 rfl (lv_at hl9 1 rfl) ?_
  refine lv_if_lt (tgt := 10) hx hb dX6_put_1 (by decide) (fun c1 => ?_) (fun c1 => ?_)
  · exact vx_throw0 (names := nSup) (A := fun _ => False) hx hb hl hown (by decide +kernel) (by decide +kernel) (hT _ (wG_of (by decide +kernel) (by decide +kernel))) (hT _ (wG_of (by decide +kernel) (by decide +kernel))) (at_IB63 hT (va_Nw.use rfl hE.2.2.1) (va_Nw.use rfl hE.2.2.2.2.1) (va_Nw.use rfl hE.2.2.2.2.2.1) (va_Nw.use rfl hE.2.2.2.2.2.2)) og_IB_63 hE.1 hE.2.1 hS (hl9.1.trans hml.symm) dX6_put_10 dX6_put_13 dX6_put_14 dX6_put_17 (fun x h => absurd (htab x h) (fun z => z)) (by decide) (by decide) (by decide) (by decide) hlocks (fun t _ h1 h2 => ⟨rfl, h1, fun q hq _ => h2 q hq⟩) (fun z h => by cases h) (by decide) (by decide)
  · refine lv_iload_n hx hb dX6_put_4 rfl (lv_at hl9 1 rfl) ?_
    refine lv_bipush (v := 19) hx hb dX6_put_5 (by decide) ?_
    refine lv_icmp_le (tgt := 18) hx hb dX6_put_7 (by decide) (fun c2 => absurd c2 (hc.resolve_left c1)) (fun c2 => ?_)
    exact vx_throw0 (names := nSup) (A := fun _ => False) hx hb hl hown (by decide +kernel) (by decide +kernel) (hT _ (wG_of (by decide +kernel) (by decide +kernel))) (hT _ (wG_of (by decide +kernel) (by decide +kernel))) (at_IB63 hT (va_Nw.use rfl hE.2.2.1) (va_Nw.use rfl hE.2.2.2.2.1) (va_Nw.use rfl hE.2.2.2.2.2.1) (va_Nw.use rfl hE.2.2.2.2.2.2)) og_IB_63 hE.1 hE.2.1 hS (hl9.1.trans hml.symm) dX6_put_10 dX6_put_13 dX6_put_14 dX6_put_17 (fun x h => absurd (htab x h) (fun z => z)) (by decide) (by decide) (by decide) (by decide) hlocks (fun t _ h1 h2 => ⟨rfl, h1, fun q hq _ => h2 q hq⟩) (fun z h => by cases h) (by decide) (by decide)
set_option maxRecDepth 100000 in
set_option maxHeartbeats 4000000 in
theorem tX6_want (l : Launch) (hl : l.stackTraces = false) (a0 : Nat) (x1 : Int32) (hc : x1 < 0 ∨ ¬ x1 ≤ 7) : MT l yX6_want cX6_want 2 none nIA ([.ref a0, .int x1]) := by
  refine vx_ofW (cc := cX6_want) (maxL := 2) (ret := none) (by decide) rfl ?_
  intro p e s m args below meth c s₁ B hml htab hv
  obtain ⟨rfl, hE⟩ := hv
  have hx := B.exec
  have hb := B.bytes
  have hlocks := B.notSynchronized
  have hts := atoms_spec (ws := wg yX6_want cX6_want 2 none) B.pre
  have hT : ∀ w ∈ wG, w.before _ s = true := fun w h => hts w (List.mem_cons_of_mem _ h)
  have hown : s.vm.findClass RX6 = some m.cls := findClass_of_methodNamed B.named
  have hS : va_S (fun _ => False) s.heap s.heap [] := va_S.rf
  have hl9 := lv_entry ([.ref a0, .int x1]) (n := 2) (Nat.le_of_ble_eq_true rfl)
  rw [lg_entry_eq]
  generalize (lg_sl ([.ref a0, .int x1]) ++ List.replicate (2 - (lg_sl ([.ref a0, .int x1])).length) Slot.unset).toArray = ls at hl9 ⊢
  have hl9 : lv_has ls 2 [(0, .ref a0), (1, .int x1)] := hl9
  refine lv_iload_n hx hb dX6_want_0 rfl (lv_at hl9 1 rfl) ?_
  refine lv_if_lt (tgt := 10) hx hb dX6_want_1 (by decide) (fun c1 => ?_) (fun c1 => ?_)
  · exact vx_throw0 (names := nSup) (A := fun _ => False) hx hb hl hown (by decide +kernel) (by decide +kernel) (hT _ (wG_of (by decide +kernel) (by decide +kernel))) (hT _ (wG_of (by decide +kernel) (by decide +kernel))) (at_IA90 hT (va_Nw.use rfl hE.2.2.2.1) (va_Nw.use rfl hE.2.2.2.2.1) (va_Nw.use rfl hE.2.2.2.2.2.1) (va_Nw.use rfl hE.2.2.2.2.2.2)) og_IA_90 hE.1 hE.2.1 hS (hl9.1.trans hml.symm) dX6_want_10 dX6_want_13 dX6_want_14 dX6_want_17 (fun x h => absurd (htab x h) (fun z => z)) (by decide) (by decide) (by decide) (by decide) hlocks (fun t _ h1 h2 => ⟨rfl, h1, fun q hq _ => h2 q hq⟩) (fun z h => by cases h) (by decide) (by decide)
  · refine lv_iload_n hx hb dX6_want_4 rfl (lv_at hl9 1 rfl) ?_
    refine lv_bipush (v := 7) hx hb dX6_want_5 (by decide) ?_
    refine lv_icmp_le (tgt := 18) hx hb dX6_want_7 (by decide) (fun c2 => absurd c2 (hc.resolve_left c1)) (fun c2 => ?_)
    exact vx_throw0 (names := nSup) (A := fun _ => False) hx hb hl hown (by decide +kernel) (by decide +kernel) (hT _ (wG_of (by decide +kernel) (by decide +kernel))) (hT _ (wG_of (by decide +kernel) (by decide +kernel))) (at_IA90 hT (va_Nw.use rfl hE.2.2.2.1) (va_Nw.use rfl hE.2.2.2.2.1) (va_Nw.use rfl hE.2.2.2.2.2.1) (va_Nw.use rfl hE.2.2.2.2.2.2)) og_IA_90 hE.1 hE.2.1 hS (hl9.1.trans hml.symm) dX6_want_10 dX6_want_13 dX6_want_14 dX6_want_17 (fun x h => absurd (htab x h) (fun z => z)) (by decide) (by decide) (by decide) (by decide) hlocks (fun t _ h1 h2 => ⟨rfl, h1, fun q hq _ => h2 q hq⟩) (fun z h => by cases h) (by decide) (by decide)
set_option maxRecDepth 100000 in
set_option maxHeartbeats 4000000 in
theorem tX6_step (l : Launch) (hl : l.stackTraces = false) (a0 : Nat) (x1 : Int32) (hc : x1 < 0 ∨ ¬ x1 ≤ 3000) : MT l yX6_step cX6_step 3 (some .int) nIA ([.ref a0, .int x1]) := by
  refine vx_ofW (cc := cX6_step) (maxL := 3) (ret := (some .int)) (by decide) rfl ?_
  intro p e s m args below meth c s₁ B hml htab hv
  obtain ⟨rfl, hE⟩ := hv
  have hx := B.exec
  have hb := B.bytes
  have hlocks := B.notSynchronized
  have hts := atoms_spec (ws := wg yX6_step cX6_step 3 (some .int)) B.pre
  have hT : ∀ w ∈ wG, w.before _ s = true := fun w h => hts w (List.mem_cons_of_mem _ h)
  have hown : s.vm.findClass RX6 = some m.cls := findClass_of_methodNamed B.named
  have hS : va_S (fun _ => False) s.heap s.heap [] := va_S.rf
  have hl9 := lv_entry ([.ref a0, .int x1]) (n := 3) (Nat.le_of_ble_eq_true rfl)
  rw [lg_entry_eq]
  generalize (lg_sl ([.ref a0, .int x1]) ++ List.replicate (3 - (lg_sl ([.ref a0, .int x1])).length) Slot.unset).toArray = ls at hl9 ⊢
  have hl9 : lv_has ls 3 [(0, .ref a0), (1, .int x1)] := hl9
  refine lv_iload_n hx hb dX6_step_0 rfl (lv_at hl9 1 rfl) ?_
  refine lv_if_lt (tgt := 11) hx hb dX6_step_1 (by decide) (fun c1 => ?_) (fun c1 => ?_)
  · exact vx_throw0 (names := nSup) (A := fun _ => False) hx hb hl hown (by decide +kernel) (by decide +kernel) (hT _ (wG_of (by decide +kernel) (by decide +kernel))) (hT _ (wG_of (by decide +kernel) (by decide +kernel))) (at_IA90 hT (va_Nw.use rfl hE.2.2.2.1) (va_Nw.use rfl hE.2.2.2.2.1) (va_Nw.use rfl hE.2.2.2.2.2.1) (va_Nw.use rfl hE.2.2.2.2.2.2)) og_IA_90 hE.1 hE.2.1 hS (hl9.1.trans hml.symm) dX6_step_11 dX6_step_14 dX6_step_15 dX6_step_18 (fun x h => absurd (htab x h) (fun z => z)) (by decide) (by decide) (by decide) (by decide) hlocks (fun t _ h1 h2 => ⟨rfl, h1, fun q hq _ => h2 q hq⟩) (fun z h => by cases h) (by decide) (by decide)
  · refine lv_iload_n hx hb dX6_step_4 rfl (lv_at hl9 1 rfl) ?_
    refine lv_sipush (v := 3000) hx hb dX6_step_5 (by decide) ?_
    refine lv_icmp_le (tgt := 19) hx hb dX6_step_8 (by decide) (fun c2 => absurd c2 (hc.resolve_left c1)) (fun c2 => ?_)
    exact vx_throw0 (names := nSup) (A := fun _ => False) hx hb hl hown (by decide +kernel) (by decide +kernel) (hT _ (wG_of (by decide +kernel) (by decide +kernel))) (hT _ (wG_of (by decide +kernel) (by decide +kernel))) (at_IA90 hT (va_Nw.use rfl hE.2.2.2.1) (va_Nw.use rfl hE.2.2.2.2.1) (va_Nw.use rfl hE.2.2.2.2.2.1) (va_Nw.use rfl hE.2.2.2.2.2.2)) og_IA_90 hE.1 hE.2.1 hS (hl9.1.trans hml.symm) dX6_step_11 dX6_step_14 dX6_step_15 dX6_step_18 (fun x h => absurd (htab x h) (fun z => z)) (by decide) (by decide) (by decide) (by decide) hlocks (fun t _ h1 h2 => ⟨rfl, h1, fun q hq _ => h2 q hq⟩) (fun z h => by cases h) (by decide) (by decide)
set_option maxRecDepth 100000 in
set_option maxHeartbeats 4000000 in
theorem tX6_exceptions (l : Launch) (hl : l.stackTraces = false) (a0 : Nat) (x1 : Int32) (hc : x1 < 0 ∨ ¬ x1 < 64) : MT l yX6_exceptions cX6_exceptions 2 (some .int) nIA ([.ref a0, .int x1]) := by
  refine vx_ofW (cc := cX6_exceptions) (maxL := 2) (ret := (some .int)) (by decide) rfl ?_
  intro p e s m args below meth c s₁ B hml htab hv
  obtain ⟨rfl, hE⟩ := hv
  have hx := B.exec
  have hb := B.bytes
  have hlocks := B.notSynchronized
  have hts := atoms_spec (ws := wg yX6_exceptions cX6_exceptions 2 (some .int)) B.pre
  have hT : ∀ w ∈ wG, w.before _ s = true := fun w h => hts w (List.mem_cons_of_mem _ h)
  have hown : s.vm.findClass RX6 = some m.cls := findClass_of_methodNamed B.named
  have hS : va_S (fun _ => False) s.heap s.heap [] := va_S.rf
  have hl9 := lv_entry ([.ref a0, .int x1]) (n := 2) (Nat.le_of_ble_eq_true rfl)
  rw [lg_entry_eq]
  generalize (lg_sl ([.ref a0, .int x1]) ++ List.replicate (2 - (lg_sl ([.ref a0, .int x1])).length) Slot.unset).toArray = ls at hl9 ⊢
  have hl9 : lv_has ls 2 [(0, .ref a0), (1, .int x1)] := hl9
  refine lv_iload_n hx hb dX6_exceptions_0 rfl (lv_at hl9 1 rfl) ?_
  refine lv_if_lt (tgt := 10) hx hb dX6_exceptions_1 (by decide) (fun c1 => ?_) (fun c1 => ?_)
  · exact vx_throw0 (names := nSup) (A := fun _ => False) hx hb hl hown (by decide +kernel) (by decide +kernel) (hT _ (wG_of (by decide +kernel) (by decide +kernel))) (hT _ (wG_of (by decide +kernel) (by decide +kernel))) (at_IA90 hT (va_Nw.use rfl hE.2.2.2.1) (va_Nw.use rfl hE.2.2.2.2.1) (va_Nw.use rfl hE.2.2.2.2.2.1) (va_Nw.use rfl hE.2.2.2.2.2.2)) og_IA_90 hE.1 hE.2.1 hS (hl9.1.trans hml.symm) dX6_exceptions_10 dX6_exceptions_13 dX6_exceptions_14 dX6_exceptions_17 (fun x h => absurd (htab x h) (fun z => z)) (by decide) (by decide) (by decide) (by decide) hlocks (fun t _ h1 h2 => ⟨rfl, h1, fun q hq _ => h2 q hq⟩) (fun z h => by cases h) (by decide) (by decide)
  · refine lv_iload_n hx hb dX6_exceptions_4 rfl (lv_at hl9 1 rfl) ?_
    refine lv_bipush (v := 64) hx hb dX6_exceptions_5 (by decide) ?_
    refine lv_icmp_lt (tgt := 18) hx hb dX6_exceptions_7 (by decide) (fun c2 => absurd c2 (hc.resolve_left c1)) (fun c2 => ?_)
    exact vx_throw0 (names := nSup) (A := fun _ => False) hx hb hl hown (by decide +kernel) (by decide +kernel) (hT _ (wG_of (by decide +kernel) (by decide +kernel))) (hT _ (wG_of (by decide +kernel) (by decide +kernel))) (at_IA90 hT (va_Nw.use rfl hE.2.2.2.1) (va_Nw.use rfl hE.2.2.2.2.1) (va_Nw.use rfl hE.2.2.2.2.2.1) (va_Nw.use rfl hE.2.2.2.2.2.2)) og_IA_90 hE.1 hE.2.1 hS (hl9.1.trans hml.symm) dX6_exceptions_10 dX6_exceptions_13 dX6_exceptions_14 dX6_exceptions_17 (fun x h => absurd (htab x h) (fun z => z)) (by decide) (by decide) (by decide) (by decide) hlocks (fun t _ h1 h2 => ⟨rfl, h1, fun q hq _ => h2 q hq⟩) (fun z h => by cases h) (by decide) (by decide)
set_option maxRecDepth 100000 in
set_option maxHeartbeats 4000000 in
theorem tX6_write (l : Launch) (hl : l.stackTraces = false) (a0 : Nat) (x1 x2 x3 : Int32) (hc : ¬ x3 = 1 ∧ ¬ x3 = 2 ∧ ¬ x3 = 4) : MT l yX6_write cX6_write 4 none nIA ([.ref a0, .int x1, .int x2, .int x3]) := by
  refine vx_ofW (cc := cX6_write) (maxL := 4) (ret := none) (by decide) rfl ?_
  intro p e s m args below meth c s₁ B hml htab hv
  obtain ⟨rfl, hE⟩ := hv
  have hx := B.exec
  have hb := B.bytes
  have hlocks := B.notSynchronized
  have hts := atoms_spec (ws := wg yX6_write cX6_write 4 none) B.pre
  have hT : ∀ w ∈ wG, w.before _ s = true := fun w h => hts w (List.mem_cons_of_mem _ h)
  have hown : s.vm.findClass RX6 = some m.cls := findClass_of_methodNamed B.named
  have hS : va_S (fun _ => False) s.heap s.heap [] := va_S.rf
  have hl9 := lv_entry ([.ref a0, .int x1, .int x2, .int x3]) (n := 4) (Nat.le_of_ble_eq_true rfl)
  rw [lg_entry_eq]
  generalize (lg_sl ([.ref a0, .int x1, .int x2, .int x3]) ++ List.replicate (4 - (lg_sl ([.ref a0, .int x1, .int x2, .int x3])).length) Slot.unset).toArray = ls at hl9 ⊢
  have hl9 : lv_has ls 4 [(0, .ref a0), (1, .int x1), (2, .int x2), (3, .int x3)] := hl9
  refine lv_iload_n hx hb dX6_write_0 rfl (lv_at hl9 3 rfl) ?_
  refine lv_iconst (v := 1) hx hb dX6_write_1 (by decide) ?_
  refine lv_icmp_eq (tgt := 23) hx hb dX6_write_2 (by decide) (fun q => absurd q hc.1) (fun _ => ?_)
  refine lv_iload_n hx hb dX6_write_5 rfl (lv_at hl9 3 rfl) ?_
  refine lv_iconst (v := 2) hx hb dX6_write_6 (by decide) ?_
  refine lv_icmp_eq (tgt := 23) hx hb dX6_write_7 (by decide) (fun q => absurd q hc.2.1) (fun _ => ?_)
  refine lv_iload_n hx hb dX6_write_10 rfl (lv_at hl9 3 rfl) ?_
  refine lv_iconst (v := 4) hx hb dX6_write_11 (by decide) ?_
  refine lv_icmp_eq (tgt := 23) hx hb dX6_write_12 (by decide) (fun q => absurd q hc.2.2) (fun _ => ?_)
  exact vx_throw0 (names := nSup) (A := fun _ => False) hx hb hl hown (by decide +kernel) (by decide +kernel) (hT _ (wG_of (by decide +kernel) (by decide +kernel))) (hT _ (wG_of (by decide +kernel) (by decide +kernel))) (at_IA90 hT (va_Nw.use rfl hE.2.2.2.1) (va_Nw.use rfl hE.2.2.2.2.1) (va_Nw.use rfl hE.2.2.2.2.2.1) (va_Nw.use rfl hE.2.2.2.2.2.2)) og_IA_90 hE.1 hE.2.1 hS (hl9.1.trans hml.symm) dX6_write_15 dX6_write_18 dX6_write_19 dX6_write_22 (fun x h => absurd (htab x h) (fun z => z)) (by decide) (by decide) (by decide) (by decide) hlocks (fun t _ h1 h2 => ⟨rfl, h1, fun q hq _ => h2 q hq⟩) (fun z h => by cases h) (by decide) (by decide)
set_option maxRecDepth 100000 in
set_option maxHeartbeats 4000000 in
theorem tX6_read (l : Launch) (hl : l.stackTraces = false) (a0 : Nat) (x1 x2 : Int32) (hc : ¬ x2 = 1 ∧ ¬ x2 = 2 ∧ ¬ x2 = 4) : MT l yX6_read cX6_read 3 (some .int) nIA ([.ref a0, .int x1, .int x2]) := by
  refine vx_ofW (cc := cX6_read) (maxL := 3) (ret := (some .int)) (by decide) rfl ?_
  intro p e s m args below meth c s₁ B hml htab hv
  obtain ⟨rfl, hE⟩ := hv
  have hx := B.exec
  have hb := B.bytes
  have hlocks := B.notSynchronized
  have hts := atoms_spec (ws := wg yX6_read cX6_read 3 (some .int)) B.pre
  have hT : ∀ w ∈ wG, w.before _ s = true := fun w h => hts w (List.mem_cons_of_mem _ h)
  have hown : s.vm.findClass RX6 = some m.cls := findClass_of_methodNamed B.named
  have hS : va_S (fun _ => False) s.heap s.heap [] := va_S.rf
  have hl9 := lv_entry ([.ref a0, .int x1, .int x2]) (n := 3) (Nat.le_of_ble_eq_true rfl)
  rw [lg_entry_eq]
  generalize (lg_sl ([.ref a0, .int x1, .int x2]) ++ List.replicate (3 - (lg_sl ([.ref a0, .int x1, .int x2])).length) Slot.unset).toArray = ls at hl9 ⊢
  have hl9 : lv_has ls 3 [(0, .ref a0), (1, .int x1), (2, .int x2)] := hl9
  refine lv_iload_n hx hb dX6_read_0 rfl (lv_at hl9 2 rfl) ?_
  refine lv_iconst (v := 1) hx hb dX6_read_1 (by decide) ?_
  refine lv_icmp_eq (tgt := 23) hx hb dX6_read_2 (by decide) (fun q => absurd q hc.1) (fun _ => ?_)
  refine lv_iload_n hx hb dX6_read_5 rfl (lv_at hl9 2 rfl) ?_
  refine lv_iconst (v := 2) hx hb dX6_read_6 (by decide) ?_
  refine lv_icmp_eq (tgt := 23) hx hb dX6_read_7 (by decide) (fun q => absurd q hc.2.1) (fun _ => ?_)
  refine lv_iload_n hx hb dX6_read_10 rfl (lv_at hl9 2 rfl) ?_
  refine lv_iconst (v := 4) hx hb dX6_read_11 (by decide) ?_
  refine lv_icmp_eq (tgt := 23) hx hb dX6_read_12 (by decide) (fun q => absurd q hc.2.2) (fun _ => ?_)
  exact vx_throw0 (names := nSup) (A := fun _ => False) hx hb hl hown (by decide +kernel) (by decide +kernel) (hT _ (wG_of (by decide +kernel) (by decide +kernel))) (hT _ (wG_of (by decide +kernel) (by decide +kernel))) (at_IA90 hT (va_Nw.use rfl hE.2.2.2.1) (va_Nw.use rfl hE.2.2.2.2.1) (va_Nw.use rfl hE.2.2.2.2.2.1) (va_Nw.use rfl hE.2.2.2.2.2.2)) og_IA_90 hE.1 hE.2.1 hS (hl9.1.trans hml.symm) dX6_read_15 dX6_read_18 dX6_read_19 dX6_read_22 (fun x h => absurd (htab x h) (fun z => z)) (by decide) (by decide) (by decide) (by decide) hlocks (fun t _ h1 h2 => ⟨rfl, h1, fun q hq _ => h2 q hq⟩) (fun z h => by cases h) (by decide) (by decide)
