def fX2_operand (x0 : Int32) (S : St) : Option (Int32 × St) :=
    (some ((x0 &&& 63), S))
abbrev rmX2_operand : Room := { frames := 0, cells := 0, slots := 0, locals := 0 }
set_option maxRecDepth 100000 in
set_option maxHeartbeats 4000000 in
theorem mX2_operand (l : Launch) (D : va_G) (ad : Nat → Nat) (cI cB : ClassId) (en : Nat → Nat) (S : St) (x0 : Int32) (ro : Int32) (So : St) (hs : fX2_operand x0 S = some (ro, So)) : uM l yX2_operand (wg yX2_operand cX2_operand 1 (some .int)) rmX2_operand (KB D ad cI cB en) D (wB ad cI cB) (AX 10 ad) [.int x0] S (some (.int ro), So) := by
  refine uM_start (by decide) rfl ?_
  intro p e s m below meth c hx hb hr hlocks hml hown hts hK hP
  have hT : ∀ w ∈ wG, w.before _ s = true := fun w h => hts w (List.mem_cons_of_mem _ h)
  have hS : va_S (AX 10 ad s.heap.size) s.heap s.heap [] := va_S.rf
  have hown : s.vm.findClass RX2 = some m.cls := hown
  have C : CallFix p m c cX2_operand 1 s _ wG RX2 := ⟨hx, hb, hml, hown, hT⟩
  have hl := lv_entry ([.int x0]) (n := 1) (Nat.le_of_ble_eq_true rfl)
  rw [lg_entry_eq]
  generalize (lg_sl ([.int x0]) ++ List.replicate (1 - (lg_sl ([.int x0])).length) Slot.unset).toArray = ls at hl ⊢
  have hl : lv_has ls 1 [(0, .int x0)] := hl
  unfold fX2_operand at hs
  refine lv_iload_n hx hb dX2_operand_0 rfl (lv_at hl 0 rfl) ?_
  refine lv_bipush (v := 63) hx hb dX2_operand_1 (by decide) ?_
  refine lv_iand hx hb dX2_operand_3 ?_
  exact u_iret hx hb hr hlocks hP hS hs dX2_operand_4
theorem kX2_operand {p : Program} {l : Launch} {e : Env} {R : Room} {s : State} {m : MethodId} {args : Array Value} {below : List Frame} {meth : Method} {c : Code} {H : Heap} {locs : List Loc} {cells slots : Nat} {Q : State → Prop} {cc : ByteArray} {pc nL : Nat} {ls : Array Slot} {rest : List Value} {D : va_G} {ad : Nat → Nat} {cI cB : ClassId} {en : Nat → Nat} {S : St} {own : String} {index : Nat} {x0 : Int32} {ro : Int32} {So : St} (C : CallFix p m c cc nL s args wG own) (hlk : Cond.methodLink own index yX2_operand ∈ wG) (hR : rmX2_operand.frames + 1 ≤ R.frames ∧ 8 + (1 + 11) + rmX2_operand.locals ≤ R.locals) (hc : cells ≤ R.cells ∧ slots ≤ R.slots) (hK : KB D ad cI cB en s) (hP : va_P D vwCl (wB ad cI cB S) H) (hS : va_S (AX 10 ad s.heap.size) s.heap H locs) (hls : ls.size = nL) (hrest : (rest.map fun v => v.category).sum ≤ 8) (hd : decode cc pc = .ok (.invokestatic index, 3)) (hs : fX2_operand x0 S = some (ro, So)) (k : ∀ (H : Heap) (locs : List Loc), va_P D vwCl (wB ad cI cB So) H → va_S (AX 10 ad s.heap.size) s.heap H locs → W p l e R s m args below meth c H locs cells slots Q (F0 m (pc + 3) ls (.int ro :: rest))) : W p l e R s m args below meth c H locs cells slots Q (F0 m pc ls (.int x0 :: rest)) :=
  u_callS (n := 1) (mX2_operand l D ad cI cB en S x0 ro So hs) C uK_B (wg_S hlk tI_X2_operand tN_X2 tK_X2_operand) rfl rfl rfl (by decide +kernel) hR rfl hK hP hS hls hrest hd hc rfl k
def fX2_sizeBits (x0 : Int32) (S : St) : Option (Int32 × St) :=
    (some (((ush x0 6) &&& 3), S))
abbrev rmX2_sizeBits : Room := { frames := 0, cells := 0, slots := 0, locals := 0 }
set_option maxRecDepth 100000 in
set_option maxHeartbeats 4000000 in
theorem mX2_sizeBits (l : Launch) (D : va_G) (ad : Nat → Nat) (cI cB : ClassId) (en : Nat → Nat) (S : St) (x0 : Int32) (ro : Int32) (So : St) (hs : fX2_sizeBits x0 S = some (ro, So)) : uM l yX2_sizeBits (wg yX2_sizeBits cX2_sizeBits 1 (some .int)) rmX2_sizeBits (KB D ad cI cB en) D (wB ad cI cB) (AX 10 ad) [.int x0] S (some (.int ro), So) := by
  refine uM_start (by decide) rfl ?_
  intro p e s m below meth c hx hb hr hlocks hml hown hts hK hP
  have hT : ∀ w ∈ wG, w.before _ s = true := fun w h => hts w (List.mem_cons_of_mem _ h)
  have hS : va_S (AX 10 ad s.heap.size) s.heap s.heap [] := va_S.rf
  have hown : s.vm.findClass RX2 = some m.cls := hown
  have C : CallFix p m c cX2_sizeBits 1 s _ wG RX2 := ⟨hx, hb, hml, hown, hT⟩
  have hl := lv_entry ([.int x0]) (n := 1) (Nat.le_of_ble_eq_true rfl)
  rw [lg_entry_eq]
  generalize (lg_sl ([.int x0]) ++ List.replicate (1 - (lg_sl ([.int x0])).length) Slot.unset).toArray = ls at hl ⊢
  have hl : lv_has ls 1 [(0, .int x0)] := hl
  unfold fX2_sizeBits at hs
  refine lv_iload_n hx hb dX2_sizeBits_0 rfl (lv_at hl 0 rfl) ?_
  refine lv_bipush (v := 6) hx hb dX2_sizeBits_1 (by decide) ?_
  refine lv_iushr (v := (ush x0 6)) hx hb dX2_sizeBits_3 rfl ?_
  refine lv_iconst (v := 3) hx hb dX2_sizeBits_4 (by decide) ?_
  refine lv_iand hx hb dX2_sizeBits_5 ?_
  exact u_iret hx hb hr hlocks hP hS hs dX2_sizeBits_6
theorem kX2_sizeBits {p : Program} {l : Launch} {e : Env} {R : Room} {s : State} {m : MethodId} {args : Array Value} {below : List Frame} {meth : Method} {c : Code} {H : Heap} {locs : List Loc} {cells slots : Nat} {Q : State → Prop} {cc : ByteArray} {pc nL : Nat} {ls : Array Slot} {rest : List Value} {D : va_G} {ad : Nat → Nat} {cI cB : ClassId} {en : Nat → Nat} {S : St} {own : String} {index : Nat} {x0 : Int32} {ro : Int32} {So : St} (C : CallFix p m c cc nL s args wG own) (hlk : Cond.methodLink own index yX2_sizeBits ∈ wG) (hR : rmX2_sizeBits.frames + 1 ≤ R.frames ∧ 8 + (1 + 11) + rmX2_sizeBits.locals ≤ R.locals) (hc : cells ≤ R.cells ∧ slots ≤ R.slots) (hK : KB D ad cI cB en s) (hP : va_P D vwCl (wB ad cI cB S) H) (hS : va_S (AX 10 ad s.heap.size) s.heap H locs) (hls : ls.size = nL) (hrest : (rest.map fun v => v.category).sum ≤ 8) (hd : decode cc pc = .ok (.invokestatic index, 3)) (hs : fX2_sizeBits x0 S = some (ro, So)) (k : ∀ (H : Heap) (locs : List Loc), va_P D vwCl (wB ad cI cB So) H → va_S (AX 10 ad s.heap.size) s.heap H locs → W p l e R s m args below meth c H locs cells slots Q (F0 m (pc + 3) ls (.int ro :: rest))) : W p l e R s m args below meth c H locs cells slots Q (F0 m pc ls (.int x0 :: rest)) :=
  u_callS (n := 1) (mX2_sizeBits l D ad cI cB en S x0 ro So hs) C uK_B (wg_S hlk tI_X2_sizeBits tN_X2 tK_X2_sizeBits) rfl rfl rfl (by decide +kernel) hR rfl hK hP hS hls hrest hd hc rfl k
def fX2_upper (x0 : Int32) (S : St) : Option (Int32 × St) :=
    (some (((ush x0 9) &&& 7), S))
abbrev rmX2_upper : Room := { frames := 0, cells := 0, slots := 0, locals := 0 }
set_option maxRecDepth 100000 in
set_option maxHeartbeats 4000000 in
theorem mX2_upper (l : Launch) (D : va_G) (ad : Nat → Nat) (cI cB : ClassId) (en : Nat → Nat) (S : St) (x0 : Int32) (ro : Int32) (So : St) (hs : fX2_upper x0 S = some (ro, So)) : uM l yX2_upper (wg yX2_upper cX2_upper 1 (some .int)) rmX2_upper (KB D ad cI cB en) D (wB ad cI cB) (AX 10 ad) [.int x0] S (some (.int ro), So) := by
  refine uM_start (by decide) rfl ?_
  intro p e s m below meth c hx hb hr hlocks hml hown hts hK hP
  have hT : ∀ w ∈ wG, w.before _ s = true := fun w h => hts w (List.mem_cons_of_mem _ h)
  have hS : va_S (AX 10 ad s.heap.size) s.heap s.heap [] := va_S.rf
  have hown : s.vm.findClass RX2 = some m.cls := hown
  have C : CallFix p m c cX2_upper 1 s _ wG RX2 := ⟨hx, hb, hml, hown, hT⟩
  have hl := lv_entry ([.int x0]) (n := 1) (Nat.le_of_ble_eq_true rfl)
  rw [lg_entry_eq]
  generalize (lg_sl ([.int x0]) ++ List.replicate (1 - (lg_sl ([.int x0])).length) Slot.unset).toArray = ls at hl ⊢
  have hl : lv_has ls 1 [(0, .int x0)] := hl
  unfold fX2_upper at hs
  refine lv_iload_n hx hb dX2_upper_0 rfl (lv_at hl 0 rfl) ?_
  refine lv_bipush (v := 9) hx hb dX2_upper_1 (by decide) ?_
  refine lv_iushr (v := (ush x0 9)) hx hb dX2_upper_3 rfl ?_
  refine lv_bipush (v := 7) hx hb dX2_upper_4 (by decide) ?_
  refine lv_iand hx hb dX2_upper_6 ?_
  exact u_iret hx hb hr hlocks hP hS hs dX2_upper_7
theorem kX2_upper {p : Program} {l : Launch} {e : Env} {R : Room} {s : State} {m : MethodId} {args : Array Value} {below : List Frame} {meth : Method} {c : Code} {H : Heap} {locs : List Loc} {cells slots : Nat} {Q : State → Prop} {cc : ByteArray} {pc nL : Nat} {ls : Array Slot} {rest : List Value} {D : va_G} {ad : Nat → Nat} {cI cB : ClassId} {en : Nat → Nat} {S : St} {own : String} {index : Nat} {x0 : Int32} {ro : Int32} {So : St} (C : CallFix p m c cc nL s args wG own) (hlk : Cond.methodLink own index yX2_upper ∈ wG) (hR : rmX2_upper.frames + 1 ≤ R.frames ∧ 8 + (1 + 11) + rmX2_upper.locals ≤ R.locals) (hc : cells ≤ R.cells ∧ slots ≤ R.slots) (hK : KB D ad cI cB en s) (hP : va_P D vwCl (wB ad cI cB S) H) (hS : va_S (AX 10 ad s.heap.size) s.heap H locs) (hls : ls.size = nL) (hrest : (rest.map fun v => v.category).sum ≤ 8) (hd : decode cc pc = .ok (.invokestatic index, 3)) (hs : fX2_upper x0 S = some (ro, So)) (k : ∀ (H : Heap) (locs : List Loc), va_P D vwCl (wB ad cI cB So) H → va_S (AX 10 ad s.heap.size) s.heap H locs → W p l e R s m args below meth c H locs cells slots Q (F0 m (pc + 3) ls (.int ro :: rest))) : W p l e R s m args below meth c H locs cells slots Q (F0 m pc ls (.int x0 :: rest)) :=
  u_callS (n := 1) (mX2_upper l D ad cI cB en S x0 ro So hs) C uK_B (wg_S hlk tI_X2_upper tN_X2 tK_X2_upper) rfl rfl rfl (by decide +kernel) hR rfl hK hP hS hls hrest hd hc rfl k
def fX2_lower (x0 : Int32) (S : St) : Option (Int32 × St) :=
    (some ((x0 &&& 7), S))
abbrev rmX2_lower : Room := { frames := 0, cells := 0, slots := 0, locals := 0 }
set_option maxRecDepth 100000 in
set_option maxHeartbeats 4000000 in
theorem mX2_lower (l : Launch) (D : va_G) (ad : Nat → Nat) (cI cB : ClassId) (en : Nat → Nat) (S : St) (x0 : Int32) (ro : Int32) (So : St) (hs : fX2_lower x0 S = some (ro, So)) : uM l yX2_lower (wg yX2_lower cX2_lower 1 (some .int)) rmX2_lower (KB D ad cI cB en) D (wB ad cI cB) (AX 10 ad) [.int x0] S (some (.int ro), So) := by
  refine uM_start (by decide) rfl ?_
  intro p e s m below meth c hx hb hr hlocks hml hown hts hK hP
  have hT : ∀ w ∈ wG, w.before _ s = true := fun w h => hts w (List.mem_cons_of_mem _ h)
  have hS : va_S (AX 10 ad s.heap.size) s.heap s.heap [] := va_S.rf
  have hown : s.vm.findClass RX2 = some m.cls := hown
  have C : CallFix p m c cX2_lower 1 s _ wG RX2 := ⟨hx, hb, hml, hown, hT⟩
  have hl := lv_entry ([.int x0]) (n := 1) (Nat.le_of_ble_eq_true rfl)
  rw [lg_entry_eq]
  generalize (lg_sl ([.int x0]) ++ List.replicate (1 - (lg_sl ([.int x0])).length) Slot.unset).toArray = ls at hl ⊢
  have hl : lv_has ls 1 [(0, .int x0)] := hl
  unfold fX2_lower at hs
  refine lv_iload_n hx hb dX2_lower_0 rfl (lv_at hl 0 rfl) ?_
  refine lv_bipush (v := 7) hx hb dX2_lower_1 (by decide) ?_
  refine lv_iand hx hb dX2_lower_3 ?_
  exact u_iret hx hb hr hlocks hP hS hs dX2_lower_4
theorem kX2_lower {p : Program} {l : Launch} {e : Env} {R : Room} {s : State} {m : MethodId} {args : Array Value} {below : List Frame} {meth : Method} {c : Code} {H : Heap} {locs : List Loc} {cells slots : Nat} {Q : State → Prop} {cc : ByteArray} {pc nL : Nat} {ls : Array Slot} {rest : List Value} {D : va_G} {ad : Nat → Nat} {cI cB : ClassId} {en : Nat → Nat} {S : St} {own : String} {index : Nat} {x0 : Int32} {ro : Int32} {So : St} (C : CallFix p m c cc nL s args wG own) (hlk : Cond.methodLink own index yX2_lower ∈ wG) (hR : rmX2_lower.frames + 1 ≤ R.frames ∧ 8 + (1 + 11) + rmX2_lower.locals ≤ R.locals) (hc : cells ≤ R.cells ∧ slots ≤ R.slots) (hK : KB D ad cI cB en s) (hP : va_P D vwCl (wB ad cI cB S) H) (hS : va_S (AX 10 ad s.heap.size) s.heap H locs) (hls : ls.size = nL) (hrest : (rest.map fun v => v.category).sum ≤ 8) (hd : decode cc pc = .ok (.invokestatic index, 3)) (hs : fX2_lower x0 S = some (ro, So)) (k : ∀ (H : Heap) (locs : List Loc), va_P D vwCl (wB ad cI cB So) H → va_S (AX 10 ad s.heap.size) s.heap H locs → W p l e R s m args below meth c H locs cells slots Q (F0 m (pc + 3) ls (.int ro :: rest))) : W p l e R s m args below meth c H locs cells slots Q (F0 m pc ls (.int x0 :: rest)) :=
  u_callS (n := 1) (mX2_lower l D ad cI cB en S x0 ro So hs) C uK_B (wg_S hlk tI_X2_lower tN_X2 tK_X2_lower) rfl rfl rfl (by decide +kernel) hR rfl hK hP hS hls hrest hd hc rfl k
def fX2_movePeripheral_b1 (e1 : Nat) (r4 : Int32) (v1 : Int32) (x1 : Int32) (k1 : Int32 → Int32 → St → Option St) (v2 : Int32) (v3 : Int32) (S6 : St) : Option St :=
    (if (szB e1) ≤ v2 then (bv (fX4_set r4 v3 S6) fun S7 => (some S7))
    else (lt ((8 * (((szB e1) - 1) - v2)) : Int32) fun v4 => (jn (fun (v5 : Int32) (S8 : St) => (lt (v2 + 1) fun v6 => (k1 v6 v5 S8))) fun K2 =>
    (if (x1 &&& 128) = 0 then (bd (fX0_loadAt 0 (v1 + (2 * v2)) S6) fun r6 S9 => (lt (((v3 &&& ((255 <<< (v4 &&& 31)) ^^^ (-1 : Int32))) ||| (r6 <<< (v4 &&& 31))) : Int32) fun v7 => (K2 v7 S9)))
    else (bv (fX0_storeAt 0 (v1 + (2 * v2)) (ush v3 v4) S6) fun S10 => (K2 v3 S10))))))
def fX2_movePeripheral_l1 (e1 : Nat) (r4 : Int32) (v1 : Int32) (x1 : Int32) : Nat → Int32 → Int32 → St → Option St
  | 0 => fun _ _ _ => none
  | n + 1 => fX2_movePeripheral_b1 e1 r4 v1 x1 (fX2_movePeripheral_l1 e1 r4 v1 x1 n)
def fX2_movePeripheral (x1 : Int32) (S : St) : Option St :=
    (bd (fX2_lower x1 S) fun r1 S1 => (bd (fX4_get (8 + r1) S1) fun r2 S2 => (bd (fX0_nextWord S2) fun r3 S3 => (lt ((r2 + (r3.toInt16.toInt32)) : Int32) fun v1 => (bd (fX2_upper x1 S3) fun r4 S4 => (jn (fun (e1 : Nat) => (gd (e1 < 3) (bd (fX4_get r4 S4) fun r5 S5 => (fX2_movePeripheral_l1 e1 r4 v1 x1 5 0 r5 S5)))) fun K1 =>
    (if (x1 &&& 64) = 0 then (K1 1)
    else (K1 2))))))))
abbrev rmX2_movePeripheral : Room := { frames := 2, cells := 0, slots := 0, locals := 48 }
set_option maxRecDepth 100000 in
set_option maxHeartbeats 4000000 in
theorem mX2_movePeripheral (l : Launch) (D : va_G) (ad : Nat → Nat) (cI cB : ClassId) (en : Nat → Nat) (S : St) (x1 : Int32) (So : St) (hs : fX2_movePeripheral x1 S = some So) : uM l yX2_movePeripheral (wg yX2_movePeripheral cX2_movePeripheral 8 none) rmX2_movePeripheral (KB D ad cI cB en) D (wB ad cI cB) (AX 10 ad) [.ref (ad 4), .int x1] S (none, So) := by
  refine uM_start (by decide) rfl ?_
  intro p e s m below meth c hx hb hr hlocks hml hown hts hK hP
  have hT : ∀ w ∈ wG, w.before _ s = true := fun w h => hts w (List.mem_cons_of_mem _ h)
  have hS : va_S (AX 10 ad s.heap.size) s.heap s.heap [] := va_S.rf
  have hown : s.vm.findClass RX2 = some m.cls := hown
  have C : CallFix p m c cX2_movePeripheral 8 s _ wG RX2 := ⟨hx, hb, hml, hown, hT⟩
  have hl := lv_entry ([.ref (ad 4), .int x1]) (n := 8) (Nat.le_of_ble_eq_true rfl)
  rw [lg_entry_eq]
  generalize (lg_sl ([.ref (ad 4), .int x1]) ++ List.replicate (8 - (lg_sl ([.ref (ad 4), .int x1])).length) Slot.unset).toArray = ls at hl ⊢
  have hl : lv_has ls 8 [(0, .ref (ad 4)), (1, .int x1)] := hl
  unfold fX2_movePeripheral at hs
  refine lv_aload_n hx hb dX2_movePeripheral_0 rfl (lv_at hl 0 rfl) ?_
  refine gB_X2_registers hx hb hT hown hK hP (hT _ tF_X2_9) dX2_movePeripheral_1 ?_
  refine lv_bipush (v := 8) hx hb dX2_movePeripheral_4 (by decide) ?_
  refine lv_iload_n hx hb dX2_movePeripheral_6 rfl (lv_at hl 1 rfl) ?_
  obtain ⟨r1, S1, h1, hs⟩ := bd_e hs
  refine kX2_lower C tM_X2_121 ⟨Nat.le_of_ble_eq_true rfl, Nat.le_of_ble_eq_true rfl⟩ ⟨Nat.le_of_ble_eq_true rfl, Nat.le_of_ble_eq_true rfl⟩ hK hP hS hl.1 (rest := [.int 8, .ref (ad 2)]) (Nat.le_of_ble_eq_true rfl) dX2_movePeripheral_7 h1 (fun H locs hP hS => ?_)
  refine lv_iadd hx hb dX2_movePeripheral_10 ?_
  obtain ⟨r2, S2, h2, hs⟩ := bd_e hs
  refine kX4_get C tM_X2_124 ⟨Nat.le_of_ble_eq_true rfl, Nat.le_of_ble_eq_true rfl⟩ ⟨Nat.le_of_ble_eq_true rfl, Nat.le_of_ble_eq_true rfl⟩ hK hP hS hl.1 (rest := []) (Nat.le_of_ble_eq_true rfl) dX2_movePeripheral_11 h2 (fun H locs hP hS => ?_)
  refine lv_aload_n hx hb dX2_movePeripheral_14 rfl (lv_at hl 0 rfl) ?_
  refine gB_X2_access hx hb hT hown hK hP (hT _ tF_X2_15) dX2_movePeripheral_15 ?_
  obtain ⟨r3, S3, h3, hs⟩ := bd_e hs
  refine kX0_nextWord C tM_X2_127 ⟨Nat.le_of_ble_eq_true rfl, Nat.le_of_ble_eq_true rfl⟩ ⟨Nat.le_of_ble_eq_true rfl, Nat.le_of_ble_eq_true rfl⟩ hK hP hS hl.1 (rest := [.int r2]) (Nat.le_of_ble_eq_true rfl) dX2_movePeripheral_18 h3 (fun H locs hP hS => ?_)
  refine lv_i2s (v := (r3.toInt16.toInt32)) hx hb dX2_movePeripheral_21 rfl ?_
  refine lv_iadd hx hb dX2_movePeripheral_22 ?_
  obtain ⟨v1, h4, hs⟩ := lt_e hs
  refine u_top h4 ?_
  refine lv_istore_n (lv' := [(2, .int v1), (0, .ref (ad 4)), (1, .int x1)]) hx hb dX2_movePeripheral_23 rfl hl (by decide) rfl (fun ls hl => ?_)
  refine lv_iload_n hx hb dX2_movePeripheral_24 rfl (lv_at hl 2 rfl) ?_
  obtain ⟨r4, S4, h5, hs⟩ := bd_e hs
  refine kX2_upper C tM_X2_101 ⟨Nat.le_of_ble_eq_true rfl, Nat.le_of_ble_eq_true rfl⟩ ⟨Nat.le_of_ble_eq_true rfl, Nat.le_of_ble_eq_true rfl⟩ hK hP hS hl.1 (rest := []) (Nat.le_of_ble_eq_true rfl) dX2_movePeripheral_25 h5 (fun H locs hP hS => ?_)
  refine lv_istore_n (lv' := [(3, .int r4), (2, .int v1), (0, .ref (ad 4)), (1, .int x1)]) hx hb dX2_movePeripheral_28 rfl hl (by decide) rfl (fun ls hl => ?_)
  refine lv_iload_n hx hb dX2_movePeripheral_29 rfl (lv_at hl 3 rfl) ?_
  refine lv_bipush (v := 64) hx hb dX2_movePeripheral_30 (by decide) ?_
  refine lv_iand hx hb dX2_movePeripheral_32 ?_
  refine jn_e hs (fun K1 => ∀ (e1 : Nat) (H : Heap) (locs : List Loc) (ls : Array Slot), lv_has ls 8 [(3, .int r4), (2, .int v1), (0, .ref (ad 4)), (1, .int x1)] → va_P D vwCl (wB ad cI cB S4) H → va_S (AX 10 ad s.heap.size) s.heap H locs → K1 e1 = some So → W p l e rmX2_movePeripheral s m ([.ref (ad 4), .int x1] : List Value).toArray below meth c H locs 0 0 (MQ below (uQ D (wB ad cI cB) (none, So) (AX 10 ad s.heap.size)) ([.ref (ad 4), .int x1] : List Value).toArray s 0 0 (AX 10 ad s.heap.size)) (F0 m 45 ls [.ref (en e1)])) ?_ (fun K1 J1 hs => ?_)
  · intro e1 H locs ls hl hP hS hs
    obtain ⟨h6, hs⟩ := gd_e hs
    refine lv_astore (lv' := [(4, .ref (en e1)), (3, .int r4), (2, .int v1), (0, .ref (ad 4)), (1, .int x1)]) hx hb dX2_movePeripheral_45 hl (by decide) rfl (fun ls hl => ?_)
    refine lv_aload_n hx hb dX2_movePeripheral_47 rfl (lv_at hl 3 rfl) ?_
    refine gB_X2_registers hx hb hT hown hK hP (hT _ tF_X2_9) dX2_movePeripheral_48 ?_
    refine lv_iload_n hx hb dX2_movePeripheral_51 rfl (lv_at hl 1 rfl) ?_
    obtain ⟨r5, S5, h7, hs⟩ := bd_e hs
    refine kX4_get C tM_X2_124 ⟨Nat.le_of_ble_eq_true rfl, Nat.le_of_ble_eq_true rfl⟩ ⟨Nat.le_of_ble_eq_true rfl, Nat.le_of_ble_eq_true rfl⟩ hK hP hS hl.1 (rest := []) (Nat.le_of_ble_eq_true rfl) dX2_movePeripheral_52 h7 (fun H locs hP hS => ?_)
    refine lv_istore (lv' := [(5, .int r5), (4, .ref (en e1)), (3, .int r4), (2, .int v1), (0, .ref (ad 4)), (1, .int x1)]) hx hb dX2_movePeripheral_55 hl (by decide) rfl (fun ls hl => ?_)
    refine lv_iconst (v := 0) hx hb dX2_movePeripheral_57 (by decide) ?_
    refine lv_istore (lv' := [(6, .int 0), (5, .int r5), (4, .ref (en e1)), (3, .int r4), (2, .int v1), (0, .ref (ad 4)), (1, .int x1)]) hx hb dX2_movePeripheral_58 hl (by decide) rfl (fun ls hl => ?_)
    have L1 : ∀ (n : Nat) (v2 : Int32) (v3 : Int32) (S6 : St) (H : Heap) (locs : List Loc) (ls : Array Slot), lv_has ls 8 [(6, .int v2), (5, .int v3), (4, .ref (en e1)), (3, .int r4), (2, .int v1), (0, .ref (ad 4)), (1, .int x1)] → va_P D vwCl (wB ad cI cB S6) H → va_S (AX 10 ad s.heap.size) s.heap H locs → fX2_movePeripheral_l1 e1 r4 v1 x1 n v2 v3 S6 = some So → W p l e rmX2_movePeripheral s m ([.ref (ad 4), .int x1] : List Value).toArray below meth c H locs 0 0 (MQ below (uQ D (wB ad cI cB) (none, So) (AX 10 ad s.heap.size)) ([.ref (ad 4), .int x1] : List Value).toArray s 0 0 (AX 10 ad s.heap.size)) (F0 m 60 ls []) := by
      intro n
      induction n with
      | zero => intro v2 v3 S6 H locs ls hl hP hS hs; cases hs
      | succ n ih =>
        intro v2 v3 S6 H locs ls hl hP hS hs
        have hs : fX2_movePeripheral_b1 e1 r4 v1 x1 (fX2_movePeripheral_l1 e1 r4 v1 x1 n) v2 v3 S6 = some So := hs
        unfold fX2_movePeripheral_b1 at hs
        refine lv_iload hx hb dX2_movePeripheral_60 (lv_at hl 0 rfl) ?_
        refine lv_aload hx hb dX2_movePeripheral_62 (lv_at hl 2 rfl) ?_
        refine gE_bytes hx hb hown hK hS h6 (hT _ tF_X2_131) dX2_movePeripheral_64 ?_
        refine lv_icmp_ge (tgt := 156) hx hb dX2_movePeripheral_67 (by decide) (fun c1 => ?_) (fun c1 => ?_)
        · have hs := if_t c1 hs
          refine lv_aload_n hx hb dX2_movePeripheral_156 rfl (lv_at hl 5 rfl) ?_
          refine gB_X2_registers hx hb hT hown hK hP (hT _ tF_X2_9) dX2_movePeripheral_157 ?_
          refine lv_iload_n hx hb dX2_movePeripheral_160 rfl (lv_at hl 3 rfl) ?_
          refine lv_iload hx hb dX2_movePeripheral_161 (lv_at hl 1 rfl) ?_
          obtain ⟨S7, h8, hs⟩ := bv_e hs
          refine kX4_set C tM_X2_143 ⟨Nat.le_of_ble_eq_true rfl, Nat.le_of_ble_eq_true rfl⟩ ⟨Nat.le_of_ble_eq_true rfl, Nat.le_of_ble_eq_true rfl⟩ hK hP hS hl.1 (rest := []) (Nat.le_of_ble_eq_true rfl) dX2_movePeripheral_163 h8 (fun H locs hP hS => ?_)
          exact u_vret hx hb hr hlocks hP hS hs dX2_movePeripheral_166
        · have hs := if_f c1 hs
          refine lv_bipush (v := 8) hx hb dX2_movePeripheral_70 (by decide) ?_
          refine lv_aload hx hb dX2_movePeripheral_72 (lv_at hl 2 rfl) ?_
          refine gE_bytes hx hb hown hK hS h6 (hT _ tF_X2_131) dX2_movePeripheral_74 ?_
          refine lv_iconst (v := 1) hx hb dX2_movePeripheral_77 (by decide) ?_
          refine lv_isub hx hb dX2_movePeripheral_78 ?_
          refine lv_iload hx hb dX2_movePeripheral_79 (lv_at hl 0 rfl) ?_
          refine lv_isub hx hb dX2_movePeripheral_81 ?_
          refine lv_imul hx hb dX2_movePeripheral_82 ?_
          obtain ⟨v4, h9, hs⟩ := lt_e hs
          refine u_top h9 ?_
          refine lv_istore (lv' := [(7, .int v4), (6, .int v2), (5, .int v3), (4, .ref (en e1)), (3, .int r4), (2, .int v1), (0, .ref (ad 4)), (1, .int x1)]) hx hb dX2_movePeripheral_83 hl (by decide) rfl (fun ls hl => ?_)
          refine lv_iload_n hx hb dX2_movePeripheral_85 rfl (lv_at hl 7 rfl) ?_
          refine lv_sipush (v := 128) hx hb dX2_movePeripheral_86 (by decide) ?_
          refine lv_iand hx hb dX2_movePeripheral_89 ?_
          refine jn_e hs (fun K2 => ∀ (v5 : Int32) (S8 : St) (H : Heap) (locs : List Loc) (ls : Array Slot), lv_has ls 8 [(5, .int v5), (6, .int v2), (4, .ref (en e1)), (3, .int r4), (2, .int v1), (0, .ref (ad 4)), (1, .int x1)] → va_P D vwCl (wB ad cI cB S8) H → va_S (AX 10 ad s.heap.size) s.heap H locs → K2 v5 S8 = some So → W p l e rmX2_movePeripheral s m ([.ref (ad 4), .int x1] : List Value).toArray below meth c H locs 0 0 (MQ below (uQ D (wB ad cI cB) (none, So) (AX 10 ad s.heap.size)) ([.ref (ad 4), .int x1] : List Value).toArray s 0 0 (AX 10 ad s.heap.size)) (F0 m 150 ls [])) ?_ (fun K2 J2 hs => ?_)
          · intro v5 S8 H locs ls hl hP hS hs
            obtain ⟨v6, h10, hs⟩ := lt_e hs
            refine lv_iinc (v := v6) (lv' := [(6, .int v6), (5, .int v5), (4, .ref (en e1)), (3, .int r4), (2, .int v1), (0, .ref (ad 4)), (1, .int x1)]) hx hb dX2_movePeripheral_150 hl (k := 1) rfl (by rw [h10]; rfl) (by decide) rfl (fun ls hl => ?_)
            refine lv_goto (tgt := 60) hx hb dX2_movePeripheral_153 (by decide) ?_
            exact ih v6 v5 S8 _ _ _ (lv_sub hl [0, 1, 2, 3, 4, 5, 6] rfl) hP hS hs
          ·
            refine lv_if_eq (tgt := 117) hx hb dX2_movePeripheral_90 (by decide) (fun c2 => ?_) (fun c2 => ?_)
            · have hs := if_t c2 hs
              refine lv_iload hx hb dX2_movePeripheral_117 (lv_at hl 2 rfl) ?_
              refine lv_sipush (v := 255) hx hb dX2_movePeripheral_119 (by decide) ?_
              refine lv_iload hx hb dX2_movePeripheral_122 (lv_at hl 0 rfl) ?_
              refine lv_ishl hx hb dX2_movePeripheral_124 ?_
              refine lv_iconst (v := (-1 : Int32)) hx hb dX2_movePeripheral_125 (by decide) ?_
              refine lv_ixor hx hb dX2_movePeripheral_126 ?_
              refine lv_iand hx hb dX2_movePeripheral_127 ?_
              refine lv_aload_n hx hb dX2_movePeripheral_128 rfl (lv_at hl 6 rfl) ?_
              refine gB_X2_access hx hb hT hown hK hP (hT _ tF_X2_15) dX2_movePeripheral_129 ?_
              refine gS_BYTE hx hb hown hK hS (hT _ tF_X2_36) dX2_movePeripheral_132 ?_
              refine lv_iload_n hx hb dX2_movePeripheral_135 rfl (lv_at hl 5 rfl) ?_
              refine lv_iconst (v := 2) hx hb dX2_movePeripheral_136 (by decide) ?_
              refine lv_iload hx hb dX2_movePeripheral_137 (lv_at hl 1 rfl) ?_
              refine lv_imul hx hb dX2_movePeripheral_139 ?_
              refine lv_iadd hx hb dX2_movePeripheral_140 ?_
              obtain ⟨r6, S9, h11, hs⟩ := bd_e hs
              refine kX0_loadAt C tM_X2_139 ⟨Nat.le_of_ble_eq_true rfl, Nat.le_of_ble_eq_true rfl⟩ ⟨Nat.le_of_ble_eq_true rfl, Nat.le_of_ble_eq_true rfl⟩ hK hP hS hl.1 (rest := [.int (v3 &&& ((255 <<< (v4 &&& 31)) ^^^ (-1 : Int32)))]) (Nat.le_of_ble_eq_true rfl) dX2_movePeripheral_141 h11 (fun H locs hP hS => ?_)
              refine lv_iload hx hb dX2_movePeripheral_144 (lv_at hl 0 rfl) ?_
              refine lv_ishl hx hb dX2_movePeripheral_146 ?_
              refine lv_ior hx hb dX2_movePeripheral_147 ?_
              obtain ⟨v7, h12, hs⟩ := lt_e hs
              refine u_top h12 ?_
              refine lv_istore (lv' := [(5, .int v7), (7, .int v4), (6, .int v2), (4, .ref (en e1)), (3, .int r4), (2, .int v1), (0, .ref (ad 4)), (1, .int x1)]) hx hb dX2_movePeripheral_148 hl (by decide) rfl (fun ls hl => ?_)
              exact J2 v7 S9 _ _ _ (lv_sub hl [0, 2, 3, 4, 5, 6, 7] rfl) hP hS hs
            · have hs := if_f c2 hs
              refine lv_aload_n hx hb dX2_movePeripheral_93 rfl (lv_at hl 6 rfl) ?_
              refine gB_X2_access hx hb hT hown hK hP (hT _ tF_X2_15) dX2_movePeripheral_94 ?_
              refine gS_BYTE hx hb hown hK hS (hT _ tF_X2_36) dX2_movePeripheral_97 ?_
              refine lv_iload_n hx hb dX2_movePeripheral_100 rfl (lv_at hl 5 rfl) ?_
              refine lv_iconst (v := 2) hx hb dX2_movePeripheral_101 (by decide) ?_
              refine lv_iload hx hb dX2_movePeripheral_102 (lv_at hl 1 rfl) ?_
              refine lv_imul hx hb dX2_movePeripheral_104 ?_
              refine lv_iadd hx hb dX2_movePeripheral_105 ?_
              refine lv_iload hx hb dX2_movePeripheral_106 (lv_at hl 2 rfl) ?_
              refine lv_iload hx hb dX2_movePeripheral_108 (lv_at hl 0 rfl) ?_
              refine lv_iushr (v := (ush v3 v4)) hx hb dX2_movePeripheral_110 rfl ?_
              obtain ⟨S10, h13, hs⟩ := bv_e hs
              refine kX0_storeAt C tM_X2_135 ⟨Nat.le_of_ble_eq_true rfl, Nat.le_of_ble_eq_true rfl⟩ ⟨Nat.le_of_ble_eq_true rfl, Nat.le_of_ble_eq_true rfl⟩ hK hP hS hl.1 (rest := []) (Nat.le_of_ble_eq_true rfl) dX2_movePeripheral_111 h13 (fun H locs hP hS => ?_)
              refine lv_goto (tgt := 150) hx hb dX2_movePeripheral_114 (by decide) ?_
              exact J2 v3 S10 _ _ _ (lv_sub hl [2, 1, 3, 4, 5, 6, 7] rfl) hP hS hs
    exact L1 5 0 r5 S5 _ _ _ (lv_sub hl [0, 1, 2, 3, 4, 5, 6] rfl) hP hS hs
  ·
    refine lv_if_ne (tgt := 42) hx hb dX2_movePeripheral_33 (by decide) (fun c3 => ?_) (fun c3 => ?_)
    · have hs := if_f c3 hs
      refine gS_LONG hx hb hown hK hS (hT _ tF_X2_46) dX2_movePeripheral_42 ?_
      exact J1 2 _ _ _ (lv_sub hl [0, 1, 2, 3] rfl) hP hS hs
    · have hs := if_t c3 hs
      refine gS_WORD hx hb hown hK hS (hT _ tF_X2_49) dX2_movePeripheral_36 ?_
      refine lv_goto (tgt := 45) hx hb dX2_movePeripheral_39 (by decide) ?_
      exact J1 1 _ _ _ (lv_sub hl [0, 1, 2, 3] rfl) hP hS hs
theorem kX2_movePeripheral {p : Program} {l : Launch} {e : Env} {R : Room} {s : State} {m : MethodId} {args : Array Value} {below : List Frame} {meth : Method} {c : Code} {H : Heap} {locs : List Loc} {cells slots : Nat} {Q : State → Prop} {cc : ByteArray} {pc nL : Nat} {ls : Array Slot} {rest : List Value} {D : va_G} {ad : Nat → Nat} {cI cB : ClassId} {en : Nat → Nat} {S : St} {own : String} {index : Nat} {x1 : Int32} {So : St} (C : CallFix p m c cc nL s args wG own) (hlk : Cond.methodLink own index yX2_movePeripheral ∈ wG) (hR : rmX2_movePeripheral.frames + 1 ≤ R.frames ∧ 8 + (8 + 11) + rmX2_movePeripheral.locals ≤ R.locals) (hc : cells ≤ R.cells ∧ slots ≤ R.slots) (hK : KB D ad cI cB en s) (hP : va_P D vwCl (wB ad cI cB S) H) (hS : va_S (AX 10 ad s.heap.size) s.heap H locs) (hls : ls.size = nL) (hrest : (rest.map fun v => v.category).sum ≤ 8) (hd : decode cc pc = .ok (.invokevirtual index, 3)) (hs : fX2_movePeripheral x1 S = some So) (k : ∀ (H : Heap) (locs : List Loc), va_P D vwCl (wB ad cI cB So) H → va_S (AX 10 ad s.heap.size) s.heap H locs → W p l e R s m args below meth c H locs cells slots Q (F0 m (pc + 3) ls (rest))) : W p l e R s m args below meth c H locs cells slots Q (F0 m pc ls (.int x1 :: .ref (ad 4) :: rest)) :=
  u_callV (n := 1) (mX2_movePeripheral l D ad cI cB en S x1 So hs) C uK_B (wg_V hlk tI_X2_movePeripheral tS_X2_movePeripheral tN_X2 tK_X2_movePeripheral) rfl rfl rfl (by decide +kernel) hR rfl (va_recv hK.1 hP (ci := 2) (q0 := 4) rfl rfl) hK hP hS hls hrest hd hc rfl k
def fX2_isTo (x0 : Int32) (S : St) : Option (Bool × St) :=
    (if (x0 &&& 256) = 0 then (some (false, S))
    else (some (true, S)))
abbrev rmX2_isTo : Room := { frames := 0, cells := 0, slots := 0, locals := 0 }
set_option maxRecDepth 100000 in
set_option maxHeartbeats 4000000 in
theorem mX2_isTo (l : Launch) (D : va_G) (ad : Nat → Nat) (cI cB : ClassId) (en : Nat → Nat) (S : St) (x0 : Int32) (ro : Bool) (So : St) (hs : fX2_isTo x0 S = some (ro, So)) : uM l yX2_isTo (wg yX2_isTo cX2_isTo 1 (some .boolean)) rmX2_isTo (KB D ad cI cB en) D (wB ad cI cB) (AX 10 ad) [.int x0] S (some (.int (zI ro)), So) := by
  refine uM_start (by decide) rfl ?_
  intro p e s m below meth c hx hb hr hlocks hml hown hts hK hP
  have hT : ∀ w ∈ wG, w.before _ s = true := fun w h => hts w (List.mem_cons_of_mem _ h)
  have hS : va_S (AX 10 ad s.heap.size) s.heap s.heap [] := va_S.rf
  have hown : s.vm.findClass RX2 = some m.cls := hown
  have C : CallFix p m c cX2_isTo 1 s _ wG RX2 := ⟨hx, hb, hml, hown, hT⟩
  have hl := lv_entry ([.int x0]) (n := 1) (Nat.le_of_ble_eq_true rfl)
  rw [lg_entry_eq]
  generalize (lg_sl ([.int x0]) ++ List.replicate (1 - (lg_sl ([.int x0])).length) Slot.unset).toArray = ls at hl ⊢
  have hl : lv_has ls 1 [(0, .int x0)] := hl
  unfold fX2_isTo at hs
  refine lv_iload_n hx hb dX2_isTo_0 rfl (lv_at hl 0 rfl) ?_
  refine lv_sipush (v := 256) hx hb dX2_isTo_1 (by decide) ?_
  refine lv_iand hx hb dX2_isTo_4 ?_
  refine lv_if_eq (tgt := 12) hx hb dX2_isTo_5 (by decide) (fun c1 => ?_) (fun c1 => ?_)
  · have hs := if_t c1 hs
    refine lv_iconst (v := 0) hx hb dX2_isTo_12 (by decide) ?_
    exact u_zret (v := false) hx hb hr hlocks hP hS hs dX2_isTo_13
  · have hs := if_f c1 hs
    refine lv_iconst (v := 1) hx hb dX2_isTo_8 (by decide) ?_
    refine lv_goto (tgt := 13) hx hb dX2_isTo_9 (by decide) ?_
    exact u_zret (v := true) hx hb hr hlocks hP hS hs dX2_isTo_13
theorem kX2_isTo {p : Program} {l : Launch} {e : Env} {R : Room} {s : State} {m : MethodId} {args : Array Value} {below : List Frame} {meth : Method} {c : Code} {H : Heap} {locs : List Loc} {cells slots : Nat} {Q : State → Prop} {cc : ByteArray} {pc nL : Nat} {ls : Array Slot} {rest : List Value} {D : va_G} {ad : Nat → Nat} {cI cB : ClassId} {en : Nat → Nat} {S : St} {own : String} {index : Nat} {x0 : Int32} {ro : Bool} {So : St} (C : CallFix p m c cc nL s args wG own) (hlk : Cond.methodLink own index yX2_isTo ∈ wG) (hR : rmX2_isTo.frames + 1 ≤ R.frames ∧ 8 + (1 + 11) + rmX2_isTo.locals ≤ R.locals) (hc : cells ≤ R.cells ∧ slots ≤ R.slots) (hK : KB D ad cI cB en s) (hP : va_P D vwCl (wB ad cI cB S) H) (hS : va_S (AX 10 ad s.heap.size) s.heap H locs) (hls : ls.size = nL) (hrest : (rest.map fun v => v.category).sum ≤ 8) (hd : decode cc pc = .ok (.invokestatic index, 3)) (hs : fX2_isTo x0 S = some (ro, So)) (k : ∀ (H : Heap) (locs : List Loc), va_P D vwCl (wB ad cI cB So) H → va_S (AX 10 ad s.heap.size) s.heap H locs → W p l e R s m args below meth c H locs cells slots Q (F0 m (pc + 3) ls (.int (zI ro) :: rest))) : W p l e R s m args below meth c H locs cells slots Q (F0 m pc ls (.int x0 :: rest)) :=
  u_callS (n := 1) (mX2_isTo l D ad cI cB en S x0 ro So hs) C uK_B (wg_S hlk tI_X2_isTo tN_X2 tK_X2_isTo) rfl rfl rfl (by decide +kernel) hR rfl hK hP hS hls hrest hd hc rfl k
def fX2_misfits (x1 : Int32) (x2 : Int32) (S : St) : Option (Bool × St) :=
    (bd (fX0_kind x2 S) fun r1 S1 => (if ((ush x1 r1) &&& 1) = 0 then (bv (fX0_raise 4 S1) fun S2 => (some (true, S2)))
    else (some (false, S1))))
abbrev rmX2_misfits : Room := { frames := 1, cells := 0, slots := 0, locals := 21 }
set_option maxRecDepth 100000 in
set_option maxHeartbeats 4000000 in
theorem mX2_misfits (l : Launch) (D : va_G) (ad : Nat → Nat) (cI cB : ClassId) (en : Nat → Nat) (S : St) (x1 : Int32) (x2 : Int32) (ro : Bool) (So : St) (hs : fX2_misfits x1 x2 S = some (ro, So)) : uM l yX2_misfits (wg yX2_misfits cX2_misfits 3 (some .boolean)) rmX2_misfits (KB D ad cI cB en) D (wB ad cI cB) (AX 10 ad) [.ref (ad 4), .int x1, .int x2] S (some (.int (zI ro)), So) := by
  refine uM_start (by decide) rfl ?_
  intro p e s m below meth c hx hb hr hlocks hml hown hts hK hP
  have hT : ∀ w ∈ wG, w.before _ s = true := fun w h => hts w (List.mem_cons_of_mem _ h)
  have hS : va_S (AX 10 ad s.heap.size) s.heap s.heap [] := va_S.rf
  have hown : s.vm.findClass RX2 = some m.cls := hown
  have C : CallFix p m c cX2_misfits 3 s _ wG RX2 := ⟨hx, hb, hml, hown, hT⟩
  have hl := lv_entry ([.ref (ad 4), .int x1, .int x2]) (n := 3) (Nat.le_of_ble_eq_true rfl)
  rw [lg_entry_eq]
  generalize (lg_sl ([.ref (ad 4), .int x1, .int x2]) ++ List.replicate (3 - (lg_sl ([.ref (ad 4), .int x1, .int x2])).length) Slot.unset).toArray = ls at hl ⊢
  have hl : lv_has ls 3 [(0, .ref (ad 4)), (1, .int x1), (2, .int x2)] := hl
  unfold fX2_misfits at hs
  refine lv_iload_n hx hb dX2_misfits_0 rfl (lv_at hl 1 rfl) ?_
  refine lv_iload_n hx hb dX2_misfits_1 rfl (lv_at hl 2 rfl) ?_
  obtain ⟨r1, S1, h1, hs⟩ := bd_e hs
  refine kX0_kind C tM_X2_85 ⟨Nat.le_of_ble_eq_true rfl, Nat.le_of_ble_eq_true rfl⟩ ⟨Nat.le_of_ble_eq_true rfl, Nat.le_of_ble_eq_true rfl⟩ hK hP hS hl.1 (rest := [.int x1]) (Nat.le_of_ble_eq_true rfl) dX2_misfits_2 h1 (fun H locs hP hS => ?_)
  refine lv_iushr (v := (ush x1 r1)) hx hb dX2_misfits_5 rfl ?_
  refine lv_iconst (v := 1) hx hb dX2_misfits_6 (by decide) ?_
  refine lv_iand hx hb dX2_misfits_7 ?_
  refine lv_if_eq (tgt := 13) hx hb dX2_misfits_8 (by decide) (fun c1 => ?_) (fun c1 => ?_)
  · have hs := if_t c1 hs
    refine lv_aload_n hx hb dX2_misfits_13 rfl (lv_at hl 0 rfl) ?_
    refine gB_X2_access hx hb hT hown hK hP (hT _ tF_X2_15) dX2_misfits_14 ?_
    refine lv_iconst (v := 4) hx hb dX2_misfits_17 (by decide) ?_
    obtain ⟨S2, h2, hs⟩ := bv_e hs
    refine kX0_raise C tM_X2_71 ⟨Nat.le_of_ble_eq_true rfl, Nat.le_of_ble_eq_true rfl⟩ ⟨Nat.le_of_ble_eq_true rfl, Nat.le_of_ble_eq_true rfl⟩ hK hP hS hl.1 (rest := []) (Nat.le_of_ble_eq_true rfl) dX2_misfits_18 h2 (fun H locs hP hS => ?_)
    refine lv_iconst (v := 1) hx hb dX2_misfits_21 (by decide) ?_
    exact u_zret (v := true) hx hb hr hlocks hP hS hs dX2_misfits_22
  · have hs := if_f c1 hs
    refine lv_iconst (v := 0) hx hb dX2_misfits_11 (by decide) ?_
    exact u_zret (v := false) hx hb hr hlocks hP hS hs dX2_misfits_12
theorem kX2_misfits {p : Program} {l : Launch} {e : Env} {R : Room} {s : State} {m : MethodId} {args : Array Value} {below : List Frame} {meth : Method} {c : Code} {H : Heap} {locs : List Loc} {cells slots : Nat} {Q : State → Prop} {cc : ByteArray} {pc nL : Nat} {ls : Array Slot} {rest : List Value} {D : va_G} {ad : Nat → Nat} {cI cB : ClassId} {en : Nat → Nat} {S : St} {own : String} {index : Nat} {x1 : Int32} {x2 : Int32} {ro : Bool} {So : St} (C : CallFix p m c cc nL s args wG own) (hlk : Cond.methodLink own index yX2_misfits ∈ wG) (hR : rmX2_misfits.frames + 1 ≤ R.frames ∧ 8 + (3 + 11) + rmX2_misfits.locals ≤ R.locals) (hc : cells ≤ R.cells ∧ slots ≤ R.slots) (hK : KB D ad cI cB en s) (hP : va_P D vwCl (wB ad cI cB S) H) (hS : va_S (AX 10 ad s.heap.size) s.heap H locs) (hls : ls.size = nL) (hrest : (rest.map fun v => v.category).sum ≤ 8) (hd : decode cc pc = .ok (.invokevirtual index, 3)) (hs : fX2_misfits x1 x2 S = some (ro, So)) (k : ∀ (H : Heap) (locs : List Loc), va_P D vwCl (wB ad cI cB So) H → va_S (AX 10 ad s.heap.size) s.heap H locs → W p l e R s m args below meth c H locs cells slots Q (F0 m (pc + 3) ls (.int (zI ro) :: rest))) : W p l e R s m args below meth c H locs cells slots Q (F0 m pc ls (.int x2 :: .int x1 :: .ref (ad 4) :: rest)) :=
  u_callV (n := 2) (mX2_misfits l D ad cI cB en S x1 x2 ro So hs) C uK_B (wg_V hlk tI_X2_misfits tS_X2_misfits tN_X2 tK_X2_misfits) rfl rfl rfl (by decide +kernel) hR rfl (va_recv hK.1 hP (ci := 2) (q0 := 4) rfl rfl) hK hP hS hls hrest hd hc rfl k
def fX2_bit (x1 : Int32) (x2 : Int32) (z3 : Bool) (S : St) : Option St :=
    (bd (fX2_operand x1 S) fun r1 S1 => (bd (fX2_misfits x2 r1 S1) fun b1 S2 => (if (zI b1) = 0 then (jn (fun (v1 : Int32) (S3 : St) => (bd (fX2_operand x1 S3) fun r2 S4 => (jn (fun (e1 : Nat) => (gd (e1 < 3) (bd (fX2_operand x1 S4) fun r3 S5 => (bd (fX0_locate e1 r3 S5) fun w1 S6 => (bd (fX0_load e1 w1 S6) fun r4 S7 => (lt ((1 <<< ((v1 &&& ((8 * (szB e1)) - 1)) &&& 31)) : Int32) fun v2 => (jn (fun (b2 : Bool) => (bv (fX4_mark 4 b2 S7) fun S8 => (bd (fX2_sizeBits x1 S8) fun r5 S9 => (if r5 = 0 then (some S9)
    else (if r5 = 1 then (bv (fX0_store e1 w1 (r4 ^^^ v2) S9) fun S10 => (some S10))
    else (if r5 = 2 then (bv (fX0_store e1 w1 (r4 &&& (v2 ^^^ (-1 : Int32))) S9) fun S11 => (some S11))
    else (bv (fX0_store e1 w1 (r4 ||| v2) S9) fun S12 => (some S12)))))))) fun K3 =>
    (if (r4 &&& v2) = 0 then (K3 true)
    else (K3 false))))))))) fun K2 =>
    (if 8 ≤ r2 then (K2 0)
    else (K2 2))))) fun K1 =>
    (if (zI z3) = 0 then (bd (fX2_upper x1 S2) fun r6 S13 => (bd (fX4_get r6 S13) fun r7 S14 => (K1 r7 S14)))
    else (bd (fX0_nextWord S2) fun r8 S15 => (K1 r8 S15))))
    else (some S2))))
abbrev rmX2_bit : Room := { frames := 3, cells := 0, slots := 0, locals := 73 }
set_option maxRecDepth 100000 in
set_option maxHeartbeats 4000000 in
theorem mX2_bit (l : Launch) (D : va_G) (ad : Nat → Nat) (cI cB : ClassId) (en : Nat → Nat) (S : St) (x1 : Int32) (x2 : Int32) (z3 : Bool) (So : St) (hs : fX2_bit x1 x2 z3 S = some So) : uM l yX2_bit (wg yX2_bit cX2_bit 10 none) rmX2_bit (KB D ad cI cB en) D (wB ad cI cB) (AX 10 ad) [.ref (ad 4), .int x1, .int x2, .int (zI z3)] S (none, So) := by
  refine uM_start (by decide) rfl ?_
  intro p e s m below meth c hx hb hr hlocks hml hown hts hK hP
  have hT : ∀ w ∈ wG, w.before _ s = true := fun w h => hts w (List.mem_cons_of_mem _ h)
  have hS : va_S (AX 10 ad s.heap.size) s.heap s.heap [] := va_S.rf
  have hown : s.vm.findClass RX2 = some m.cls := hown
  have C : CallFix p m c cX2_bit 10 s _ wG RX2 := ⟨hx, hb, hml, hown, hT⟩
  have hl := lv_entry ([.ref (ad 4), .int x1, .int x2, .int (zI z3)]) (n := 10) (Nat.le_of_ble_eq_true rfl)
  rw [lg_entry_eq]
  generalize (lg_sl ([.ref (ad 4), .int x1, .int x2, .int (zI z3)]) ++ List.replicate (10 - (lg_sl ([.ref (ad 4), .int x1, .int x2, .int (zI z3)])).length) Slot.unset).toArray = ls at hl ⊢
  have hl : lv_has ls 10 [(0, .ref (ad 4)), (1, .int x1), (2, .int x2), (3, .int (zI z3))] := hl
  unfold fX2_bit at hs
  refine lv_aload_n hx hb dX2_bit_0 rfl (lv_at hl 0 rfl) ?_
  refine lv_iload_n hx hb dX2_bit_1 rfl (lv_at hl 2 rfl) ?_
  refine lv_iload_n hx hb dX2_bit_2 rfl (lv_at hl 1 rfl) ?_
  obtain ⟨r1, S1, h1, hs⟩ := bd_e hs
  refine kX2_operand C tM_X2_95 ⟨Nat.le_of_ble_eq_true rfl, Nat.le_of_ble_eq_true rfl⟩ ⟨Nat.le_of_ble_eq_true rfl, Nat.le_of_ble_eq_true rfl⟩ hK hP hS hl.1 (rest := [.int x2, .ref (ad 4)]) (Nat.le_of_ble_eq_true rfl) dX2_bit_3 h1 (fun H locs hP hS => ?_)
  obtain ⟨b1, S2, h2, hs⟩ := bd_e hs
  refine kX2_misfits C tM_X2_146 ⟨Nat.le_of_ble_eq_true rfl, Nat.le_of_ble_eq_true rfl⟩ ⟨Nat.le_of_ble_eq_true rfl, Nat.le_of_ble_eq_true rfl⟩ hK hP hS hl.1 (rest := []) (Nat.le_of_ble_eq_true rfl) dX2_bit_6 h2 (fun H locs hP hS => ?_)
  refine lv_if_eq (tgt := 13) hx hb dX2_bit_9 (by decide) (fun c1 => ?_) (fun c1 => ?_)
  · have hs := if_t c1 hs
    refine lv_iload_n hx hb dX2_bit_13 rfl (lv_at hl 3 rfl) ?_
    refine jn_e hs (fun K1 => ∀ (v1 : Int32) (S3 : St) (H : Heap) (locs : List Loc) (ls : Array Slot), lv_has ls 10 [(0, .ref (ad 4)), (1, .int x1)] → va_P D vwCl (wB ad cI cB S3) H → va_S (AX 10 ad s.heap.size) s.heap H locs → K1 v1 S3 = some So → W p l e rmX2_bit s m ([.ref (ad 4), .int x1, .int x2, .int (zI z3)] : List Value).toArray below meth c H locs 0 0 (MQ below (uQ D (wB ad cI cB) (none, So) (AX 10 ad s.heap.size)) ([.ref (ad 4), .int x1, .int x2, .int (zI z3)] : List Value).toArray s 0 0 (AX 10 ad s.heap.size)) (F0 m 38 ls [.int v1])) ?_ (fun K1 J1 hs => ?_)
    · intro v1 S3 H locs ls hl hP hS hs
      refine lv_istore (lv' := [(4, .int v1), (0, .ref (ad 4)), (1, .int x1)]) hx hb dX2_bit_38 hl (by decide) rfl (fun ls hl => ?_)
      refine lv_iload_n hx hb dX2_bit_40 rfl (lv_at hl 2 rfl) ?_
      obtain ⟨r2, S4, h3, hs⟩ := bd_e hs
      refine kX2_operand C tM_X2_95 ⟨Nat.le_of_ble_eq_true rfl, Nat.le_of_ble_eq_true rfl⟩ ⟨Nat.le_of_ble_eq_true rfl, Nat.le_of_ble_eq_true rfl⟩ hK hP hS hl.1 (rest := []) (Nat.le_of_ble_eq_true rfl) dX2_bit_41 h3 (fun H locs hP hS => ?_)
      refine lv_bipush (v := 8) hx hb dX2_bit_44 (by decide) ?_
      refine jn_e hs (fun K2 => ∀ (e1 : Nat) (H : Heap) (locs : List Loc) (ls : Array Slot), lv_has ls 10 [(4, .int v1), (0, .ref (ad 4)), (1, .int x1)] → va_P D vwCl (wB ad cI cB S4) H → va_S (AX 10 ad s.heap.size) s.heap H locs → K2 e1 = some So → W p l e rmX2_bit s m ([.ref (ad 4), .int x1, .int x2, .int (zI z3)] : List Value).toArray below meth c H locs 0 0 (MQ below (uQ D (wB ad cI cB) (none, So) (AX 10 ad s.heap.size)) ([.ref (ad 4), .int x1, .int x2, .int (zI z3)] : List Value).toArray s 0 0 (AX 10 ad s.heap.size)) (F0 m 58 ls [.ref (en e1)])) ?_ (fun K2 J2 hs => ?_)
      · intro e1 H locs ls hl hP hS hs
        obtain ⟨h4, hs⟩ := gd_e hs
        refine lv_astore (lv' := [(5, .ref (en e1)), (4, .int v1), (0, .ref (ad 4)), (1, .int x1)]) hx hb dX2_bit_58 hl (by decide) rfl (fun ls hl => ?_)
        refine lv_aload_n hx hb dX2_bit_60 rfl (lv_at hl 2 rfl) ?_
        refine gB_X2_access hx hb hT hown hK hP (hT _ tF_X2_15) dX2_bit_61 ?_
        refine lv_aload hx hb dX2_bit_64 (lv_at hl 0 rfl) ?_
        refine lv_iload_n hx hb dX2_bit_66 rfl (lv_at hl 3 rfl) ?_
        obtain ⟨r3, S5, h5, hs⟩ := bd_e hs
        refine kX2_operand C tM_X2_95 ⟨Nat.le_of_ble_eq_true rfl, Nat.le_of_ble_eq_true rfl⟩ ⟨Nat.le_of_ble_eq_true rfl, Nat.le_of_ble_eq_true rfl⟩ hK hP hS hl.1 (rest := [.ref (en e1), .ref (ad 3)]) (Nat.le_of_ble_eq_true rfl) dX2_bit_67 h5 (fun H locs hP hS => ?_)
        obtain ⟨w1, S6, h6, hs⟩ := bd_e hs
        refine kX0_locate C tM_X2_150 ⟨Nat.le_of_ble_eq_true rfl, Nat.le_of_ble_eq_true rfl⟩ ⟨Nat.le_of_ble_eq_true rfl, Nat.le_of_ble_eq_true rfl⟩ hK hP hS hl.1 (rest := []) (Nat.le_of_ble_eq_true rfl) dX2_bit_70 h6 (fun H locs hP hS => ?_)
        refine lv_lstore (lv' := [(6, .long w1), (5, .ref (en e1)), (4, .int v1), (0, .ref (ad 4)), (1, .int x1)]) hx hb dX2_bit_73 hl (by decide) rfl (fun ls hl => ?_)
        refine lv_aload_n hx hb dX2_bit_75 rfl (lv_at hl 3 rfl) ?_
        refine gB_X2_access hx hb hT hown hK hP (hT _ tF_X2_15) dX2_bit_76 ?_
        refine lv_aload hx hb dX2_bit_79 (lv_at hl 1 rfl) ?_
        refine lv_lload hx hb dX2_bit_81 (lv_at hl 0 rfl) ?_
        obtain ⟨r4, S7, h7, hs⟩ := bd_e hs
        refine kX0_load C tM_X2_154 ⟨Nat.le_of_ble_eq_true rfl, Nat.le_of_ble_eq_true rfl⟩ ⟨Nat.le_of_ble_eq_true rfl, Nat.le_of_ble_eq_true rfl⟩ hK hP hS hl.1 (rest := []) (Nat.le_of_ble_eq_true rfl) dX2_bit_83 h7 (fun H locs hP hS => ?_)
        refine lv_istore (lv' := [(8, .int r4), (6, .long w1), (5, .ref (en e1)), (4, .int v1), (0, .ref (ad 4)), (1, .int x1)]) hx hb dX2_bit_86 hl (by decide) rfl (fun ls hl => ?_)
        refine lv_iconst (v := 1) hx hb dX2_bit_88 (by decide) ?_
        refine lv_iload hx hb dX2_bit_89 (lv_at hl 3 rfl) ?_
        refine lv_bipush (v := 8) hx hb dX2_bit_91 (by decide) ?_
        refine lv_aload hx hb dX2_bit_93 (lv_at hl 2 rfl) ?_
        refine gE_bytes hx hb hown hK hS h4 (hT _ tF_X2_131) dX2_bit_95 ?_
        refine lv_imul hx hb dX2_bit_98 ?_
        refine lv_iconst (v := 1) hx hb dX2_bit_99 (by decide) ?_
        refine lv_isub hx hb dX2_bit_100 ?_
        refine lv_iand hx hb dX2_bit_101 ?_
        refine lv_ishl hx hb dX2_bit_102 ?_
        obtain ⟨v2, h8, hs⟩ := lt_e hs
        refine u_top h8 ?_
        refine lv_istore (lv' := [(9, .int v2), (8, .int r4), (6, .long w1), (5, .ref (en e1)), (4, .int v1), (0, .ref (ad 4)), (1, .int x1)]) hx hb dX2_bit_103 hl (by decide) rfl (fun ls hl => ?_)
        refine lv_aload_n hx hb dX2_bit_105 rfl (lv_at hl 5 rfl) ?_
        refine gB_X2_registers hx hb hT hown hK hP (hT _ tF_X2_9) dX2_bit_106 ?_
        refine lv_iconst (v := 4) hx hb dX2_bit_109 (by decide) ?_
        refine lv_iload hx hb dX2_bit_110 (lv_at hl 1 rfl) ?_
        refine lv_iload hx hb dX2_bit_112 (lv_at hl 0 rfl) ?_
        refine lv_iand hx hb dX2_bit_114 ?_
        refine jn_e hs (fun K3 => ∀ (b2 : Bool) (H : Heap) (locs : List Loc) (ls : Array Slot), lv_has ls 10 [(9, .int v2), (8, .int r4), (6, .long w1), (5, .ref (en e1)), (0, .ref (ad 4)), (1, .int x1)] → va_P D vwCl (wB ad cI cB S7) H → va_S (AX 10 ad s.heap.size) s.heap H locs → K3 b2 = some So → W p l e rmX2_bit s m ([.ref (ad 4), .int x1, .int x2, .int (zI z3)] : List Value).toArray below meth c H locs 0 0 (MQ below (uQ D (wB ad cI cB) (none, So) (AX 10 ad s.heap.size)) ([.ref (ad 4), .int x1, .int x2, .int (zI z3)] : List Value).toArray s 0 0 (AX 10 ad s.heap.size)) (F0 m 123 ls [.int (zI b2), .int 4, .ref (ad 2)])) ?_ (fun K3 J3 hs => ?_)
        · intro b2 H locs ls hl hP hS hs
          obtain ⟨S8, h9, hs⟩ := bv_e hs
          refine kX4_mark C tM_X2_158 ⟨Nat.le_of_ble_eq_true rfl, Nat.le_of_ble_eq_true rfl⟩ ⟨Nat.le_of_ble_eq_true rfl, Nat.le_of_ble_eq_true rfl⟩ hK hP hS hl.1 (rest := []) (Nat.le_of_ble_eq_true rfl) dX2_bit_123 h9 (fun H locs hP hS => ?_)
          refine lv_iload_n hx hb dX2_bit_126 rfl (lv_at hl 5 rfl) ?_
          obtain ⟨r5, S9, h10, hs⟩ := bd_e hs
          refine kX2_sizeBits C tM_X2_98 ⟨Nat.le_of_ble_eq_true rfl, Nat.le_of_ble_eq_true rfl⟩ ⟨Nat.le_of_ble_eq_true rfl, Nat.le_of_ble_eq_true rfl⟩ hK hP hS hl.1 (rest := []) (Nat.le_of_ble_eq_true rfl) dX2_bit_127 h10 (fun H locs hP hS => ?_)
          by_cases c2 : r5 = 0
          · have hs := if_t c2 hs
            refine u_table (k := 0) (a := 0) (off := 26) (tgt := 156) hx hb dX2_bit_130 c2 (by decide) (by decide) (by decide) (by decide) (by decide) ?_
            refine lv_goto (tgt := 215) hx hb dX2_bit_156 (by decide) ?_
            exact u_vret hx hb hr hlocks hP hS hs dX2_bit_215
          have hs := if_f c2 hs
          by_cases c3 : r5 = 1
          · have hs := if_t c3 hs
            refine u_table (k := 1) (a := 1) (off := 29) (tgt := 159) hx hb dX2_bit_130 c3 (by decide) (by decide) (by decide) (by decide) (by decide) ?_
            refine lv_aload_n hx hb dX2_bit_159 rfl (lv_at hl 4 rfl) ?_
            refine gB_X2_access hx hb hT hown hK hP (hT _ tF_X2_15) dX2_bit_160 ?_
            refine lv_aload hx hb dX2_bit_163 (lv_at hl 3 rfl) ?_
            refine lv_lload hx hb dX2_bit_165 (lv_at hl 2 rfl) ?_
            refine lv_iload hx hb dX2_bit_167 (lv_at hl 1 rfl) ?_
            refine lv_iload hx hb dX2_bit_169 (lv_at hl 0 rfl) ?_
            refine lv_ixor hx hb dX2_bit_171 ?_
            obtain ⟨S10, h11, hs⟩ := bv_e hs
            refine kX0_store C tM_X2_161 ⟨Nat.le_of_ble_eq_true rfl, Nat.le_of_ble_eq_true rfl⟩ ⟨Nat.le_of_ble_eq_true rfl, Nat.le_of_ble_eq_true rfl⟩ hK hP hS hl.1 (rest := []) (Nat.le_of_ble_eq_true rfl) dX2_bit_172 h11 (fun H locs hP hS => ?_)
            refine lv_goto (tgt := 215) hx hb dX2_bit_175 (by decide) ?_
            exact u_vret hx hb hr hlocks hP hS hs dX2_bit_215
          have hs := if_f c3 hs
          by_cases c4 : r5 = 2
          · have hs := if_t c4 hs
            refine u_table (k := 2) (a := 2) (off := 48) (tgt := 178) hx hb dX2_bit_130 c4 (by decide) (by decide) (by decide) (by decide) (by decide) ?_
            refine lv_aload_n hx hb dX2_bit_178 rfl (lv_at hl 4 rfl) ?_
            refine gB_X2_access hx hb hT hown hK hP (hT _ tF_X2_15) dX2_bit_179 ?_
            refine lv_aload hx hb dX2_bit_182 (lv_at hl 3 rfl) ?_
            refine lv_lload hx hb dX2_bit_184 (lv_at hl 2 rfl) ?_
            refine lv_iload hx hb dX2_bit_186 (lv_at hl 1 rfl) ?_
            refine lv_iload hx hb dX2_bit_188 (lv_at hl 0 rfl) ?_
            refine lv_iconst (v := (-1 : Int32)) hx hb dX2_bit_190 (by decide) ?_
            refine lv_ixor hx hb dX2_bit_191 ?_
            refine lv_iand hx hb dX2_bit_192 ?_
            obtain ⟨S11, h12, hs⟩ := bv_e hs
            refine kX0_store C tM_X2_161 ⟨Nat.le_of_ble_eq_true rfl, Nat.le_of_ble_eq_true rfl⟩ ⟨Nat.le_of_ble_eq_true rfl, Nat.le_of_ble_eq_true rfl⟩ hK hP hS hl.1 (rest := []) (Nat.le_of_ble_eq_true rfl) dX2_bit_193 h12 (fun H locs hP hS => ?_)
            refine lv_goto (tgt := 215) hx hb dX2_bit_196 (by decide) ?_
            exact u_vret hx hb hr hlocks hP hS hs dX2_bit_215
          have hs := if_f c4 hs
          refine u_tableD (tgt := 199) hx hb dX2_bit_130 (fun hlo hhi => ?_) (by decide) ?_
          · have hz : (r5).toInt = 0 ∨ (r5).toInt = 1 ∨ (r5).toInt = 2 := by omega
            rcases hz with hz | hz | hz
            · exact absurd hz (lv_neT c2 (by decide))
            · exact absurd hz (lv_neT c3 (by decide))
            · exact absurd hz (lv_neT c4 (by decide))
          refine lv_aload_n hx hb dX2_bit_199 rfl (lv_at hl 4 rfl) ?_
          refine gB_X2_access hx hb hT hown hK hP (hT _ tF_X2_15) dX2_bit_200 ?_
          refine lv_aload hx hb dX2_bit_203 (lv_at hl 3 rfl) ?_
          refine lv_lload hx hb dX2_bit_205 (lv_at hl 2 rfl) ?_
          refine lv_iload hx hb dX2_bit_207 (lv_at hl 1 rfl) ?_
          refine lv_iload hx hb dX2_bit_209 (lv_at hl 0 rfl) ?_
          refine lv_ior hx hb dX2_bit_211 ?_
          obtain ⟨S12, h13, hs⟩ := bv_e hs
          refine kX0_store C tM_X2_161 ⟨Nat.le_of_ble_eq_true rfl, Nat.le_of_ble_eq_true rfl⟩ ⟨Nat.le_of_ble_eq_true rfl, Nat.le_of_ble_eq_true rfl⟩ hK hP hS hl.1 (rest := []) (Nat.le_of_ble_eq_true rfl) dX2_bit_212 h13 (fun H locs hP hS => ?_)
          exact u_vret hx hb hr hlocks hP hS hs dX2_bit_215
        ·
          refine lv_if_ne (tgt := 122) hx hb dX2_bit_115 (by decide) (fun c5 => ?_) (fun c5 => ?_)
          · have hs := if_f c5 hs
            refine lv_iconst (v := 0) hx hb dX2_bit_122 (by decide) ?_
            exact J3 false _ _ _ (lv_sub hl [0, 1, 2, 3, 5, 6] rfl) hP hS hs
          · have hs := if_t c5 hs
            refine lv_iconst (v := 1) hx hb dX2_bit_118 (by decide) ?_
            refine lv_goto (tgt := 123) hx hb dX2_bit_119 (by decide) ?_
            exact J3 true _ _ _ (lv_sub hl [0, 1, 2, 3, 5, 6] rfl) hP hS hs
      ·
        refine lv_icmp_ge (tgt := 55) hx hb dX2_bit_46 (by decide) (fun c6 => ?_) (fun c6 => ?_)
        · have hs := if_t c6 hs
          refine gS_BYTE hx hb hown hK hS (hT _ tF_X2_36) dX2_bit_55 ?_
          exact J2 0 _ _ _ (lv_sub hl [0, 1, 2] rfl) hP hS hs
        · have hs := if_f c6 hs
          refine gS_LONG hx hb hown hK hS (hT _ tF_X2_46) dX2_bit_49 ?_
          refine lv_goto (tgt := 58) hx hb dX2_bit_52 (by decide) ?_
          exact J2 2 _ _ _ (lv_sub hl [0, 1, 2] rfl) hP hS hs
    ·
      refine lv_if_eq (tgt := 27) hx hb dX2_bit_14 (by decide) (fun c7 => ?_) (fun c7 => ?_)
      · have hs := if_t c7 hs
        refine lv_aload_n hx hb dX2_bit_27 rfl (lv_at hl 0 rfl) ?_
        refine gB_X2_registers hx hb hT hown hK hP (hT _ tF_X2_9) dX2_bit_28 ?_
        refine lv_iload_n hx hb dX2_bit_31 rfl (lv_at hl 1 rfl) ?_
        obtain ⟨r6, S13, h14, hs⟩ := bd_e hs
        refine kX2_upper C tM_X2_101 ⟨Nat.le_of_ble_eq_true rfl, Nat.le_of_ble_eq_true rfl⟩ ⟨Nat.le_of_ble_eq_true rfl, Nat.le_of_ble_eq_true rfl⟩ hK hP hS hl.1 (rest := [.ref (ad 2)]) (Nat.le_of_ble_eq_true rfl) dX2_bit_32 h14 (fun H locs hP hS => ?_)
        obtain ⟨r7, S14, h15, hs⟩ := bd_e hs
        refine kX4_get C tM_X2_124 ⟨Nat.le_of_ble_eq_true rfl, Nat.le_of_ble_eq_true rfl⟩ ⟨Nat.le_of_ble_eq_true rfl, Nat.le_of_ble_eq_true rfl⟩ hK hP hS hl.1 (rest := []) (Nat.le_of_ble_eq_true rfl) dX2_bit_35 h15 (fun H locs hP hS => ?_)
        exact J1 r7 S14 _ _ _ (lv_sub hl [0, 1] rfl) hP hS hs
      · have hs := if_f c7 hs
        refine lv_aload_n hx hb dX2_bit_17 rfl (lv_at hl 0 rfl) ?_
        refine gB_X2_access hx hb hT hown hK hP (hT _ tF_X2_15) dX2_bit_18 ?_
        obtain ⟨r8, S15, h16, hs⟩ := bd_e hs
        refine kX0_nextWord C tM_X2_127 ⟨Nat.le_of_ble_eq_true rfl, Nat.le_of_ble_eq_true rfl⟩ ⟨Nat.le_of_ble_eq_true rfl, Nat.le_of_ble_eq_true rfl⟩ hK hP hS hl.1 (rest := []) (Nat.le_of_ble_eq_true rfl) dX2_bit_21 h16 (fun H locs hP hS => ?_)
        refine lv_goto (tgt := 38) hx hb dX2_bit_24 (by decide) ?_
        exact J1 r8 S15 _ _ _ (lv_sub hl [0, 1] rfl) hP hS hs
  · have hs := if_f c1 hs
    exact u_vret hx hb hr hlocks hP hS hs dX2_bit_12
theorem kX2_bit {p : Program} {l : Launch} {e : Env} {R : Room} {s : State} {m : MethodId} {args : Array Value} {below : List Frame} {meth : Method} {c : Code} {H : Heap} {locs : List Loc} {cells slots : Nat} {Q : State → Prop} {cc : ByteArray} {pc nL : Nat} {ls : Array Slot} {rest : List Value} {D : va_G} {ad : Nat → Nat} {cI cB : ClassId} {en : Nat → Nat} {S : St} {own : String} {index : Nat} {x1 : Int32} {x2 : Int32} {z3 : Bool} {So : St} (C : CallFix p m c cc nL s args wG own) (hlk : Cond.methodLink own index yX2_bit ∈ wG) (hR : rmX2_bit.frames + 1 ≤ R.frames ∧ 8 + (10 + 11) + rmX2_bit.locals ≤ R.locals) (hc : cells ≤ R.cells ∧ slots ≤ R.slots) (hK : KB D ad cI cB en s) (hP : va_P D vwCl (wB ad cI cB S) H) (hS : va_S (AX 10 ad s.heap.size) s.heap H locs) (hls : ls.size = nL) (hrest : (rest.map fun v => v.category).sum ≤ 8) (hd : decode cc pc = .ok (.invokevirtual index, 3)) (hs : fX2_bit x1 x2 z3 S = some So) (k : ∀ (H : Heap) (locs : List Loc), va_P D vwCl (wB ad cI cB So) H → va_S (AX 10 ad s.heap.size) s.heap H locs → W p l e R s m args below meth c H locs cells slots Q (F0 m (pc + 3) ls (rest))) : W p l e R s m args below meth c H locs cells slots Q (F0 m pc ls (.int (zI z3) :: .int x2 :: .int x1 :: .ref (ad 4) :: rest)) :=
  u_callV (n := 3) (mX2_bit l D ad cI cB en S x1 x2 z3 So hs) C uK_B (wg_V hlk tI_X2_bit tS_X2_bit tN_X2 tK_X2_bit) rfl rfl rfl (by decide +kernel) hR rfl (va_recv hK.1 hP (ci := 2) (q0 := 4) rfl rfl) hK hP hS hls hrest hd hc rfl k
def fX2_permitted  (S : St) : Option (Bool × St) :=
    (bd (fX4_has 8192 S) fun b1 S1 => (if (zI b1) = 0 then (bv (fX0_raise 8 S1) fun S2 => (some (false, S2)))
    else (some (true, S1))))
abbrev rmX2_permitted : Room := { frames := 1, cells := 0, slots := 0, locals := 21 }
set_option maxRecDepth 100000 in
set_option maxHeartbeats 4000000 in
theorem mX2_permitted (l : Launch) (D : va_G) (ad : Nat → Nat) (cI cB : ClassId) (en : Nat → Nat) (S : St)  (ro : Bool) (So : St) (hs : fX2_permitted  S = some (ro, So)) : uM l yX2_permitted (wg yX2_permitted cX2_permitted 1 (some .boolean)) rmX2_permitted (KB D ad cI cB en) D (wB ad cI cB) (AX 10 ad) [.ref (ad 4)] S (some (.int (zI ro)), So) := by
  refine uM_start (by decide) rfl ?_
  intro p e s m below meth c hx hb hr hlocks hml hown hts hK hP
  have hT : ∀ w ∈ wG, w.before _ s = true := fun w h => hts w (List.mem_cons_of_mem _ h)
  have hS : va_S (AX 10 ad s.heap.size) s.heap s.heap [] := va_S.rf
  have hown : s.vm.findClass RX2 = some m.cls := hown
  have C : CallFix p m c cX2_permitted 1 s _ wG RX2 := ⟨hx, hb, hml, hown, hT⟩
  have hl := lv_entry ([.ref (ad 4)]) (n := 1) (Nat.le_of_ble_eq_true rfl)
  rw [lg_entry_eq]
  generalize (lg_sl ([.ref (ad 4)]) ++ List.replicate (1 - (lg_sl ([.ref (ad 4)])).length) Slot.unset).toArray = ls at hl ⊢
  have hl : lv_has ls 1 [(0, .ref (ad 4))] := hl
  unfold fX2_permitted at hs
  refine lv_aload_n hx hb dX2_permitted_0 rfl (lv_at hl 0 rfl) ?_
  refine gB_X2_registers hx hb hT hown hK hP (hT _ tF_X2_9) dX2_permitted_1 ?_
  refine lv_sipush (v := 8192) hx hb dX2_permitted_4 (by decide) ?_
  obtain ⟨b1, S1, h1, hs⟩ := bd_e hs
  refine kX4_has C tM_X2_89 ⟨Nat.le_of_ble_eq_true rfl, Nat.le_of_ble_eq_true rfl⟩ ⟨Nat.le_of_ble_eq_true rfl, Nat.le_of_ble_eq_true rfl⟩ hK hP hS hl.1 (rest := []) (Nat.le_of_ble_eq_true rfl) dX2_permitted_7 h1 (fun H locs hP hS => ?_)
  refine lv_if_eq (tgt := 15) hx hb dX2_permitted_10 (by decide) (fun c1 => ?_) (fun c1 => ?_)
  · have hs := if_t c1 hs
    refine lv_aload_n hx hb dX2_permitted_15 rfl (lv_at hl 0 rfl) ?_
    refine gB_X2_access hx hb hT hown hK hP (hT _ tF_X2_15) dX2_permitted_16 ?_
    refine lv_bipush (v := 8) hx hb dX2_permitted_19 (by decide) ?_
    obtain ⟨S2, h2, hs⟩ := bv_e hs
    refine kX0_raise C tM_X2_71 ⟨Nat.le_of_ble_eq_true rfl, Nat.le_of_ble_eq_true rfl⟩ ⟨Nat.le_of_ble_eq_true rfl, Nat.le_of_ble_eq_true rfl⟩ hK hP hS hl.1 (rest := []) (Nat.le_of_ble_eq_true rfl) dX2_permitted_21 h2 (fun H locs hP hS => ?_)
    refine lv_iconst (v := 0) hx hb dX2_permitted_24 (by decide) ?_
    exact u_zret (v := false) hx hb hr hlocks hP hS hs dX2_permitted_25
  · have hs := if_f c1 hs
    refine lv_iconst (v := 1) hx hb dX2_permitted_13 (by decide) ?_
    exact u_zret (v := true) hx hb hr hlocks hP hS hs dX2_permitted_14
theorem kX2_permitted {p : Program} {l : Launch} {e : Env} {R : Room} {s : State} {m : MethodId} {args : Array Value} {below : List Frame} {meth : Method} {c : Code} {H : Heap} {locs : List Loc} {cells slots : Nat} {Q : State → Prop} {cc : ByteArray} {pc nL : Nat} {ls : Array Slot} {rest : List Value} {D : va_G} {ad : Nat → Nat} {cI cB : ClassId} {en : Nat → Nat} {S : St} {own : String} {index : Nat}  {ro : Bool} {So : St} (C : CallFix p m c cc nL s args wG own) (hlk : Cond.methodLink own index yX2_permitted ∈ wG) (hR : rmX2_permitted.frames + 1 ≤ R.frames ∧ 8 + (1 + 11) + rmX2_permitted.locals ≤ R.locals) (hc : cells ≤ R.cells ∧ slots ≤ R.slots) (hK : KB D ad cI cB en s) (hP : va_P D vwCl (wB ad cI cB S) H) (hS : va_S (AX 10 ad s.heap.size) s.heap H locs) (hls : ls.size = nL) (hrest : (rest.map fun v => v.category).sum ≤ 8) (hd : decode cc pc = .ok (.invokevirtual index, 3)) (hs : fX2_permitted  S = some (ro, So)) (k : ∀ (H : Heap) (locs : List Loc), va_P D vwCl (wB ad cI cB So) H → va_S (AX 10 ad s.heap.size) s.heap H locs → W p l e R s m args below meth c H locs cells slots Q (F0 m (pc + 3) ls (.int (zI ro) :: rest))) : W p l e R s m args below meth c H locs cells slots Q (F0 m pc ls (.ref (ad 4) :: rest)) :=
  u_callV (n := 0) (mX2_permitted l D ad cI cB en S  ro So hs) C uK_B (wg_V hlk tI_X2_permitted tS_X2_permitted tN_X2 tK_X2_permitted) rfl rfl rfl (by decide +kernel) hR rfl (va_recv hK.1 hP (ci := 2) (q0 := 4) rfl rfl) hK hP hS hls hrest hd hc rfl k
def fX2_joinStatus (x1 : Int32) (z2 : Bool) (S : St) : Option St :=
    (if (zI z2) = 0 then (bd (fX0_nextWord S) fun r1 S1 => (lt ((S1.1 3) : Int32) fun v1 => (jn (fun (v2 : Int32) => (if (zI z2) = 0 then (bv (fX4_setFlags v2 S1) fun S2 => (some S2))
    else (bv (fX4_setStatus v2 S1) fun S3 => (some S3)))) fun K1 =>
    (if x1 = 0 then (K1 (v1 ||| r1))
    else (if x1 = 1 then (K1 (v1 &&& r1))
    else (K1 (v1 ^^^ r1)))))))
    else (bd (fX2_permitted S) fun b1 S4 => (if (zI b1) = 0 then (some S4)
    else (bd (fX0_nextWord S4) fun r2 S5 => (lt ((S5.1 3) : Int32) fun v3 => (jn (fun (v4 : Int32) => (if (zI z2) = 0 then (bv (fX4_setFlags v4 S5) fun S6 => (some S6))
    else (bv (fX4_setStatus v4 S5) fun S7 => (some S7)))) fun K2 =>
    (if x1 = 0 then (K2 (v3 ||| r2))
    else (if x1 = 1 then (K2 (v3 &&& r2))
    else (K2 (v3 ^^^ r2))))))))))
abbrev rmX2_joinStatus : Room := { frames := 2, cells := 0, slots := 0, locals := 45 }
set_option maxRecDepth 100000 in
set_option maxHeartbeats 4000000 in
theorem mX2_joinStatus (l : Launch) (D : va_G) (ad : Nat → Nat) (cI cB : ClassId) (en : Nat → Nat) (S : St) (x1 : Int32) (z2 : Bool) (So : St) (hs : fX2_joinStatus x1 z2 S = some So) : uM l yX2_joinStatus (wg yX2_joinStatus cX2_joinStatus 6 none) rmX2_joinStatus (KB D ad cI cB en) D (wB ad cI cB) (AX 10 ad) [.ref (ad 4), .int x1, .int (zI z2)] S (none, So) := by
  refine uM_start (by decide) rfl ?_
  intro p e s m below meth c hx hb hr hlocks hml hown hts hK hP
  have hT : ∀ w ∈ wG, w.before _ s = true := fun w h => hts w (List.mem_cons_of_mem _ h)
  have hS : va_S (AX 10 ad s.heap.size) s.heap s.heap [] := va_S.rf
  have hown : s.vm.findClass RX2 = some m.cls := hown
  have C : CallFix p m c cX2_joinStatus 6 s _ wG RX2 := ⟨hx, hb, hml, hown, hT⟩
  have hl := lv_entry ([.ref (ad 4), .int x1, .int (zI z2)]) (n := 6) (Nat.le_of_ble_eq_true rfl)
  rw [lg_entry_eq]
  generalize (lg_sl ([.ref (ad 4), .int x1, .int (zI z2)]) ++ List.replicate (6 - (lg_sl ([.ref (ad 4), .int x1, .int (zI z2)])).length) Slot.unset).toArray = ls at hl ⊢
  have hl : lv_has ls 6 [(0, .ref (ad 4)), (1, .int x1), (2, .int (zI z2))] := hl
  unfold fX2_joinStatus at hs
  refine lv_iload_n hx hb dX2_joinStatus_0 rfl (lv_at hl 2 rfl) ?_
  refine lv_if_eq (tgt := 12) hx hb dX2_joinStatus_1 (by decide) (fun c1 => ?_) (fun c1 => ?_)
  · have hs := if_t c1 hs
    refine lv_aload_n hx hb dX2_joinStatus_12 rfl (lv_at hl 0 rfl) ?_
    refine gB_X2_access hx hb hT hown hK hP (hT _ tF_X2_15) dX2_joinStatus_13 ?_
    obtain ⟨r1, S1, h1, hs⟩ := bd_e hs
    refine kX0_nextWord C tM_X2_127 ⟨Nat.le_of_ble_eq_true rfl, Nat.le_of_ble_eq_true rfl⟩ ⟨Nat.le_of_ble_eq_true rfl, Nat.le_of_ble_eq_true rfl⟩ hK hP hS hl.1 (rest := []) (Nat.le_of_ble_eq_true rfl) dX2_joinStatus_16 h1 (fun H locs hP hS => ?_)
    refine lv_istore_n (lv' := [(3, .int r1), (0, .ref (ad 4)), (1, .int x1), (2, .int (zI z2))]) hx hb dX2_joinStatus_19 rfl hl (by decide) rfl (fun ls hl => ?_)
    refine lv_aload_n hx hb dX2_joinStatus_20 rfl (lv_at hl 1 rfl) ?_
    refine gB_X2_registers hx hb hT hown hK hP (hT _ tF_X2_9) dX2_joinStatus_21 ?_
    refine gB_X4_sr hx hb hT hown hK hP (hT _ tF_X2_169) dX2_joinStatus_24 ?_
    obtain ⟨v1, h2, hs⟩ := lt_e hs
    refine u_top h2 ?_
    refine lv_istore (lv' := [(4, .int v1), (3, .int r1), (0, .ref (ad 4)), (1, .int x1), (2, .int (zI z2))]) hx hb dX2_joinStatus_27 hl (by decide) rfl (fun ls hl => ?_)
    refine lv_iload_n hx hb dX2_joinStatus_29 rfl (lv_at hl 3 rfl) ?_
    refine jn_e hs (fun K1 => ∀ (v2 : Int32) (H : Heap) (locs : List Loc) (ls : Array Slot), lv_has ls 6 [(0, .ref (ad 4)), (2, .int (zI z2))] → va_P D vwCl (wB ad cI cB S1) H → va_S (AX 10 ad s.heap.size) s.heap H locs → K1 v2 = some So → W p l e rmX2_joinStatus s m ([.ref (ad 4), .int x1, .int (zI z2)] : List Value).toArray below meth c H locs 0 0 (MQ below (uQ D (wB ad cI cB) (none, So) (AX 10 ad s.heap.size)) ([.ref (ad 4), .int x1, .int (zI z2)] : List Value).toArray s 0 0 (AX 10 ad s.heap.size)) (F0 m 56 ls [.int v2])) ?_ (fun K1 J1 hs => ?_)
    · intro v2 H locs ls hl hP hS hs
      refine lv_istore (lv' := [(5, .int v2), (0, .ref (ad 4)), (2, .int (zI z2))]) hx hb dX2_joinStatus_56 hl (by decide) rfl (fun ls hl => ?_)
      refine lv_iload_n hx hb dX2_joinStatus_58 rfl (lv_at hl 2 rfl) ?_
      refine lv_if_eq (tgt := 74) hx hb dX2_joinStatus_59 (by decide) (fun c2 => ?_) (fun c2 => ?_)
      · have hs := if_t c2 hs
        refine lv_aload_n hx hb dX2_joinStatus_74 rfl (lv_at hl 1 rfl) ?_
        refine gB_X2_registers hx hb hT hown hK hP (hT _ tF_X2_9) dX2_joinStatus_75 ?_
        refine lv_iload hx hb dX2_joinStatus_78 (lv_at hl 0 rfl) ?_
        obtain ⟨S2, h3, hs⟩ := bv_e hs
        refine kX4_setFlags C tM_X2_175 ⟨Nat.le_of_ble_eq_true rfl, Nat.le_of_ble_eq_true rfl⟩ ⟨Nat.le_of_ble_eq_true rfl, Nat.le_of_ble_eq_true rfl⟩ hK hP hS hl.1 (rest := []) (Nat.le_of_ble_eq_true rfl) dX2_joinStatus_80 h3 (fun H locs hP hS => ?_)
        exact u_vret hx hb hr hlocks hP hS hs dX2_joinStatus_83
      · have hs := if_f c2 hs
        refine lv_aload_n hx hb dX2_joinStatus_62 rfl (lv_at hl 1 rfl) ?_
        refine gB_X2_registers hx hb hT hown hK hP (hT _ tF_X2_9) dX2_joinStatus_63 ?_
        refine lv_iload hx hb dX2_joinStatus_66 (lv_at hl 0 rfl) ?_
        obtain ⟨S3, h4, hs⟩ := bv_e hs
        refine kX4_setStatus C tM_X2_172 ⟨Nat.le_of_ble_eq_true rfl, Nat.le_of_ble_eq_true rfl⟩ ⟨Nat.le_of_ble_eq_true rfl, Nat.le_of_ble_eq_true rfl⟩ hK hP hS hl.1 (rest := []) (Nat.le_of_ble_eq_true rfl) dX2_joinStatus_68 h4 (fun H locs hP hS => ?_)
        refine lv_goto (tgt := 83) hx hb dX2_joinStatus_71 (by decide) ?_
        exact u_vret hx hb hr hlocks hP hS hs dX2_joinStatus_83
    ·
      refine lv_if_ne (tgt := 40) hx hb dX2_joinStatus_30 (by decide) (fun c3 => ?_) (fun c3 => ?_)
      · have hs := if_f c3 hs
        refine lv_iload_n hx hb dX2_joinStatus_40 rfl (lv_at hl 3 rfl) ?_
        refine lv_iconst (v := 1) hx hb dX2_joinStatus_41 (by decide) ?_
        refine lv_icmp_ne (tgt := 52) hx hb dX2_joinStatus_42 (by decide) (fun c4 => ?_) (fun c4 => ?_)
        · have hs := if_f c4 hs
          refine lv_iload hx hb dX2_joinStatus_52 (lv_at hl 0 rfl) ?_
          refine lv_iload_n hx hb dX2_joinStatus_54 rfl (lv_at hl 1 rfl) ?_
          refine lv_ixor hx hb dX2_joinStatus_55 ?_
          exact J1 (v1 ^^^ r1) _ _ _ (lv_sub hl [2, 4] rfl) hP hS hs
        · have hs := if_t c4 hs
          refine lv_iload hx hb dX2_joinStatus_45 (lv_at hl 0 rfl) ?_
          refine lv_iload_n hx hb dX2_joinStatus_47 rfl (lv_at hl 1 rfl) ?_
          refine lv_iand hx hb dX2_joinStatus_48 ?_
          refine lv_goto (tgt := 56) hx hb dX2_joinStatus_49 (by decide) ?_
          exact J1 (v1 &&& r1) _ _ _ (lv_sub hl [2, 4] rfl) hP hS hs
      · have hs := if_t c3 hs
        refine lv_iload hx hb dX2_joinStatus_33 (lv_at hl 0 rfl) ?_
        refine lv_iload_n hx hb dX2_joinStatus_35 rfl (lv_at hl 1 rfl) ?_
        refine lv_ior hx hb dX2_joinStatus_36 ?_
        refine lv_goto (tgt := 56) hx hb dX2_joinStatus_37 (by decide) ?_
        exact J1 (v1 ||| r1) _ _ _ (lv_sub hl [2, 4] rfl) hP hS hs
  · have hs := if_f c1 hs
    refine lv_aload_n hx hb dX2_joinStatus_4 rfl (lv_at hl 0 rfl) ?_
    obtain ⟨b1, S4, h5, hs⟩ := bd_e hs
    refine kX2_permitted C tM_X2_165 ⟨Nat.le_of_ble_eq_true rfl, Nat.le_of_ble_eq_true rfl⟩ ⟨Nat.le_of_ble_eq_true rfl, Nat.le_of_ble_eq_true rfl⟩ hK hP hS hl.1 (rest := []) (Nat.le_of_ble_eq_true rfl) dX2_joinStatus_5 h5 (fun H locs hP hS => ?_)
    refine lv_if_ne (tgt := 12) hx hb dX2_joinStatus_8 (by decide) (fun c5 => ?_) (fun c5 => ?_)
    · have hs := if_f c5 hs
      refine lv_aload_n hx hb dX2_joinStatus_12 rfl (lv_at hl 0 rfl) ?_
      refine gB_X2_access hx hb hT hown hK hP (hT _ tF_X2_15) dX2_joinStatus_13 ?_
      obtain ⟨r2, S5, h6, hs⟩ := bd_e hs
      refine kX0_nextWord C tM_X2_127 ⟨Nat.le_of_ble_eq_true rfl, Nat.le_of_ble_eq_true rfl⟩ ⟨Nat.le_of_ble_eq_true rfl, Nat.le_of_ble_eq_true rfl⟩ hK hP hS hl.1 (rest := []) (Nat.le_of_ble_eq_true rfl) dX2_joinStatus_16 h6 (fun H locs hP hS => ?_)
      refine lv_istore_n (lv' := [(3, .int r2), (0, .ref (ad 4)), (1, .int x1), (2, .int (zI z2))]) hx hb dX2_joinStatus_19 rfl hl (by decide) rfl (fun ls hl => ?_)
      refine lv_aload_n hx hb dX2_joinStatus_20 rfl (lv_at hl 1 rfl) ?_
      refine gB_X2_registers hx hb hT hown hK hP (hT _ tF_X2_9) dX2_joinStatus_21 ?_
      refine gB_X4_sr hx hb hT hown hK hP (hT _ tF_X2_169) dX2_joinStatus_24 ?_
      obtain ⟨v3, h7, hs⟩ := lt_e hs
      refine u_top h7 ?_
      refine lv_istore (lv' := [(4, .int v3), (3, .int r2), (0, .ref (ad 4)), (1, .int x1), (2, .int (zI z2))]) hx hb dX2_joinStatus_27 hl (by decide) rfl (fun ls hl => ?_)
      refine lv_iload_n hx hb dX2_joinStatus_29 rfl (lv_at hl 3 rfl) ?_
      refine jn_e hs (fun K2 => ∀ (v4 : Int32) (H : Heap) (locs : List Loc) (ls : Array Slot), lv_has ls 6 [(0, .ref (ad 4)), (2, .int (zI z2))] → va_P D vwCl (wB ad cI cB S5) H → va_S (AX 10 ad s.heap.size) s.heap H locs → K2 v4 = some So → W p l e rmX2_joinStatus s m ([.ref (ad 4), .int x1, .int (zI z2)] : List Value).toArray below meth c H locs 0 0 (MQ below (uQ D (wB ad cI cB) (none, So) (AX 10 ad s.heap.size)) ([.ref (ad 4), .int x1, .int (zI z2)] : List Value).toArray s 0 0 (AX 10 ad s.heap.size)) (F0 m 56 ls [.int v4])) ?_ (fun K2 J2 hs => ?_)
      · intro v4 H locs ls hl hP hS hs
        refine lv_istore (lv' := [(5, .int v4), (0, .ref (ad 4)), (2, .int (zI z2))]) hx hb dX2_joinStatus_56 hl (by decide) rfl (fun ls hl => ?_)
        refine lv_iload_n hx hb dX2_joinStatus_58 rfl (lv_at hl 2 rfl) ?_
        refine lv_if_eq (tgt := 74) hx hb dX2_joinStatus_59 (by decide) (fun c6 => ?_) (fun c6 => ?_)
        · have hs := if_t c6 hs
          refine lv_aload_n hx hb dX2_joinStatus_74 rfl (lv_at hl 1 rfl) ?_
          refine gB_X2_registers hx hb hT hown hK hP (hT _ tF_X2_9) dX2_joinStatus_75 ?_
          refine lv_iload hx hb dX2_joinStatus_78 (lv_at hl 0 rfl) ?_
          obtain ⟨S6, h8, hs⟩ := bv_e hs
          refine kX4_setFlags C tM_X2_175 ⟨Nat.le_of_ble_eq_true rfl, Nat.le_of_ble_eq_true rfl⟩ ⟨Nat.le_of_ble_eq_true rfl, Nat.le_of_ble_eq_true rfl⟩ hK hP hS hl.1 (rest := []) (Nat.le_of_ble_eq_true rfl) dX2_joinStatus_80 h8 (fun H locs hP hS => ?_)
          exact u_vret hx hb hr hlocks hP hS hs dX2_joinStatus_83
        · have hs := if_f c6 hs
          refine lv_aload_n hx hb dX2_joinStatus_62 rfl (lv_at hl 1 rfl) ?_
          refine gB_X2_registers hx hb hT hown hK hP (hT _ tF_X2_9) dX2_joinStatus_63 ?_
          refine lv_iload hx hb dX2_joinStatus_66 (lv_at hl 0 rfl) ?_
          obtain ⟨S7, h9, hs⟩ := bv_e hs
          refine kX4_setStatus C tM_X2_172 ⟨Nat.le_of_ble_eq_true rfl, Nat.le_of_ble_eq_true rfl⟩ ⟨Nat.le_of_ble_eq_true rfl, Nat.le_of_ble_eq_true rfl⟩ hK hP hS hl.1 (rest := []) (Nat.le_of_ble_eq_true rfl) dX2_joinStatus_68 h9 (fun H locs hP hS => ?_)
          refine lv_goto (tgt := 83) hx hb dX2_joinStatus_71 (by decide) ?_
          exact u_vret hx hb hr hlocks hP hS hs dX2_joinStatus_83
      ·
        refine lv_if_ne (tgt := 40) hx hb dX2_joinStatus_30 (by decide) (fun c7 => ?_) (fun c7 => ?_)
        · have hs := if_f c7 hs
          refine lv_iload_n hx hb dX2_joinStatus_40 rfl (lv_at hl 3 rfl) ?_
          refine lv_iconst (v := 1) hx hb dX2_joinStatus_41 (by decide) ?_
          refine lv_icmp_ne (tgt := 52) hx hb dX2_joinStatus_42 (by decide) (fun c8 => ?_) (fun c8 => ?_)
          · have hs := if_f c8 hs
            refine lv_iload hx hb dX2_joinStatus_52 (lv_at hl 0 rfl) ?_
            refine lv_iload_n hx hb dX2_joinStatus_54 rfl (lv_at hl 1 rfl) ?_
            refine lv_ixor hx hb dX2_joinStatus_55 ?_
            exact J2 (v3 ^^^ r2) _ _ _ (lv_sub hl [2, 4] rfl) hP hS hs
          · have hs := if_t c8 hs
            refine lv_iload hx hb dX2_joinStatus_45 (lv_at hl 0 rfl) ?_
            refine lv_iload_n hx hb dX2_joinStatus_47 rfl (lv_at hl 1 rfl) ?_
            refine lv_iand hx hb dX2_joinStatus_48 ?_
            refine lv_goto (tgt := 56) hx hb dX2_joinStatus_49 (by decide) ?_
            exact J2 (v3 &&& r2) _ _ _ (lv_sub hl [2, 4] rfl) hP hS hs
        · have hs := if_t c7 hs
          refine lv_iload hx hb dX2_joinStatus_33 (lv_at hl 0 rfl) ?_
          refine lv_iload_n hx hb dX2_joinStatus_35 rfl (lv_at hl 1 rfl) ?_
          refine lv_ior hx hb dX2_joinStatus_36 ?_
          refine lv_goto (tgt := 56) hx hb dX2_joinStatus_37 (by decide) ?_
          exact J2 (v3 ||| r2) _ _ _ (lv_sub hl [2, 4] rfl) hP hS hs
    · have hs := if_t c5 hs
      exact u_vret hx hb hr hlocks hP hS hs dX2_joinStatus_11
theorem kX2_joinStatus {p : Program} {l : Launch} {e : Env} {R : Room} {s : State} {m : MethodId} {args : Array Value} {below : List Frame} {meth : Method} {c : Code} {H : Heap} {locs : List Loc} {cells slots : Nat} {Q : State → Prop} {cc : ByteArray} {pc nL : Nat} {ls : Array Slot} {rest : List Value} {D : va_G} {ad : Nat → Nat} {cI cB : ClassId} {en : Nat → Nat} {S : St} {own : String} {index : Nat} {x1 : Int32} {z2 : Bool} {So : St} (C : CallFix p m c cc nL s args wG own) (hlk : Cond.methodLink own index yX2_joinStatus ∈ wG) (hR : rmX2_joinStatus.frames + 1 ≤ R.frames ∧ 8 + (6 + 11) + rmX2_joinStatus.locals ≤ R.locals) (hc : cells ≤ R.cells ∧ slots ≤ R.slots) (hK : KB D ad cI cB en s) (hP : va_P D vwCl (wB ad cI cB S) H) (hS : va_S (AX 10 ad s.heap.size) s.heap H locs) (hls : ls.size = nL) (hrest : (rest.map fun v => v.category).sum ≤ 8) (hd : decode cc pc = .ok (.invokevirtual index, 3)) (hs : fX2_joinStatus x1 z2 S = some So) (k : ∀ (H : Heap) (locs : List Loc), va_P D vwCl (wB ad cI cB So) H → va_S (AX 10 ad s.heap.size) s.heap H locs → W p l e R s m args below meth c H locs cells slots Q (F0 m (pc + 3) ls (rest))) : W p l e R s m args below meth c H locs cells slots Q (F0 m pc ls (.int (zI z2) :: .int x1 :: .ref (ad 4) :: rest)) :=
  u_callV (n := 2) (mX2_joinStatus l D ad cI cB en S x1 z2 So hs) C uK_B (wg_V hlk tI_X2_joinStatus tS_X2_joinStatus tN_X2 tK_X2_joinStatus) rfl rfl rfl (by decide +kernel) hR rfl (va_recv hK.1 hP (ci := 2) (q0 := 4) rfl rfl) hK hP hS hls hrest hd hc rfl k
def fX2_illegal  (S : St) : Option St :=
    (bv (fX0_raise 4 S) fun S1 => (some S1))
abbrev rmX2_illegal : Room := { frames := 1, cells := 0, slots := 0, locals := 21 }
set_option maxRecDepth 100000 in
set_option maxHeartbeats 4000000 in
theorem mX2_illegal (l : Launch) (D : va_G) (ad : Nat → Nat) (cI cB : ClassId) (en : Nat → Nat) (S : St)  (So : St) (hs : fX2_illegal  S = some So) : uM l yX2_illegal (wg yX2_illegal cX2_illegal 1 none) rmX2_illegal (KB D ad cI cB en) D (wB ad cI cB) (AX 10 ad) [.ref (ad 4)] S (none, So) := by
  refine uM_start (by decide) rfl ?_
  intro p e s m below meth c hx hb hr hlocks hml hown hts hK hP
  have hT : ∀ w ∈ wG, w.before _ s = true := fun w h => hts w (List.mem_cons_of_mem _ h)
  have hS : va_S (AX 10 ad s.heap.size) s.heap s.heap [] := va_S.rf
  have hown : s.vm.findClass RX2 = some m.cls := hown
  have C : CallFix p m c cX2_illegal 1 s _ wG RX2 := ⟨hx, hb, hml, hown, hT⟩
  have hl := lv_entry ([.ref (ad 4)]) (n := 1) (Nat.le_of_ble_eq_true rfl)
  rw [lg_entry_eq]
  generalize (lg_sl ([.ref (ad 4)]) ++ List.replicate (1 - (lg_sl ([.ref (ad 4)])).length) Slot.unset).toArray = ls at hl ⊢
  have hl : lv_has ls 1 [(0, .ref (ad 4))] := hl
  unfold fX2_illegal at hs
  refine lv_aload_n hx hb dX2_illegal_0 rfl (lv_at hl 0 rfl) ?_
  refine gB_X2_access hx hb hT hown hK hP (hT _ tF_X2_15) dX2_illegal_1 ?_
  refine lv_iconst (v := 4) hx hb dX2_illegal_4 (by decide) ?_
  obtain ⟨S1, h1, hs⟩ := bv_e hs
  refine kX0_raise C tM_X2_71 ⟨Nat.le_of_ble_eq_true rfl, Nat.le_of_ble_eq_true rfl⟩ ⟨Nat.le_of_ble_eq_true rfl, Nat.le_of_ble_eq_true rfl⟩ hK hP hS hl.1 (rest := []) (Nat.le_of_ble_eq_true rfl) dX2_illegal_5 h1 (fun H locs hP hS => ?_)
  exact u_vret hx hb hr hlocks hP hS hs dX2_illegal_8
theorem kX2_illegal {p : Program} {l : Launch} {e : Env} {R : Room} {s : State} {m : MethodId} {args : Array Value} {below : List Frame} {meth : Method} {c : Code} {H : Heap} {locs : List Loc} {cells slots : Nat} {Q : State → Prop} {cc : ByteArray} {pc nL : Nat} {ls : Array Slot} {rest : List Value} {D : va_G} {ad : Nat → Nat} {cI cB : ClassId} {en : Nat → Nat} {S : St} {own : String} {index : Nat}  {So : St} (C : CallFix p m c cc nL s args wG own) (hlk : Cond.methodLink own index yX2_illegal ∈ wG) (hR : rmX2_illegal.frames + 1 ≤ R.frames ∧ 8 + (1 + 11) + rmX2_illegal.locals ≤ R.locals) (hc : cells ≤ R.cells ∧ slots ≤ R.slots) (hK : KB D ad cI cB en s) (hP : va_P D vwCl (wB ad cI cB S) H) (hS : va_S (AX 10 ad s.heap.size) s.heap H locs) (hls : ls.size = nL) (hrest : (rest.map fun v => v.category).sum ≤ 8) (hd : decode cc pc = .ok (.invokevirtual index, 3)) (hs : fX2_illegal  S = some So) (k : ∀ (H : Heap) (locs : List Loc), va_P D vwCl (wB ad cI cB So) H → va_S (AX 10 ad s.heap.size) s.heap H locs → W p l e R s m args below meth c H locs cells slots Q (F0 m (pc + 3) ls (rest))) : W p l e R s m args below meth c H locs cells slots Q (F0 m pc ls (.ref (ad 4) :: rest)) :=
  u_callV (n := 0) (mX2_illegal l D ad cI cB en S  So hs) C uK_B (wg_V hlk tI_X2_illegal tS_X2_illegal tN_X2 tK_X2_illegal) rfl rfl rfl (by decide +kernel) hR rfl (va_recv hK.1 hP (ci := 2) (q0 := 4) rfl rfl) hK hP hS hls hrest hd hc rfl k
def fX2_joinImmediate (x1 : Int32) (S : St) : Option St :=
    (bd (fX2_upper x1 S) fun r1 S1 => (if r1 = 7 then (bv (fX2_illegal S1) fun S2 => (some S2))
    else (bd (fX2_sizeBits x1 S1) fun r2 S3 => (if r2 = 3 then (bv (fX2_illegal S3) fun S15 => (some S15))
    else (bd (fX2_operand x1 S3) fun r3 S4 => (bd (fX2_misfits 509 r3 S4) fun b1 S5 => (if (zI b1) = 0 then (bd (fX2_sizeBits x1 S5) fun r4 S6 => (bd (fX5_of r4 S6) fun e1 S7 => (gd (e1 < 3) (bd (fX0_immediate e1 S7) fun r5 S8 => (bd (fX2_operand x1 S8) fun r6 S9 => (bd (fX0_locate e1 r6 S9) fun w1 S10 => (bd (fX0_load e1 w1 S10) fun r7 S11 => (if r1 = 6 then (bv (fX1_compare e1 r7 r5 S11) fun S14 => (some S14))
    else (bd (fX1_joined r1 e1 r7 r5 S11) fun r8 S12 => (bv (fX0_store e1 w1 r8 S12) fun S13 => (some S13)))))))))))
    else (some S5))))))))
abbrev rmX2_joinImmediate : Room := { frames := 3, cells := 0, slots := 0, locals := 76 }
set_option maxRecDepth 100000 in
set_option maxHeartbeats 4000000 in
theorem mX2_joinImmediate (l : Launch) (D : va_G) (ad : Nat → Nat) (cI cB : ClassId) (en : Nat → Nat) (S : St) (x1 : Int32) (So : St) (hs : fX2_joinImmediate x1 S = some So) : uM l yX2_joinImmediate (wg yX2_joinImmediate cX2_joinImmediate 8 none) rmX2_joinImmediate (KB D ad cI cB en) D (wB ad cI cB) (AX 10 ad) [.ref (ad 4), .int x1] S (none, So) := by
  refine uM_start (by decide) rfl ?_
  intro p e s m below meth c hx hb hr hlocks hml hown hts hK hP
  have hT : ∀ w ∈ wG, w.before _ s = true := fun w h => hts w (List.mem_cons_of_mem _ h)
  have hS : va_S (AX 10 ad s.heap.size) s.heap s.heap [] := va_S.rf
  have hown : s.vm.findClass RX2 = some m.cls := hown
  have C : CallFix p m c cX2_joinImmediate 8 s _ wG RX2 := ⟨hx, hb, hml, hown, hT⟩
  have hl := lv_entry ([.ref (ad 4), .int x1]) (n := 8) (Nat.le_of_ble_eq_true rfl)
  rw [lg_entry_eq]
  generalize (lg_sl ([.ref (ad 4), .int x1]) ++ List.replicate (8 - (lg_sl ([.ref (ad 4), .int x1])).length) Slot.unset).toArray = ls at hl ⊢
  have hl : lv_has ls 8 [(0, .ref (ad 4)), (1, .int x1)] := hl
  unfold fX2_joinImmediate at hs
  refine lv_iload_n hx hb dX2_joinImmediate_0 rfl (lv_at hl 1 rfl) ?_
  obtain ⟨r1, S1, h1, hs⟩ := bd_e hs
  refine kX2_upper C tM_X2_101 ⟨Nat.le_of_ble_eq_true rfl, Nat.le_of_ble_eq_true rfl⟩ ⟨Nat.le_of_ble_eq_true rfl, Nat.le_of_ble_eq_true rfl⟩ hK hP hS hl.1 (rest := []) (Nat.le_of_ble_eq_true rfl) dX2_joinImmediate_1 h1 (fun H locs hP hS => ?_)
  refine lv_istore_n (lv' := [(2, .int r1), (0, .ref (ad 4)), (1, .int x1)]) hx hb dX2_joinImmediate_4 rfl hl (by decide) rfl (fun ls hl => ?_)
  refine lv_iload_n hx hb dX2_joinImmediate_5 rfl (lv_at hl 0 rfl) ?_
  refine lv_bipush (v := 7) hx hb dX2_joinImmediate_6 (by decide) ?_
  refine lv_icmp_eq (tgt := 19) hx hb dX2_joinImmediate_8 (by decide) (fun c1 => ?_) (fun c1 => ?_)
  · have hs := if_t c1 hs
    refine lv_aload_n hx hb dX2_joinImmediate_19 rfl (lv_at hl 1 rfl) ?_
    obtain ⟨S2, h2, hs⟩ := bv_e hs
    refine kX2_illegal C tM_X2_178 ⟨Nat.le_of_ble_eq_true rfl, Nat.le_of_ble_eq_true rfl⟩ ⟨Nat.le_of_ble_eq_true rfl, Nat.le_of_ble_eq_true rfl⟩ hK hP hS hl.1 (rest := []) (Nat.le_of_ble_eq_true rfl) dX2_joinImmediate_20 h2 (fun H locs hP hS => ?_)
    exact u_vret hx hb hr hlocks hP hS hs dX2_joinImmediate_23
  · have hs := if_f c1 hs
    refine lv_iload_n hx hb dX2_joinImmediate_11 rfl (lv_at hl 2 rfl) ?_
    obtain ⟨r2, S3, h3, hs⟩ := bd_e hs
    refine kX2_sizeBits C tM_X2_98 ⟨Nat.le_of_ble_eq_true rfl, Nat.le_of_ble_eq_true rfl⟩ ⟨Nat.le_of_ble_eq_true rfl, Nat.le_of_ble_eq_true rfl⟩ hK hP hS hl.1 (rest := []) (Nat.le_of_ble_eq_true rfl) dX2_joinImmediate_12 h3 (fun H locs hP hS => ?_)
    refine lv_iconst (v := 3) hx hb dX2_joinImmediate_15 (by decide) ?_
    refine lv_icmp_ne (tgt := 24) hx hb dX2_joinImmediate_16 (by decide) (fun c2 => ?_) (fun c2 => ?_)
    · have hs := if_f c2 hs
      refine lv_aload_n hx hb dX2_joinImmediate_24 rfl (lv_at hl 1 rfl) ?_
      refine lv_sipush (v := 509) hx hb dX2_joinImmediate_25 (by decide) ?_
      refine lv_iload_n hx hb dX2_joinImmediate_28 rfl (lv_at hl 2 rfl) ?_
      obtain ⟨r3, S4, h4, hs⟩ := bd_e hs
      refine kX2_operand C tM_X2_95 ⟨Nat.le_of_ble_eq_true rfl, Nat.le_of_ble_eq_true rfl⟩ ⟨Nat.le_of_ble_eq_true rfl, Nat.le_of_ble_eq_true rfl⟩ hK hP hS hl.1 (rest := [.int 509, .ref (ad 4)]) (Nat.le_of_ble_eq_true rfl) dX2_joinImmediate_29 h4 (fun H locs hP hS => ?_)
      obtain ⟨b1, S5, h5, hs⟩ := bd_e hs
      refine kX2_misfits C tM_X2_146 ⟨Nat.le_of_ble_eq_true rfl, Nat.le_of_ble_eq_true rfl⟩ ⟨Nat.le_of_ble_eq_true rfl, Nat.le_of_ble_eq_true rfl⟩ hK hP hS hl.1 (rest := []) (Nat.le_of_ble_eq_true rfl) dX2_joinImmediate_32 h5 (fun H locs hP hS => ?_)
      refine lv_if_eq (tgt := 39) hx hb dX2_joinImmediate_35 (by decide) (fun c3 => ?_) (fun c3 => ?_)
      · have hs := if_t c3 hs
        refine lv_iload_n hx hb dX2_joinImmediate_39 rfl (lv_at hl 2 rfl) ?_
        obtain ⟨r4, S6, h6, hs⟩ := bd_e hs
        refine kX2_sizeBits C tM_X2_98 ⟨Nat.le_of_ble_eq_true rfl, Nat.le_of_ble_eq_true rfl⟩ ⟨Nat.le_of_ble_eq_true rfl, Nat.le_of_ble_eq_true rfl⟩ hK hP hS hl.1 (rest := []) (Nat.le_of_ble_eq_true rfl) dX2_joinImmediate_40 h6 (fun H locs hP hS => ?_)
        obtain ⟨e1, S7, h7, hs⟩ := bd_e hs
        refine kX5_of C tM_X2_181 ⟨Nat.le_of_ble_eq_true rfl, Nat.le_of_ble_eq_true rfl⟩ ⟨Nat.le_of_ble_eq_true rfl, Nat.le_of_ble_eq_true rfl⟩ hK hP hS hl.1 (rest := []) (Nat.le_of_ble_eq_true rfl) dX2_joinImmediate_43 h7 (fun H locs hP hS => ?_)
        obtain ⟨h8, hs⟩ := gd_e hs
        refine lv_astore_n (lv' := [(3, .ref (en e1)), (2, .int r1), (0, .ref (ad 4)), (1, .int x1)]) hx hb dX2_joinImmediate_46 rfl hl (by decide) rfl (fun ls hl => ?_)
        refine lv_aload_n hx hb dX2_joinImmediate_47 rfl (lv_at hl 2 rfl) ?_
        refine gB_X2_access hx hb hT hown hK hP (hT _ tF_X2_15) dX2_joinImmediate_48 ?_
        refine lv_aload_n hx hb dX2_joinImmediate_51 rfl (lv_at hl 0 rfl) ?_
        obtain ⟨r5, S8, h9, hs⟩ := bd_e hs
        refine kX0_immediate C tM_X2_185 ⟨Nat.le_of_ble_eq_true rfl, Nat.le_of_ble_eq_true rfl⟩ ⟨Nat.le_of_ble_eq_true rfl, Nat.le_of_ble_eq_true rfl⟩ hK hP hS hl.1 (rest := []) (Nat.le_of_ble_eq_true rfl) dX2_joinImmediate_52 h9 (fun H locs hP hS => ?_)
        refine lv_istore (lv' := [(4, .int r5), (3, .ref (en e1)), (2, .int r1), (0, .ref (ad 4)), (1, .int x1)]) hx hb dX2_joinImmediate_55 hl (by decide) rfl (fun ls hl => ?_)
        refine lv_aload_n hx hb dX2_joinImmediate_57 rfl (lv_at hl 3 rfl) ?_
        refine gB_X2_access hx hb hT hown hK hP (hT _ tF_X2_15) dX2_joinImmediate_58 ?_
        refine lv_aload_n hx hb dX2_joinImmediate_61 rfl (lv_at hl 1 rfl) ?_
        refine lv_iload_n hx hb dX2_joinImmediate_62 rfl (lv_at hl 4 rfl) ?_
        obtain ⟨r6, S9, h10, hs⟩ := bd_e hs
        refine kX2_operand C tM_X2_95 ⟨Nat.le_of_ble_eq_true rfl, Nat.le_of_ble_eq_true rfl⟩ ⟨Nat.le_of_ble_eq_true rfl, Nat.le_of_ble_eq_true rfl⟩ hK hP hS hl.1 (rest := [.ref (en e1), .ref (ad 3)]) (Nat.le_of_ble_eq_true rfl) dX2_joinImmediate_63 h10 (fun H locs hP hS => ?_)
        obtain ⟨w1, S10, h11, hs⟩ := bd_e hs
        refine kX0_locate C tM_X2_150 ⟨Nat.le_of_ble_eq_true rfl, Nat.le_of_ble_eq_true rfl⟩ ⟨Nat.le_of_ble_eq_true rfl, Nat.le_of_ble_eq_true rfl⟩ hK hP hS hl.1 (rest := []) (Nat.le_of_ble_eq_true rfl) dX2_joinImmediate_66 h11 (fun H locs hP hS => ?_)
        refine lv_lstore (lv' := [(5, .long w1), (4, .int r5), (3, .ref (en e1)), (2, .int r1), (0, .ref (ad 4)), (1, .int x1)]) hx hb dX2_joinImmediate_69 hl (by decide) rfl (fun ls hl => ?_)
        refine lv_aload_n hx hb dX2_joinImmediate_71 rfl (lv_at hl 4 rfl) ?_
        refine gB_X2_access hx hb hT hown hK hP (hT _ tF_X2_15) dX2_joinImmediate_72 ?_
        refine lv_aload_n hx hb dX2_joinImmediate_75 rfl (lv_at hl 2 rfl) ?_
        refine lv_lload hx hb dX2_joinImmediate_76 (lv_at hl 0 rfl) ?_
        obtain ⟨r7, S11, h12, hs⟩ := bd_e hs
        refine kX0_load C tM_X2_154 ⟨Nat.le_of_ble_eq_true rfl, Nat.le_of_ble_eq_true rfl⟩ ⟨Nat.le_of_ble_eq_true rfl, Nat.le_of_ble_eq_true rfl⟩ hK hP hS hl.1 (rest := []) (Nat.le_of_ble_eq_true rfl) dX2_joinImmediate_78 h12 (fun H locs hP hS => ?_)
        refine lv_istore (lv' := [(7, .int r7), (5, .long w1), (4, .int r5), (3, .ref (en e1)), (2, .int r1), (0, .ref (ad 4)), (1, .int x1)]) hx hb dX2_joinImmediate_81 hl (by decide) rfl (fun ls hl => ?_)
        refine lv_iload_n hx hb dX2_joinImmediate_83 rfl (lv_at hl 4 rfl) ?_
        refine lv_bipush (v := 6) hx hb dX2_joinImmediate_84 (by decide) ?_
        refine lv_icmp_ne (tgt := 104) hx hb dX2_joinImmediate_86 (by decide) (fun c4 => ?_) (fun c4 => ?_)
        · have hs := if_f c4 hs
          refine lv_aload_n hx hb dX2_joinImmediate_104 rfl (lv_at hl 5 rfl) ?_
          refine gB_X2_access hx hb hT hown hK hP (hT _ tF_X2_15) dX2_joinImmediate_105 ?_
          refine lv_aload_n hx hb dX2_joinImmediate_108 rfl (lv_at hl 3 rfl) ?_
          refine lv_lload hx hb dX2_joinImmediate_109 (lv_at hl 1 rfl) ?_
          refine lv_aload_n hx hb dX2_joinImmediate_111 rfl (lv_at hl 5 rfl) ?_
          refine gB_X2_arithmetic hx hb hT hown hK hP (hT _ tF_X2_24) dX2_joinImmediate_112 ?_
          refine lv_iload_n hx hb dX2_joinImmediate_115 rfl (lv_at hl 4 rfl) ?_
          refine lv_aload_n hx hb dX2_joinImmediate_116 rfl (lv_at hl 3 rfl) ?_
          refine lv_iload hx hb dX2_joinImmediate_117 (lv_at hl 0 rfl) ?_
          refine lv_iload hx hb dX2_joinImmediate_119 (lv_at hl 2 rfl) ?_
          obtain ⟨r8, S12, h13, hs⟩ := bd_e hs
          refine kX1_joined C tM_X2_192 ⟨Nat.le_of_ble_eq_true rfl, Nat.le_of_ble_eq_true rfl⟩ ⟨Nat.le_of_ble_eq_true rfl, Nat.le_of_ble_eq_true rfl⟩ hK hP hS hl.1 (rest := [.long w1, .ref (en e1), .ref (ad 3)]) (Nat.le_of_ble_eq_true rfl) dX2_joinImmediate_121 h13 (fun H locs hP hS => ?_)
          obtain ⟨S13, h14, hs⟩ := bv_e hs
          refine kX0_store C tM_X2_161 ⟨Nat.le_of_ble_eq_true rfl, Nat.le_of_ble_eq_true rfl⟩ ⟨Nat.le_of_ble_eq_true rfl, Nat.le_of_ble_eq_true rfl⟩ hK hP hS hl.1 (rest := []) (Nat.le_of_ble_eq_true rfl) dX2_joinImmediate_124 h14 (fun H locs hP hS => ?_)
          exact u_vret hx hb hr hlocks hP hS hs dX2_joinImmediate_127
        · have hs := if_t c4 hs
          refine lv_aload_n hx hb dX2_joinImmediate_89 rfl (lv_at hl 5 rfl) ?_
          refine gB_X2_arithmetic hx hb hT hown hK hP (hT _ tF_X2_24) dX2_joinImmediate_90 ?_
          refine lv_aload_n hx hb dX2_joinImmediate_93 rfl (lv_at hl 3 rfl) ?_
          refine lv_iload hx hb dX2_joinImmediate_94 (lv_at hl 0 rfl) ?_
          refine lv_iload hx hb dX2_joinImmediate_96 (lv_at hl 2 rfl) ?_
          obtain ⟨S14, h15, hs⟩ := bv_e hs
          refine kX1_compare C tM_X2_189 ⟨Nat.le_of_ble_eq_true rfl, Nat.le_of_ble_eq_true rfl⟩ ⟨Nat.le_of_ble_eq_true rfl, Nat.le_of_ble_eq_true rfl⟩ hK hP hS hl.1 (rest := []) (Nat.le_of_ble_eq_true rfl) dX2_joinImmediate_98 h15 (fun H locs hP hS => ?_)
          refine lv_goto (tgt := 127) hx hb dX2_joinImmediate_101 (by decide) ?_
          exact u_vret hx hb hr hlocks hP hS hs dX2_joinImmediate_127
      · have hs := if_f c3 hs
        exact u_vret hx hb hr hlocks hP hS hs dX2_joinImmediate_38
    · have hs := if_t c2 hs
      refine lv_aload_n hx hb dX2_joinImmediate_19 rfl (lv_at hl 1 rfl) ?_
      obtain ⟨S15, h16, hs⟩ := bv_e hs
      refine kX2_illegal C tM_X2_178 ⟨Nat.le_of_ble_eq_true rfl, Nat.le_of_ble_eq_true rfl⟩ ⟨Nat.le_of_ble_eq_true rfl, Nat.le_of_ble_eq_true rfl⟩ hK hP hS hl.1 (rest := []) (Nat.le_of_ble_eq_true rfl) dX2_joinImmediate_20 h16 (fun H locs hP hS => ?_)
      exact u_vret hx hb hr hlocks hP hS hs dX2_joinImmediate_23
theorem kX2_joinImmediate {p : Program} {l : Launch} {e : Env} {R : Room} {s : State} {m : MethodId} {args : Array Value} {below : List Frame} {meth : Method} {c : Code} {H : Heap} {locs : List Loc} {cells slots : Nat} {Q : State → Prop} {cc : ByteArray} {pc nL : Nat} {ls : Array Slot} {rest : List Value} {D : va_G} {ad : Nat → Nat} {cI cB : ClassId} {en : Nat → Nat} {S : St} {own : String} {index : Nat} {x1 : Int32} {So : St} (C : CallFix p m c cc nL s args wG own) (hlk : Cond.methodLink own index yX2_joinImmediate ∈ wG) (hR : rmX2_joinImmediate.frames + 1 ≤ R.frames ∧ 8 + (8 + 11) + rmX2_joinImmediate.locals ≤ R.locals) (hc : cells ≤ R.cells ∧ slots ≤ R.slots) (hK : KB D ad cI cB en s) (hP : va_P D vwCl (wB ad cI cB S) H) (hS : va_S (AX 10 ad s.heap.size) s.heap H locs) (hls : ls.size = nL) (hrest : (rest.map fun v => v.category).sum ≤ 8) (hd : decode cc pc = .ok (.invokevirtual index, 3)) (hs : fX2_joinImmediate x1 S = some So) (k : ∀ (H : Heap) (locs : List Loc), va_P D vwCl (wB ad cI cB So) H → va_S (AX 10 ad s.heap.size) s.heap H locs → W p l e R s m args below meth c H locs cells slots Q (F0 m (pc + 3) ls (rest))) : W p l e R s m args below meth c H locs cells slots Q (F0 m pc ls (.int x1 :: .ref (ad 4) :: rest)) :=
  u_callV (n := 1) (mX2_joinImmediate l D ad cI cB en S x1 So hs) C uK_B (wg_V hlk tI_X2_joinImmediate tS_X2_joinImmediate tN_X2 tK_X2_joinImmediate) rfl rfl rfl (by decide +kernel) hR rfl (va_recv hK.1 hP (ci := 2) (q0 := 4) rfl rfl) hK hP hS hls hrest hd hc rfl k
def fX2_lineZero (x1 : Int32) (S : St) : Option St :=
    (bd (fX2_operand x1 S) fun r1 S1 => (jn (fun (b1 : Bool) (S2 : St) => (bd (fX2_upper x1 S2) fun r2 S3 => (if (x1 &&& 312) = 264 then (bv (fX2_movePeripheral x1 S3) fun S17 => (some S17))
    else (bd (fX2_isTo x1 S3) fun b2 S4 => (if (zI b2) = 0 then (if r2 = 4 then (bd (fX2_sizeBits x1 S4) fun r6 S13 => (jn (fun (v1 : Int32) => (bv (fX2_bit x1 v1 true S13) fun S14 => (some S14))) fun K5 =>
    (if r6 = 0 then (K5 2045)
    else (K5 509))))
    else (if (zI b1) = 0 then (bv (fX2_joinImmediate x1 S4) fun S5 => (some S5))
    else (if r2 = 0 then (bd (fX2_sizeBits x1 S4) fun r3 S6 => (jn (fun (b3 : Bool) => (bv (fX2_joinStatus r2 b3 S6) fun S7 => (some S7))) fun K2 =>
    (if r3 = 1 then (K2 true)
    else (K2 false))))
    else (if r2 = 1 then (bd (fX2_sizeBits x1 S4) fun r4 S8 => (jn (fun (b4 : Bool) => (bv (fX2_joinStatus r2 b4 S8) fun S9 => (some S9))) fun K3 =>
    (if r4 = 1 then (K3 true)
    else (K3 false))))
    else (if r2 = 5 then (bd (fX2_sizeBits x1 S4) fun r5 S11 => (jn (fun (b5 : Bool) => (bv (fX2_joinStatus r2 b5 S11) fun S12 => (some S12))) fun K4 =>
    (if r5 = 1 then (K4 true)
    else (K4 false))))
    else (bv (fX2_joinImmediate x1 S4) fun S10 => (some S10)))))))
    else (bd (fX2_sizeBits x1 S4) fun r7 S15 => (jn (fun (v2 : Int32) => (bv (fX2_bit x1 v2 false S15) fun S16 => (some S16))) fun K6 =>
    (if r7 = 0 then (K6 4093)
    else (K6 509))))))))) fun K1 =>
    (if r1 = 60 then (bd (fX2_sizeBits x1 S1) fun r8 S18 => (if 2 ≤ r8 then (K1 false S18)
    else (K1 true S18)))
    else (K1 false S1))))
abbrev rmX2_lineZero : Room := { frames := 4, cells := 0, slots := 0, locals := 103 }
set_option maxRecDepth 100000 in
set_option maxHeartbeats 4000000 in
theorem mX2_lineZero (l : Launch) (D : va_G) (ad : Nat → Nat) (cI cB : ClassId) (en : Nat → Nat) (S : St) (x1 : Int32) (So : St) (hs : fX2_lineZero x1 S = some So) : uM l yX2_lineZero (wg yX2_lineZero cX2_lineZero 4 none) rmX2_lineZero (KB D ad cI cB en) D (wB ad cI cB) (AX 10 ad) [.ref (ad 4), .int x1] S (none, So) := by
  refine uM_start (by decide) rfl ?_
  intro p e s m below meth c hx hb hr hlocks hml hown hts hK hP
  have hT : ∀ w ∈ wG, w.before _ s = true := fun w h => hts w (List.mem_cons_of_mem _ h)
  have hS : va_S (AX 10 ad s.heap.size) s.heap s.heap [] := va_S.rf
  have hown : s.vm.findClass RX2 = some m.cls := hown
  have C : CallFix p m c cX2_lineZero 4 s _ wG RX2 := ⟨hx, hb, hml, hown, hT⟩
  have hl := lv_entry ([.ref (ad 4), .int x1]) (n := 4) (Nat.le_of_ble_eq_true rfl)
  rw [lg_entry_eq]
  generalize (lg_sl ([.ref (ad 4), .int x1]) ++ List.replicate (4 - (lg_sl ([.ref (ad 4), .int x1])).length) Slot.unset).toArray = ls at hl ⊢
  have hl : lv_has ls 4 [(0, .ref (ad 4)), (1, .int x1)] := hl
  unfold fX2_lineZero at hs
  refine lv_iload_n hx hb dX2_lineZero_0 rfl (lv_at hl 1 rfl) ?_
  obtain ⟨r1, S1, h1, hs⟩ := bd_e hs
  refine kX2_operand C tM_X2_95 ⟨Nat.le_of_ble_eq_true rfl, Nat.le_of_ble_eq_true rfl⟩ ⟨Nat.le_of_ble_eq_true rfl, Nat.le_of_ble_eq_true rfl⟩ hK hP hS hl.1 (rest := []) (Nat.le_of_ble_eq_true rfl) dX2_lineZero_1 h1 (fun H locs hP hS => ?_)
  refine lv_bipush (v := 60) hx hb dX2_lineZero_4 (by decide) ?_
  refine jn_e hs (fun K1 => ∀ (b1 : Bool) (S2 : St) (H : Heap) (locs : List Loc) (ls : Array Slot), lv_has ls 4 [(0, .ref (ad 4)), (1, .int x1)] → va_P D vwCl (wB ad cI cB S2) H → va_S (AX 10 ad s.heap.size) s.heap H locs → K1 b1 S2 = some So → W p l e rmX2_lineZero s m ([.ref (ad 4), .int x1] : List Value).toArray below meth c H locs 0 0 (MQ below (uQ D (wB ad cI cB) (none, So) (AX 10 ad s.heap.size)) ([.ref (ad 4), .int x1] : List Value).toArray s 0 0 (AX 10 ad s.heap.size)) (F0 m 22 ls [.int (zI b1)])) ?_ (fun K1 J1 hs => ?_)
  · intro b1 S2 H locs ls hl hP hS hs
    refine lv_istore_n (lv' := [(2, .int (zI b1)), (0, .ref (ad 4)), (1, .int x1)]) hx hb dX2_lineZero_22 rfl hl (by decide) rfl (fun ls hl => ?_)
    refine lv_iload_n hx hb dX2_lineZero_23 rfl (lv_at hl 2 rfl) ?_
    obtain ⟨r2, S3, h2, hs⟩ := bd_e hs
    refine kX2_upper C tM_X2_101 ⟨Nat.le_of_ble_eq_true rfl, Nat.le_of_ble_eq_true rfl⟩ ⟨Nat.le_of_ble_eq_true rfl, Nat.le_of_ble_eq_true rfl⟩ hK hP hS hl.1 (rest := []) (Nat.le_of_ble_eq_true rfl) dX2_lineZero_24 h2 (fun H locs hP hS => ?_)
    refine lv_istore_n (lv' := [(3, .int r2), (2, .int (zI b1)), (0, .ref (ad 4)), (1, .int x1)]) hx hb dX2_lineZero_27 rfl hl (by decide) rfl (fun ls hl => ?_)
    refine lv_iload_n hx hb dX2_lineZero_28 rfl (lv_at hl 3 rfl) ?_
    refine lv_sipush (v := 312) hx hb dX2_lineZero_29 (by decide) ?_
    refine lv_iand hx hb dX2_lineZero_32 ?_
    refine lv_sipush (v := 264) hx hb dX2_lineZero_33 (by decide) ?_
    refine lv_icmp_ne (tgt := 47) hx hb dX2_lineZero_36 (by decide) (fun c1 => ?_) (fun c1 => ?_)
    · have hs := if_f c1 hs
      refine lv_iload_n hx hb dX2_lineZero_47 rfl (lv_at hl 3 rfl) ?_
      obtain ⟨b2, S4, h3, hs⟩ := bd_e hs
      refine kX2_isTo C tM_X2_107 ⟨Nat.le_of_ble_eq_true rfl, Nat.le_of_ble_eq_true rfl⟩ ⟨Nat.le_of_ble_eq_true rfl, Nat.le_of_ble_eq_true rfl⟩ hK hP hS hl.1 (rest := []) (Nat.le_of_ble_eq_true rfl) dX2_lineZero_48 h3 (fun H locs hP hS => ?_)
      refine lv_if_eq (tgt := 79) hx hb dX2_lineZero_51 (by decide) (fun c2 => ?_) (fun c2 => ?_)
      · have hs := if_t c2 hs
        refine lv_iload_n hx hb dX2_lineZero_79 rfl (lv_at hl 0 rfl) ?_
        refine lv_iconst (v := 4) hx hb dX2_lineZero_80 (by decide) ?_
        refine lv_icmp_ne (tgt := 109) hx hb dX2_lineZero_81 (by decide) (fun c3 => ?_) (fun c3 => ?_)
        · have hs := if_f c3 hs
          refine lv_iload_n hx hb dX2_lineZero_109 rfl (lv_at hl 1 rfl) ?_
          refine lv_if_eq (tgt := 148) hx hb dX2_lineZero_110 (by decide) (fun c4 => ?_) (fun c4 => ?_)
          · have hs := if_t c4 hs
            refine lv_aload_n hx hb dX2_lineZero_148 rfl (lv_at hl 2 rfl) ?_
            refine lv_iload_n hx hb dX2_lineZero_149 rfl (lv_at hl 3 rfl) ?_
            obtain ⟨S5, h4, hs⟩ := bv_e hs
            refine kX2_joinImmediate C tM_X2_118 ⟨Nat.le_of_ble_eq_true rfl, Nat.le_of_ble_eq_true rfl⟩ ⟨Nat.le_of_ble_eq_true rfl, Nat.le_of_ble_eq_true rfl⟩ hK hP hS hl.1 (rest := []) (Nat.le_of_ble_eq_true rfl) dX2_lineZero_150 h4 (fun H locs hP hS => ?_)
            exact u_vret hx hb hr hlocks hP hS hs dX2_lineZero_153
          · have hs := if_f c4 hs
            refine lv_iload_n hx hb dX2_lineZero_113 rfl (lv_at hl 0 rfl) ?_
            refine lv_if_eq (tgt := 127) hx hb dX2_lineZero_114 (by decide) (fun c5 => ?_) (fun c5 => ?_)
            · have hs := if_t c5 hs
              refine lv_aload_n hx hb dX2_lineZero_127 rfl (lv_at hl 2 rfl) ?_
              refine lv_iload_n hx hb dX2_lineZero_128 rfl (lv_at hl 0 rfl) ?_
              refine lv_iload_n hx hb dX2_lineZero_129 rfl (lv_at hl 3 rfl) ?_
              obtain ⟨r3, S6, h5, hs⟩ := bd_e hs
              refine kX2_sizeBits C tM_X2_98 ⟨Nat.le_of_ble_eq_true rfl, Nat.le_of_ble_eq_true rfl⟩ ⟨Nat.le_of_ble_eq_true rfl, Nat.le_of_ble_eq_true rfl⟩ hK hP hS hl.1 (rest := [.int r2, .ref (ad 4)]) (Nat.le_of_ble_eq_true rfl) dX2_lineZero_130 h5 (fun H locs hP hS => ?_)
              refine lv_iconst (v := 1) hx hb dX2_lineZero_133 (by decide) ?_
              refine jn_e hs (fun K2 => ∀ (b3 : Bool) (H : Heap) (locs : List Loc) (ls : Array Slot), lv_has ls 4 [] → va_P D vwCl (wB ad cI cB S6) H → va_S (AX 10 ad s.heap.size) s.heap H locs → K2 b3 = some So → W p l e rmX2_lineZero s m ([.ref (ad 4), .int x1] : List Value).toArray below meth c H locs 0 0 (MQ below (uQ D (wB ad cI cB) (none, So) (AX 10 ad s.heap.size)) ([.ref (ad 4), .int x1] : List Value).toArray s 0 0 (AX 10 ad s.heap.size)) (F0 m 142 ls [.int (zI b3), .int r2, .ref (ad 4)])) ?_ (fun K2 J2 hs => ?_)
              · intro b3 H locs ls hl hP hS hs
                obtain ⟨S7, h6, hs⟩ := bv_e hs
                refine kX2_joinStatus C tM_X2_114 ⟨Nat.le_of_ble_eq_true rfl, Nat.le_of_ble_eq_true rfl⟩ ⟨Nat.le_of_ble_eq_true rfl, Nat.le_of_ble_eq_true rfl⟩ hK hP hS hl.1 (rest := []) (Nat.le_of_ble_eq_true rfl) dX2_lineZero_142 h6 (fun H locs hP hS => ?_)
                refine lv_goto (tgt := 153) hx hb dX2_lineZero_145 (by decide) ?_
                exact u_vret hx hb hr hlocks hP hS hs dX2_lineZero_153
              ·
                refine lv_icmp_ne (tgt := 141) hx hb dX2_lineZero_134 (by decide) (fun c6 => ?_) (fun c6 => ?_)
                · have hs := if_f c6 hs
                  refine lv_iconst (v := 0) hx hb dX2_lineZero_141 (by decide) ?_
                  exact J2 false _ _ _ (lv_sub hl [] rfl) hP hS hs
                · have hs := if_t c6 hs
                  refine lv_iconst (v := 1) hx hb dX2_lineZero_137 (by decide) ?_
                  refine lv_goto (tgt := 142) hx hb dX2_lineZero_138 (by decide) ?_
                  exact J2 true _ _ _ (lv_sub hl [] rfl) hP hS hs
            · have hs := if_f c5 hs
              refine lv_iload_n hx hb dX2_lineZero_117 rfl (lv_at hl 0 rfl) ?_
              refine lv_iconst (v := 1) hx hb dX2_lineZero_118 (by decide) ?_
              refine lv_icmp_eq (tgt := 127) hx hb dX2_lineZero_119 (by decide) (fun c7 => ?_) (fun c7 => ?_)
              · have hs := if_t c7 hs
                refine lv_aload_n hx hb dX2_lineZero_127 rfl (lv_at hl 2 rfl) ?_
                refine lv_iload_n hx hb dX2_lineZero_128 rfl (lv_at hl 0 rfl) ?_
                refine lv_iload_n hx hb dX2_lineZero_129 rfl (lv_at hl 3 rfl) ?_
                obtain ⟨r4, S8, h7, hs⟩ := bd_e hs
                refine kX2_sizeBits C tM_X2_98 ⟨Nat.le_of_ble_eq_true rfl, Nat.le_of_ble_eq_true rfl⟩ ⟨Nat.le_of_ble_eq_true rfl, Nat.le_of_ble_eq_true rfl⟩ hK hP hS hl.1 (rest := [.int r2, .ref (ad 4)]) (Nat.le_of_ble_eq_true rfl) dX2_lineZero_130 h7 (fun H locs hP hS => ?_)
                refine lv_iconst (v := 1) hx hb dX2_lineZero_133 (by decide) ?_
                refine jn_e hs (fun K3 => ∀ (b4 : Bool) (H : Heap) (locs : List Loc) (ls : Array Slot), lv_has ls 4 [] → va_P D vwCl (wB ad cI cB S8) H → va_S (AX 10 ad s.heap.size) s.heap H locs → K3 b4 = some So → W p l e rmX2_lineZero s m ([.ref (ad 4), .int x1] : List Value).toArray below meth c H locs 0 0 (MQ below (uQ D (wB ad cI cB) (none, So) (AX 10 ad s.heap.size)) ([.ref (ad 4), .int x1] : List Value).toArray s 0 0 (AX 10 ad s.heap.size)) (F0 m 142 ls [.int (zI b4), .int r2, .ref (ad 4)])) ?_ (fun K3 J3 hs => ?_)
                · intro b4 H locs ls hl hP hS hs
                  obtain ⟨S9, h8, hs⟩ := bv_e hs
                  refine kX2_joinStatus C tM_X2_114 ⟨Nat.le_of_ble_eq_true rfl, Nat.le_of_ble_eq_true rfl⟩ ⟨Nat.le_of_ble_eq_true rfl, Nat.le_of_ble_eq_true rfl⟩ hK hP hS hl.1 (rest := []) (Nat.le_of_ble_eq_true rfl) dX2_lineZero_142 h8 (fun H locs hP hS => ?_)
                  refine lv_goto (tgt := 153) hx hb dX2_lineZero_145 (by decide) ?_
                  exact u_vret hx hb hr hlocks hP hS hs dX2_lineZero_153
                ·
                  refine lv_icmp_ne (tgt := 141) hx hb dX2_lineZero_134 (by decide) (fun c8 => ?_) (fun c8 => ?_)
                  · have hs := if_f c8 hs
                    refine lv_iconst (v := 0) hx hb dX2_lineZero_141 (by decide) ?_
                    exact J3 false _ _ _ (lv_sub hl [] rfl) hP hS hs
                  · have hs := if_t c8 hs
                    refine lv_iconst (v := 1) hx hb dX2_lineZero_137 (by decide) ?_
                    refine lv_goto (tgt := 142) hx hb dX2_lineZero_138 (by decide) ?_
                    exact J3 true _ _ _ (lv_sub hl [] rfl) hP hS hs
              · have hs := if_f c7 hs
                refine lv_iload_n hx hb dX2_lineZero_122 rfl (lv_at hl 0 rfl) ?_
                refine lv_iconst (v := 5) hx hb dX2_lineZero_123 (by decide) ?_
                refine lv_icmp_ne (tgt := 148) hx hb dX2_lineZero_124 (by decide) (fun c9 => ?_) (fun c9 => ?_)
                · have hs := if_f c9 hs
                  refine lv_aload_n hx hb dX2_lineZero_148 rfl (lv_at hl 2 rfl) ?_
                  refine lv_iload_n hx hb dX2_lineZero_149 rfl (lv_at hl 3 rfl) ?_
                  obtain ⟨S10, h9, hs⟩ := bv_e hs
                  refine kX2_joinImmediate C tM_X2_118 ⟨Nat.le_of_ble_eq_true rfl, Nat.le_of_ble_eq_true rfl⟩ ⟨Nat.le_of_ble_eq_true rfl, Nat.le_of_ble_eq_true rfl⟩ hK hP hS hl.1 (rest := []) (Nat.le_of_ble_eq_true rfl) dX2_lineZero_150 h9 (fun H locs hP hS => ?_)
                  exact u_vret hx hb hr hlocks hP hS hs dX2_lineZero_153
                · have hs := if_t c9 hs
                  refine lv_aload_n hx hb dX2_lineZero_127 rfl (lv_at hl 2 rfl) ?_
                  refine lv_iload_n hx hb dX2_lineZero_128 rfl (lv_at hl 0 rfl) ?_
                  refine lv_iload_n hx hb dX2_lineZero_129 rfl (lv_at hl 3 rfl) ?_
                  obtain ⟨r5, S11, h10, hs⟩ := bd_e hs
                  refine kX2_sizeBits C tM_X2_98 ⟨Nat.le_of_ble_eq_true rfl, Nat.le_of_ble_eq_true rfl⟩ ⟨Nat.le_of_ble_eq_true rfl, Nat.le_of_ble_eq_true rfl⟩ hK hP hS hl.1 (rest := [.int r2, .ref (ad 4)]) (Nat.le_of_ble_eq_true rfl) dX2_lineZero_130 h10 (fun H locs hP hS => ?_)
                  refine lv_iconst (v := 1) hx hb dX2_lineZero_133 (by decide) ?_
                  refine jn_e hs (fun K4 => ∀ (b5 : Bool) (H : Heap) (locs : List Loc) (ls : Array Slot), lv_has ls 4 [] → va_P D vwCl (wB ad cI cB S11) H → va_S (AX 10 ad s.heap.size) s.heap H locs → K4 b5 = some So → W p l e rmX2_lineZero s m ([.ref (ad 4), .int x1] : List Value).toArray below meth c H locs 0 0 (MQ below (uQ D (wB ad cI cB) (none, So) (AX 10 ad s.heap.size)) ([.ref (ad 4), .int x1] : List Value).toArray s 0 0 (AX 10 ad s.heap.size)) (F0 m 142 ls [.int (zI b5), .int r2, .ref (ad 4)])) ?_ (fun K4 J4 hs => ?_)
                  · intro b5 H locs ls hl hP hS hs
                    obtain ⟨S12, h11, hs⟩ := bv_e hs
                    refine kX2_joinStatus C tM_X2_114 ⟨Nat.le_of_ble_eq_true rfl, Nat.le_of_ble_eq_true rfl⟩ ⟨Nat.le_of_ble_eq_true rfl, Nat.le_of_ble_eq_true rfl⟩ hK hP hS hl.1 (rest := []) (Nat.le_of_ble_eq_true rfl) dX2_lineZero_142 h11 (fun H locs hP hS => ?_)
                    refine lv_goto (tgt := 153) hx hb dX2_lineZero_145 (by decide) ?_
                    exact u_vret hx hb hr hlocks hP hS hs dX2_lineZero_153
                  ·
                    refine lv_icmp_ne (tgt := 141) hx hb dX2_lineZero_134 (by decide) (fun c10 => ?_) (fun c10 => ?_)
                    · have hs := if_f c10 hs
                      refine lv_iconst (v := 0) hx hb dX2_lineZero_141 (by decide) ?_
                      exact J4 false _ _ _ (lv_sub hl [] rfl) hP hS hs
                    · have hs := if_t c10 hs
                      refine lv_iconst (v := 1) hx hb dX2_lineZero_137 (by decide) ?_
                      refine lv_goto (tgt := 142) hx hb dX2_lineZero_138 (by decide) ?_
                      exact J4 true _ _ _ (lv_sub hl [] rfl) hP hS hs
        · have hs := if_t c3 hs
          refine lv_aload_n hx hb dX2_lineZero_84 rfl (lv_at hl 2 rfl) ?_
          refine lv_iload_n hx hb dX2_lineZero_85 rfl (lv_at hl 3 rfl) ?_
          refine lv_iload_n hx hb dX2_lineZero_86 rfl (lv_at hl 3 rfl) ?_
          obtain ⟨r6, S13, h12, hs⟩ := bd_e hs
          refine kX2_sizeBits C tM_X2_98 ⟨Nat.le_of_ble_eq_true rfl, Nat.le_of_ble_eq_true rfl⟩ ⟨Nat.le_of_ble_eq_true rfl, Nat.le_of_ble_eq_true rfl⟩ hK hP hS hl.1 (rest := [.int x1, .ref (ad 4)]) (Nat.le_of_ble_eq_true rfl) dX2_lineZero_87 h12 (fun H locs hP hS => ?_)
          refine jn_e hs (fun K5 => ∀ (v1 : Int32) (H : Heap) (locs : List Loc) (ls : Array Slot), lv_has ls 4 [] → va_P D vwCl (wB ad cI cB S13) H → va_S (AX 10 ad s.heap.size) s.heap H locs → K5 v1 = some So → W p l e rmX2_lineZero s m ([.ref (ad 4), .int x1] : List Value).toArray below meth c H locs 0 0 (MQ below (uQ D (wB ad cI cB) (none, So) (AX 10 ad s.heap.size)) ([.ref (ad 4), .int x1] : List Value).toArray s 0 0 (AX 10 ad s.heap.size)) (F0 m 102 ls [.int v1, .int x1, .ref (ad 4)])) ?_ (fun K5 J5 hs => ?_)
          · intro v1 H locs ls hl hP hS hs
            refine lv_iconst (v := 1) hx hb dX2_lineZero_102 (by decide) ?_
            obtain ⟨S14, h13, hs⟩ := bv_e hs
            refine kX2_bit C tM_X2_110 ⟨Nat.le_of_ble_eq_true rfl, Nat.le_of_ble_eq_true rfl⟩ ⟨Nat.le_of_ble_eq_true rfl, Nat.le_of_ble_eq_true rfl⟩ hK hP hS hl.1 (rest := []) (Nat.le_of_ble_eq_true rfl) dX2_lineZero_103 h13 (fun H locs hP hS => ?_)
            refine lv_goto (tgt := 153) hx hb dX2_lineZero_106 (by decide) ?_
            exact u_vret hx hb hr hlocks hP hS hs dX2_lineZero_153
          ·
            refine lv_if_ne (tgt := 99) hx hb dX2_lineZero_90 (by decide) (fun c11 => ?_) (fun c11 => ?_)
            · have hs := if_f c11 hs
              refine lv_sipush (v := 509) hx hb dX2_lineZero_99 (by decide) ?_
              exact J5 509 _ _ _ (lv_sub hl [] rfl) hP hS hs
            · have hs := if_t c11 hs
              refine lv_sipush (v := 2045) hx hb dX2_lineZero_93 (by decide) ?_
              refine lv_goto (tgt := 102) hx hb dX2_lineZero_96 (by decide) ?_
              exact J5 2045 _ _ _ (lv_sub hl [] rfl) hP hS hs
      · have hs := if_f c2 hs
        refine lv_aload_n hx hb dX2_lineZero_54 rfl (lv_at hl 2 rfl) ?_
        refine lv_iload_n hx hb dX2_lineZero_55 rfl (lv_at hl 3 rfl) ?_
        refine lv_iload_n hx hb dX2_lineZero_56 rfl (lv_at hl 3 rfl) ?_
        obtain ⟨r7, S15, h14, hs⟩ := bd_e hs
        refine kX2_sizeBits C tM_X2_98 ⟨Nat.le_of_ble_eq_true rfl, Nat.le_of_ble_eq_true rfl⟩ ⟨Nat.le_of_ble_eq_true rfl, Nat.le_of_ble_eq_true rfl⟩ hK hP hS hl.1 (rest := [.int x1, .ref (ad 4)]) (Nat.le_of_ble_eq_true rfl) dX2_lineZero_57 h14 (fun H locs hP hS => ?_)
        refine jn_e hs (fun K6 => ∀ (v2 : Int32) (H : Heap) (locs : List Loc) (ls : Array Slot), lv_has ls 4 [] → va_P D vwCl (wB ad cI cB S15) H → va_S (AX 10 ad s.heap.size) s.heap H locs → K6 v2 = some So → W p l e rmX2_lineZero s m ([.ref (ad 4), .int x1] : List Value).toArray below meth c H locs 0 0 (MQ below (uQ D (wB ad cI cB) (none, So) (AX 10 ad s.heap.size)) ([.ref (ad 4), .int x1] : List Value).toArray s 0 0 (AX 10 ad s.heap.size)) (F0 m 72 ls [.int v2, .int x1, .ref (ad 4)])) ?_ (fun K6 J6 hs => ?_)
        · intro v2 H locs ls hl hP hS hs
          refine lv_iconst (v := 0) hx hb dX2_lineZero_72 (by decide) ?_
          obtain ⟨S16, h15, hs⟩ := bv_e hs
          refine kX2_bit C tM_X2_110 ⟨Nat.le_of_ble_eq_true rfl, Nat.le_of_ble_eq_true rfl⟩ ⟨Nat.le_of_ble_eq_true rfl, Nat.le_of_ble_eq_true rfl⟩ hK hP hS hl.1 (rest := []) (Nat.le_of_ble_eq_true rfl) dX2_lineZero_73 h15 (fun H locs hP hS => ?_)
          refine lv_goto (tgt := 153) hx hb dX2_lineZero_76 (by decide) ?_
          exact u_vret hx hb hr hlocks hP hS hs dX2_lineZero_153
        ·
          refine lv_if_ne (tgt := 69) hx hb dX2_lineZero_60 (by decide) (fun c12 => ?_) (fun c12 => ?_)
          · have hs := if_f c12 hs
            refine lv_sipush (v := 509) hx hb dX2_lineZero_69 (by decide) ?_
            exact J6 509 _ _ _ (lv_sub hl [] rfl) hP hS hs
          · have hs := if_t c12 hs
            refine lv_sipush (v := 4093) hx hb dX2_lineZero_63 (by decide) ?_
            refine lv_goto (tgt := 72) hx hb dX2_lineZero_66 (by decide) ?_
            exact J6 4093 _ _ _ (lv_sub hl [] rfl) hP hS hs
    · have hs := if_t c1 hs
      refine lv_aload_n hx hb dX2_lineZero_39 rfl (lv_at hl 2 rfl) ?_
      refine lv_iload_n hx hb dX2_lineZero_40 rfl (lv_at hl 3 rfl) ?_
      obtain ⟨S17, h16, hs⟩ := bv_e hs
      refine kX2_movePeripheral C tM_X2_104 ⟨Nat.le_of_ble_eq_true rfl, Nat.le_of_ble_eq_true rfl⟩ ⟨Nat.le_of_ble_eq_true rfl, Nat.le_of_ble_eq_true rfl⟩ hK hP hS hl.1 (rest := []) (Nat.le_of_ble_eq_true rfl) dX2_lineZero_41 h16 (fun H locs hP hS => ?_)
      refine lv_goto (tgt := 153) hx hb dX2_lineZero_44 (by decide) ?_
      exact u_vret hx hb hr hlocks hP hS hs dX2_lineZero_153
  ·
    refine lv_icmp_ne (tgt := 21) hx hb dX2_lineZero_6 (by decide) (fun c13 => ?_) (fun c13 => ?_)
    · have hs := if_f c13 hs
      refine lv_iconst (v := 0) hx hb dX2_lineZero_21 (by decide) ?_
      exact J1 false S1 _ _ _ (lv_sub hl [0, 1] rfl) hP hS hs
    · have hs := if_t c13 hs
      refine lv_iload_n hx hb dX2_lineZero_9 rfl (lv_at hl 1 rfl) ?_
      obtain ⟨r8, S18, h17, hs⟩ := bd_e hs
      refine kX2_sizeBits C tM_X2_98 ⟨Nat.le_of_ble_eq_true rfl, Nat.le_of_ble_eq_true rfl⟩ ⟨Nat.le_of_ble_eq_true rfl, Nat.le_of_ble_eq_true rfl⟩ hK hP hS hl.1 (rest := []) (Nat.le_of_ble_eq_true rfl) dX2_lineZero_10 h17 (fun H locs hP hS => ?_)
      refine lv_iconst (v := 2) hx hb dX2_lineZero_13 (by decide) ?_
      refine lv_icmp_ge (tgt := 21) hx hb dX2_lineZero_14 (by decide) (fun c14 => ?_) (fun c14 => ?_)
      · have hs := if_t c14 hs
        refine lv_iconst (v := 0) hx hb dX2_lineZero_21 (by decide) ?_
        exact J1 false S18 _ _ _ (lv_sub hl [0, 1] rfl) hP hS hs
      · have hs := if_f c14 hs
        refine lv_iconst (v := 1) hx hb dX2_lineZero_17 (by decide) ?_
        refine lv_goto (tgt := 22) hx hb dX2_lineZero_18 (by decide) ?_
        exact J1 true S18 _ _ _ (lv_sub hl [0, 1] rfl) hP hS hs
theorem kX2_lineZero {p : Program} {l : Launch} {e : Env} {R : Room} {s : State} {m : MethodId} {args : Array Value} {below : List Frame} {meth : Method} {c : Code} {H : Heap} {locs : List Loc} {cells slots : Nat} {Q : State → Prop} {cc : ByteArray} {pc nL : Nat} {ls : Array Slot} {rest : List Value} {D : va_G} {ad : Nat → Nat} {cI cB : ClassId} {en : Nat → Nat} {S : St} {own : String} {index : Nat} {x1 : Int32} {So : St} (C : CallFix p m c cc nL s args wG own) (hlk : Cond.methodLink own index yX2_lineZero ∈ wG) (hR : rmX2_lineZero.frames + 1 ≤ R.frames ∧ 8 + (4 + 11) + rmX2_lineZero.locals ≤ R.locals) (hc : cells ≤ R.cells ∧ slots ≤ R.slots) (hK : KB D ad cI cB en s) (hP : va_P D vwCl (wB ad cI cB S) H) (hS : va_S (AX 10 ad s.heap.size) s.heap H locs) (hls : ls.size = nL) (hrest : (rest.map fun v => v.category).sum ≤ 8) (hd : decode cc pc = .ok (.invokevirtual index, 3)) (hs : fX2_lineZero x1 S = some So) (k : ∀ (H : Heap) (locs : List Loc), va_P D vwCl (wB ad cI cB So) H → va_S (AX 10 ad s.heap.size) s.heap H locs → W p l e R s m args below meth c H locs cells slots Q (F0 m (pc + 3) ls (rest))) : W p l e R s m args below meth c H locs cells slots Q (F0 m pc ls (.int x1 :: .ref (ad 4) :: rest)) :=
  u_callV (n := 1) (mX2_lineZero l D ad cI cB en S x1 So hs) C uK_B (wg_V hlk tI_X2_lineZero tS_X2_lineZero tN_X2 tK_X2_lineZero) rfl rfl rfl (by decide +kernel) hR rfl (va_recv hK.1 hP (ci := 2) (q0 := 4) rfl rfl) hK hP hS hls hrest hd hc rfl k
def fX2_ofSize (x0 : Int32) (t1 : Nat) (S : St) : Option (Int32 × St) :=
    (gd (t1 < 3) (if t1 = 0 then (some ((x0 &&& 4093), S))
    else (some (x0, S))))
abbrev rmX2_ofSize : Room := { frames := 0, cells := 0, slots := 0, locals := 0 }
set_option maxRecDepth 100000 in
set_option maxHeartbeats 4000000 in
theorem mX2_ofSize (l : Launch) (D : va_G) (ad : Nat → Nat) (cI cB : ClassId) (en : Nat → Nat) (S : St) (x0 : Int32) (t1 : Nat) (ro : Int32) (So : St) (hs : fX2_ofSize x0 t1 S = some (ro, So)) : uM l yX2_ofSize (wg yX2_ofSize cX2_ofSize 2 (some .int)) rmX2_ofSize (KB D ad cI cB en) D (wB ad cI cB) (AX 10 ad) [.int x0, .ref (en t1)] S (some (.int ro), So) := by
  refine uM_start (by decide) rfl ?_
  intro p e s m below meth c hx hb hr hlocks hml hown hts hK hP
  have hT : ∀ w ∈ wG, w.before _ s = true := fun w h => hts w (List.mem_cons_of_mem _ h)
  have hS : va_S (AX 10 ad s.heap.size) s.heap s.heap [] := va_S.rf
  have hown : s.vm.findClass RX2 = some m.cls := hown
  have C : CallFix p m c cX2_ofSize 2 s _ wG RX2 := ⟨hx, hb, hml, hown, hT⟩
  have hl := lv_entry ([.int x0, .ref (en t1)]) (n := 2) (Nat.le_of_ble_eq_true rfl)
  rw [lg_entry_eq]
  generalize (lg_sl ([.int x0, .ref (en t1)]) ++ List.replicate (2 - (lg_sl ([.int x0, .ref (en t1)])).length) Slot.unset).toArray = ls at hl ⊢
  have hl : lv_has ls 2 [(0, .int x0), (1, .ref (en t1))] := hl
  unfold fX2_ofSize at hs
  obtain ⟨ht1, hs⟩ := gd_e hs
  refine lv_aload_n hx hb dX2_ofSize_0 rfl (lv_at hl 1 rfl) ?_
  refine gS_BYTE hx hb hown hK hS (hT _ tF_X2_36) dX2_ofSize_1 ?_
  refine u_acmp_ne (tgt := 15) hx hb hK ht1 (by decide) dX2_ofSize_4 (by decide) (fun c1 => ?_) (fun c1 => ?_)
  · have hs := if_f c1 hs
    refine lv_iload_n hx hb dX2_ofSize_15 rfl (lv_at hl 0 rfl) ?_
    exact u_iret hx hb hr hlocks hP hS hs dX2_ofSize_16
  · have hs := if_t c1 hs
    refine lv_iload_n hx hb dX2_ofSize_7 rfl (lv_at hl 0 rfl) ?_
    refine lv_sipush (v := 4093) hx hb dX2_ofSize_8 (by decide) ?_
    refine lv_iand hx hb dX2_ofSize_11 ?_
    refine lv_goto (tgt := 16) hx hb dX2_ofSize_12 (by decide) ?_
    exact u_iret hx hb hr hlocks hP hS hs dX2_ofSize_16
theorem kX2_ofSize {p : Program} {l : Launch} {e : Env} {R : Room} {s : State} {m : MethodId} {args : Array Value} {below : List Frame} {meth : Method} {c : Code} {H : Heap} {locs : List Loc} {cells slots : Nat} {Q : State → Prop} {cc : ByteArray} {pc nL : Nat} {ls : Array Slot} {rest : List Value} {D : va_G} {ad : Nat → Nat} {cI cB : ClassId} {en : Nat → Nat} {S : St} {own : String} {index : Nat} {x0 : Int32} {t1 : Nat} {ro : Int32} {So : St} (C : CallFix p m c cc nL s args wG own) (hlk : Cond.methodLink own index yX2_ofSize ∈ wG) (hR : rmX2_ofSize.frames + 1 ≤ R.frames ∧ 8 + (2 + 11) + rmX2_ofSize.locals ≤ R.locals) (hc : cells ≤ R.cells ∧ slots ≤ R.slots) (hK : KB D ad cI cB en s) (hP : va_P D vwCl (wB ad cI cB S) H) (hS : va_S (AX 10 ad s.heap.size) s.heap H locs) (hls : ls.size = nL) (hrest : (rest.map fun v => v.category).sum ≤ 8) (hd : decode cc pc = .ok (.invokestatic index, 3)) (hs : fX2_ofSize x0 t1 S = some (ro, So)) (k : ∀ (H : Heap) (locs : List Loc), va_P D vwCl (wB ad cI cB So) H → va_S (AX 10 ad s.heap.size) s.heap H locs → W p l e R s m args below meth c H locs cells slots Q (F0 m (pc + 3) ls (.int ro :: rest))) : W p l e R s m args below meth c H locs cells slots Q (F0 m pc ls (.ref (en t1) :: .int x0 :: rest)) :=
  u_callS (n := 2) (mX2_ofSize l D ad cI cB en S x0 t1 ro So hs) C uK_B (wg_S hlk tI_X2_ofSize tN_X2 tK_X2_ofSize) rfl rfl rfl (by decide +kernel) hR rfl hK hP hS hls hrest hd hc rfl k
def fX2_move (x1 : Int32) (t2 : Nat) (S : St) : Option St :=
    (gd (t2 < 3) (bd (fX2_upper x1 S) fun r1 S1 => (lt (((((ush x1 6) &&& 7) <<< ((3 : Int32) &&& 31)) ||| r1) : Int32) fun v1 => (jn (fun (b1 : Bool) => (jn (fun (v2 : Int32) (S2 : St) => (bd (fX2_ofSize 4095 t2 S2) fun r2 S3 => (bd (fX2_operand x1 S3) fun r3 S4 => (bd (fX2_misfits r2 r3 S4) fun b2 S5 => (if (zI b2) = 0 then (bd (fX2_misfits v2 v1 S5) fun b3 S6 => (if (zI b3) = 0 then (bd (fX2_operand x1 S6) fun r4 S7 => (bd (fX0_locate t2 r4 S7) fun w1 S8 => (bd (fX0_load t2 w1 S8) fun r5 S9 => (if (zI b1) = 0 then (bd (fX0_locate t2 v1 S9) fun w2 S10 => (bd (fX1_logic t2 r5 S10) fun r6 S11 => (bv (fX0_store t2 w2 r6 S11) fun S12 => (some S12))))
    else (bd (fX5_extend t2 r5 S9) fun r7 S13 => (bv (fX4_set (8 + r1) r7 S13) fun S14 => (some S14)))))))
    else (some S6)))
    else (some S5)))))) fun K2 =>
    (if (zI b1) = 0 then (K2 509 S1)
    else (bd (fX2_ofSize 4095 t2 S1) fun r8 S15 => (K2 r8 S15))))) fun K1 =>
    (if (ush v1 3) = 1 then (K1 true)
    else (K1 false))))))
abbrev rmX2_move : Room := { frames := 3, cells := 0, slots := 0, locals := 73 }
set_option maxRecDepth 100000 in
set_option maxHeartbeats 4000000 in
theorem mX2_move (l : Launch) (D : va_G) (ad : Nat → Nat) (cI cB : ClassId) (en : Nat → Nat) (S : St) (x1 : Int32) (t2 : Nat) (So : St) (hs : fX2_move x1 t2 S = some So) : uM l yX2_move (wg yX2_move cX2_move 10 none) rmX2_move (KB D ad cI cB en) D (wB ad cI cB) (AX 10 ad) [.ref (ad 4), .int x1, .ref (en t2)] S (none, So) := by
  refine uM_start (by decide) rfl ?_
  intro p e s m below meth c hx hb hr hlocks hml hown hts hK hP
  have hT : ∀ w ∈ wG, w.before _ s = true := fun w h => hts w (List.mem_cons_of_mem _ h)
  have hS : va_S (AX 10 ad s.heap.size) s.heap s.heap [] := va_S.rf
  have hown : s.vm.findClass RX2 = some m.cls := hown
  have C : CallFix p m c cX2_move 10 s _ wG RX2 := ⟨hx, hb, hml, hown, hT⟩
  have hl := lv_entry ([.ref (ad 4), .int x1, .ref (en t2)]) (n := 10) (Nat.le_of_ble_eq_true rfl)
  rw [lg_entry_eq]
  generalize (lg_sl ([.ref (ad 4), .int x1, .ref (en t2)]) ++ List.replicate (10 - (lg_sl ([.ref (ad 4), .int x1, .ref (en t2)])).length) Slot.unset).toArray = ls at hl ⊢
  have hl : lv_has ls 10 [(0, .ref (ad 4)), (1, .int x1), (2, .ref (en t2))] := hl
  unfold fX2_move at hs
  obtain ⟨ht2, hs⟩ := gd_e hs
  refine lv_iload_n hx hb dX2_move_0 rfl (lv_at hl 1 rfl) ?_
  obtain ⟨r1, S1, h1, hs⟩ := bd_e hs
  refine kX2_upper C tM_X2_101 ⟨Nat.le_of_ble_eq_true rfl, Nat.le_of_ble_eq_true rfl⟩ ⟨Nat.le_of_ble_eq_true rfl, Nat.le_of_ble_eq_true rfl⟩ hK hP hS hl.1 (rest := []) (Nat.le_of_ble_eq_true rfl) dX2_move_1 h1 (fun H locs hP hS => ?_)
  refine lv_istore_n (lv' := [(3, .int r1), (0, .ref (ad 4)), (1, .int x1), (2, .ref (en t2))]) hx hb dX2_move_4 rfl hl (by decide) rfl (fun ls hl => ?_)
  refine lv_iload_n hx hb dX2_move_5 rfl (lv_at hl 2 rfl) ?_
  refine lv_bipush (v := 6) hx hb dX2_move_6 (by decide) ?_
  refine lv_iushr (v := (ush x1 6)) hx hb dX2_move_8 rfl ?_
  refine lv_bipush (v := 7) hx hb dX2_move_9 (by decide) ?_
  refine lv_iand hx hb dX2_move_11 ?_
  refine lv_iconst (v := 3) hx hb dX2_move_12 (by decide) ?_
  refine lv_ishl hx hb dX2_move_13 ?_
  refine lv_iload_n hx hb dX2_move_14 rfl (lv_at hl 0 rfl) ?_
  refine lv_ior hx hb dX2_move_15 ?_
  obtain ⟨v1, h2, hs⟩ := lt_e hs
  refine u_top h2 ?_
  refine lv_istore (lv' := [(4, .int v1), (3, .int r1), (0, .ref (ad 4)), (1, .int x1), (2, .ref (en t2))]) hx hb dX2_move_16 hl (by decide) rfl (fun ls hl => ?_)
  refine lv_iload hx hb dX2_move_18 (lv_at hl 0 rfl) ?_
  refine lv_iconst (v := 3) hx hb dX2_move_20 (by decide) ?_
  refine lv_iushr (v := (ush v1 3)) hx hb dX2_move_21 rfl ?_
  refine lv_iconst (v := 1) hx hb dX2_move_22 (by decide) ?_
  refine jn_e hs (fun K1 => ∀ (b1 : Bool) (H : Heap) (locs : List Loc) (ls : Array Slot), lv_has ls 10 [(4, .int v1), (3, .int r1), (0, .ref (ad 4)), (1, .int x1), (2, .ref (en t2))] → va_P D vwCl (wB ad cI cB S1) H → va_S (AX 10 ad s.heap.size) s.heap H locs → K1 b1 = some So → W p l e rmX2_move s m ([.ref (ad 4), .int x1, .ref (en t2)] : List Value).toArray below meth c H locs 0 0 (MQ below (uQ D (wB ad cI cB) (none, So) (AX 10 ad s.heap.size)) ([.ref (ad 4), .int x1, .ref (en t2)] : List Value).toArray s 0 0 (AX 10 ad s.heap.size)) (F0 m 31 ls [.int (zI b1)])) ?_ (fun K1 J1 hs => ?_)
  · intro b1 H locs ls hl hP hS hs
    refine lv_istore (lv' := [(5, .int (zI b1)), (4, .int v1), (3, .int r1), (0, .ref (ad 4)), (1, .int x1), (2, .ref (en t2))]) hx hb dX2_move_31 hl (by decide) rfl (fun ls hl => ?_)
    refine lv_iload hx hb dX2_move_33 (lv_at hl 0 rfl) ?_
    refine jn_e hs (fun K2 => ∀ (v2 : Int32) (S2 : St) (H : Heap) (locs : List Loc) (ls : Array Slot), lv_has ls 10 [(5, .int (zI b1)), (4, .int v1), (3, .int r1), (0, .ref (ad 4)), (1, .int x1), (2, .ref (en t2))] → va_P D vwCl (wB ad cI cB S2) H → va_S (AX 10 ad s.heap.size) s.heap H locs → K2 v2 S2 = some So → W p l e rmX2_move s m ([.ref (ad 4), .int x1, .ref (en t2)] : List Value).toArray below meth c H locs 0 0 (MQ below (uQ D (wB ad cI cB) (none, So) (AX 10 ad s.heap.size)) ([.ref (ad 4), .int x1, .ref (en t2)] : List Value).toArray s 0 0 (AX 10 ad s.heap.size)) (F0 m 51 ls [.int v2])) ?_ (fun K2 J2 hs => ?_)
    · intro v2 S2 H locs ls hl hP hS hs
      refine lv_istore (lv' := [(6, .int v2), (5, .int (zI b1)), (4, .int v1), (3, .int r1), (0, .ref (ad 4)), (1, .int x1), (2, .ref (en t2))]) hx hb dX2_move_51 hl (by decide) rfl (fun ls hl => ?_)
      refine lv_aload_n hx hb dX2_move_53 rfl (lv_at hl 4 rfl) ?_
      refine lv_sipush (v := 4095) hx hb dX2_move_54 (by decide) ?_
      refine lv_aload_n hx hb dX2_move_57 rfl (lv_at hl 6 rfl) ?_
      obtain ⟨r2, S3, h3, hs⟩ := bd_e hs
      refine kX2_ofSize C tM_X2_196 ⟨Nat.le_of_ble_eq_true rfl, Nat.le_of_ble_eq_true rfl⟩ ⟨Nat.le_of_ble_eq_true rfl, Nat.le_of_ble_eq_true rfl⟩ hK hP hS hl.1 (rest := [.ref (ad 4)]) (Nat.le_of_ble_eq_true rfl) dX2_move_58 h3 (fun H locs hP hS => ?_)
      refine lv_iload_n hx hb dX2_move_61 rfl (lv_at hl 5 rfl) ?_
      obtain ⟨r3, S4, h4, hs⟩ := bd_e hs
      refine kX2_operand C tM_X2_95 ⟨Nat.le_of_ble_eq_true rfl, Nat.le_of_ble_eq_true rfl⟩ ⟨Nat.le_of_ble_eq_true rfl, Nat.le_of_ble_eq_true rfl⟩ hK hP hS hl.1 (rest := [.int r2, .ref (ad 4)]) (Nat.le_of_ble_eq_true rfl) dX2_move_62 h4 (fun H locs hP hS => ?_)
      obtain ⟨b2, S5, h5, hs⟩ := bd_e hs
      refine kX2_misfits C tM_X2_146 ⟨Nat.le_of_ble_eq_true rfl, Nat.le_of_ble_eq_true rfl⟩ ⟨Nat.le_of_ble_eq_true rfl, Nat.le_of_ble_eq_true rfl⟩ hK hP hS hl.1 (rest := []) (Nat.le_of_ble_eq_true rfl) dX2_move_65 h5 (fun H locs hP hS => ?_)
      refine lv_if_ne (tgt := 82) hx hb dX2_move_68 (by decide) (fun c1 => ?_) (fun c1 => ?_)
      · have hs := if_f c1 hs
        exact u_vret hx hb hr hlocks hP hS hs dX2_move_82
      · have hs := if_t c1 hs
        refine lv_aload_n hx hb dX2_move_71 rfl (lv_at hl 4 rfl) ?_
        refine lv_iload hx hb dX2_move_72 (lv_at hl 0 rfl) ?_
        refine lv_iload hx hb dX2_move_74 (lv_at hl 2 rfl) ?_
        obtain ⟨b3, S6, h6, hs⟩ := bd_e hs
        refine kX2_misfits C tM_X2_146 ⟨Nat.le_of_ble_eq_true rfl, Nat.le_of_ble_eq_true rfl⟩ ⟨Nat.le_of_ble_eq_true rfl, Nat.le_of_ble_eq_true rfl⟩ hK hP hS hl.1 (rest := []) (Nat.le_of_ble_eq_true rfl) dX2_move_76 h6 (fun H locs hP hS => ?_)
        refine lv_if_eq (tgt := 83) hx hb dX2_move_79 (by decide) (fun c2 => ?_) (fun c2 => ?_)
        · have hs := if_t c2 hs
          refine lv_aload_n hx hb dX2_move_83 rfl (lv_at hl 4 rfl) ?_
          refine gB_X2_access hx hb hT hown hK hP (hT _ tF_X2_15) dX2_move_84 ?_
          refine lv_aload_n hx hb dX2_move_87 rfl (lv_at hl 6 rfl) ?_
          refine lv_aload_n hx hb dX2_move_88 rfl (lv_at hl 4 rfl) ?_
          refine gB_X2_access hx hb hT hown hK hP (hT _ tF_X2_15) dX2_move_89 ?_
          refine lv_aload_n hx hb dX2_move_92 rfl (lv_at hl 6 rfl) ?_
          refine lv_iload_n hx hb dX2_move_93 rfl (lv_at hl 5 rfl) ?_
          obtain ⟨r4, S7, h7, hs⟩ := bd_e hs
          refine kX2_operand C tM_X2_95 ⟨Nat.le_of_ble_eq_true rfl, Nat.le_of_ble_eq_true rfl⟩ ⟨Nat.le_of_ble_eq_true rfl, Nat.le_of_ble_eq_true rfl⟩ hK hP hS hl.1 (rest := [.ref (en t2), .ref (ad 3), .ref (en t2), .ref (ad 3)]) (Nat.le_of_ble_eq_true rfl) dX2_move_94 h7 (fun H locs hP hS => ?_)
          obtain ⟨w1, S8, h8, hs⟩ := bd_e hs
          refine kX0_locate C tM_X2_150 ⟨Nat.le_of_ble_eq_true rfl, Nat.le_of_ble_eq_true rfl⟩ ⟨Nat.le_of_ble_eq_true rfl, Nat.le_of_ble_eq_true rfl⟩ hK hP hS hl.1 (rest := [.ref (en t2), .ref (ad 3)]) (Nat.le_of_ble_eq_true rfl) dX2_move_97 h8 (fun H locs hP hS => ?_)
          obtain ⟨r5, S9, h9, hs⟩ := bd_e hs
          refine kX0_load C tM_X2_154 ⟨Nat.le_of_ble_eq_true rfl, Nat.le_of_ble_eq_true rfl⟩ ⟨Nat.le_of_ble_eq_true rfl, Nat.le_of_ble_eq_true rfl⟩ hK hP hS hl.1 (rest := []) (Nat.le_of_ble_eq_true rfl) dX2_move_100 h9 (fun H locs hP hS => ?_)
          refine lv_istore (lv' := [(7, .int r5), (6, .int v2), (5, .int (zI b1)), (4, .int v1), (3, .int r1), (0, .ref (ad 4)), (1, .int x1), (2, .ref (en t2))]) hx hb dX2_move_103 hl (by decide) rfl (fun ls hl => ?_)
          refine lv_iload hx hb dX2_move_105 (lv_at hl 2 rfl) ?_
          refine lv_if_eq (tgt := 130) hx hb dX2_move_107 (by decide) (fun c3 => ?_) (fun c3 => ?_)
          · have hs := if_t c3 hs
            refine lv_aload_n hx hb dX2_move_130 rfl (lv_at hl 5 rfl) ?_
            refine gB_X2_access hx hb hT hown hK hP (hT _ tF_X2_15) dX2_move_131 ?_
            refine lv_aload_n hx hb dX2_move_134 rfl (lv_at hl 7 rfl) ?_
            refine lv_iload hx hb dX2_move_135 (lv_at hl 3 rfl) ?_
            obtain ⟨w2, S10, h10, hs⟩ := bd_e hs
            refine kX0_locate C tM_X2_150 ⟨Nat.le_of_ble_eq_true rfl, Nat.le_of_ble_eq_true rfl⟩ ⟨Nat.le_of_ble_eq_true rfl, Nat.le_of_ble_eq_true rfl⟩ hK hP hS hl.1 (rest := []) (Nat.le_of_ble_eq_true rfl) dX2_move_137 h10 (fun H locs hP hS => ?_)
            refine lv_lstore (lv' := [(8, .long w2), (7, .int r5), (6, .int v2), (5, .int (zI b1)), (4, .int v1), (3, .int r1), (0, .ref (ad 4)), (1, .int x1), (2, .ref (en t2))]) hx hb dX2_move_140 hl (by decide) rfl (fun ls hl => ?_)
            refine lv_aload_n hx hb dX2_move_142 rfl (lv_at hl 6 rfl) ?_
            refine gB_X2_access hx hb hT hown hK hP (hT _ tF_X2_15) dX2_move_143 ?_
            refine lv_aload_n hx hb dX2_move_146 rfl (lv_at hl 8 rfl) ?_
            refine lv_lload hx hb dX2_move_147 (lv_at hl 0 rfl) ?_
            refine lv_aload_n hx hb dX2_move_149 rfl (lv_at hl 6 rfl) ?_
            refine gB_X2_arithmetic hx hb hT hown hK hP (hT _ tF_X2_24) dX2_move_150 ?_
            refine lv_aload_n hx hb dX2_move_153 rfl (lv_at hl 8 rfl) ?_
            refine lv_iload hx hb dX2_move_154 (lv_at hl 1 rfl) ?_
            obtain ⟨r6, S11, h11, hs⟩ := bd_e hs
            refine kX1_logic C tM_X2_203 ⟨Nat.le_of_ble_eq_true rfl, Nat.le_of_ble_eq_true rfl⟩ ⟨Nat.le_of_ble_eq_true rfl, Nat.le_of_ble_eq_true rfl⟩ hK hP hS hl.1 (rest := [.long w2, .ref (en t2), .ref (ad 3)]) (Nat.le_of_ble_eq_true rfl) dX2_move_156 h11 (fun H locs hP hS => ?_)
            obtain ⟨S12, h12, hs⟩ := bv_e hs
            refine kX0_store C tM_X2_161 ⟨Nat.le_of_ble_eq_true rfl, Nat.le_of_ble_eq_true rfl⟩ ⟨Nat.le_of_ble_eq_true rfl, Nat.le_of_ble_eq_true rfl⟩ hK hP hS hl.1 (rest := []) (Nat.le_of_ble_eq_true rfl) dX2_move_159 h12 (fun H locs hP hS => ?_)
            exact u_vret hx hb hr hlocks hP hS hs dX2_move_162
          · have hs := if_f c3 hs
            refine lv_aload_n hx hb dX2_move_110 rfl (lv_at hl 5 rfl) ?_
            refine gB_X2_registers hx hb hT hown hK hP (hT _ tF_X2_9) dX2_move_111 ?_
            refine lv_bipush (v := 8) hx hb dX2_move_114 (by decide) ?_
            refine lv_iload_n hx hb dX2_move_116 rfl (lv_at hl 4 rfl) ?_
            refine lv_iadd hx hb dX2_move_117 ?_
            refine lv_aload_n hx hb dX2_move_118 rfl (lv_at hl 7 rfl) ?_
            refine lv_iload hx hb dX2_move_119 (lv_at hl 0 rfl) ?_
            obtain ⟨r7, S13, h13, hs⟩ := bd_e hs
            refine kX5_extend C tM_X2_200 ⟨Nat.le_of_ble_eq_true rfl, Nat.le_of_ble_eq_true rfl⟩ ⟨Nat.le_of_ble_eq_true rfl, Nat.le_of_ble_eq_true rfl⟩ hK hP hS hl.1 (rest := [.int (8 + r1), .ref (ad 2)]) (Nat.le_of_ble_eq_true rfl) dX2_move_121 h13 (fun H locs hP hS => ?_)
            obtain ⟨S14, h14, hs⟩ := bv_e hs
            refine kX4_set C tM_X2_143 ⟨Nat.le_of_ble_eq_true rfl, Nat.le_of_ble_eq_true rfl⟩ ⟨Nat.le_of_ble_eq_true rfl, Nat.le_of_ble_eq_true rfl⟩ hK hP hS hl.1 (rest := []) (Nat.le_of_ble_eq_true rfl) dX2_move_124 h14 (fun H locs hP hS => ?_)
            refine lv_goto (tgt := 162) hx hb dX2_move_127 (by decide) ?_
            exact u_vret hx hb hr hlocks hP hS hs dX2_move_162
        · have hs := if_f c2 hs
          exact u_vret hx hb hr hlocks hP hS hs dX2_move_82
    ·
      refine lv_if_eq (tgt := 48) hx hb dX2_move_35 (by decide) (fun c4 => ?_) (fun c4 => ?_)
      · have hs := if_t c4 hs
        refine lv_sipush (v := 509) hx hb dX2_move_48 (by decide) ?_
        exact J2 509 S1 _ _ _ (lv_sub hl [0, 1, 2, 3, 4, 5] rfl) hP hS hs
      · have hs := if_f c4 hs
        refine lv_sipush (v := 4095) hx hb dX2_move_38 (by decide) ?_
        refine lv_aload_n hx hb dX2_move_41 rfl (lv_at hl 5 rfl) ?_
        obtain ⟨r8, S15, h15, hs⟩ := bd_e hs
        refine kX2_ofSize C tM_X2_196 ⟨Nat.le_of_ble_eq_true rfl, Nat.le_of_ble_eq_true rfl⟩ ⟨Nat.le_of_ble_eq_true rfl, Nat.le_of_ble_eq_true rfl⟩ hK hP hS hl.1 (rest := []) (Nat.le_of_ble_eq_true rfl) dX2_move_42 h15 (fun H locs hP hS => ?_)
        refine lv_goto (tgt := 51) hx hb dX2_move_45 (by decide) ?_
        exact J2 r8 S15 _ _ _ (lv_sub hl [0, 1, 2, 3, 4, 5] rfl) hP hS hs
  ·
    refine lv_icmp_ne (tgt := 30) hx hb dX2_move_23 (by decide) (fun c5 => ?_) (fun c5 => ?_)
    · have hs := if_f c5 hs
      refine lv_iconst (v := 0) hx hb dX2_move_30 (by decide) ?_
      exact J1 false _ _ _ (lv_sub hl [0, 1, 2, 3, 4] rfl) hP hS hs
    · have hs := if_t c5 hs
      refine lv_iconst (v := 1) hx hb dX2_move_26 (by decide) ?_
      refine lv_goto (tgt := 31) hx hb dX2_move_27 (by decide) ?_
      exact J1 true _ _ _ (lv_sub hl [0, 1, 2, 3, 4] rfl) hP hS hs
theorem kX2_move {p : Program} {l : Launch} {e : Env} {R : Room} {s : State} {m : MethodId} {args : Array Value} {below : List Frame} {meth : Method} {c : Code} {H : Heap} {locs : List Loc} {cells slots : Nat} {Q : State → Prop} {cc : ByteArray} {pc nL : Nat} {ls : Array Slot} {rest : List Value} {D : va_G} {ad : Nat → Nat} {cI cB : ClassId} {en : Nat → Nat} {S : St} {own : String} {index : Nat} {x1 : Int32} {t2 : Nat} {So : St} (C : CallFix p m c cc nL s args wG own) (hlk : Cond.methodLink own index yX2_move ∈ wG) (hR : rmX2_move.frames + 1 ≤ R.frames ∧ 8 + (10 + 11) + rmX2_move.locals ≤ R.locals) (hc : cells ≤ R.cells ∧ slots ≤ R.slots) (hK : KB D ad cI cB en s) (hP : va_P D vwCl (wB ad cI cB S) H) (hS : va_S (AX 10 ad s.heap.size) s.heap H locs) (hls : ls.size = nL) (hrest : (rest.map fun v => v.category).sum ≤ 8) (hd : decode cc pc = .ok (.invokevirtual index, 3)) (hs : fX2_move x1 t2 S = some So) (k : ∀ (H : Heap) (locs : List Loc), va_P D vwCl (wB ad cI cB So) H → va_S (AX 10 ad s.heap.size) s.heap H locs → W p l e R s m args below meth c H locs cells slots Q (F0 m (pc + 3) ls (rest))) : W p l e R s m args below meth c H locs cells slots Q (F0 m pc ls (.ref (en t2) :: .int x1 :: .ref (ad 4) :: rest)) :=
  u_callV (n := 2) (mX2_move l D ad cI cB en S x1 t2 So hs) C uK_B (wg_V hlk tI_X2_move tS_X2_move tN_X2 tK_X2_move) rfl rfl rfl (by decide +kernel) hR rfl (va_recv hK.1 hP (ci := 2) (q0 := 4) rfl rfl) hK hP hS hls hrest hd hc rfl k
def fX2_check (x1 : Int32) (S : St) : Option St :=
    (bd (fX2_operand x1 S) fun r1 S1 => (bd (fX2_misfits 4093 r1 S1) fun b1 S2 => (if (zI b1) = 0 then (bd (fX2_operand x1 S2) fun r2 S3 => (bd (fX0_locate 1 r2 S3) fun w1 S4 => (bd (fX0_load 1 w1 S4) fun r3 S5 => (lt ((r3.toInt16.toInt32) : Int32) fun v1 => (bd (fX2_upper x1 S5) fun r4 S6 => (bd (fX4_get r4 S6) fun r5 S7 => (lt ((r5.toInt16.toInt32) : Int32) fun v2 => (if v2 < 0 then (jn (fun (b2 : Bool) => (bv (fX4_mark 8 b2 S7) fun S8 => (bv (fX0_raise 6 S8) fun S9 => (some S9)))) fun K1 =>
    (if 0 ≤ v2 then (K1 false)
    else (K1 true)))
    else (if v2 ≤ v1 then (some S7)
    else (jn (fun (b3 : Bool) => (bv (fX4_mark 8 b3 S7) fun S10 => (bv (fX0_raise 6 S10) fun S11 => (some S11)))) fun K2 =>
    (if 0 ≤ v2 then (K2 false)
    else (K2 true))))))))))))
    else (some S2))))
abbrev rmX2_check : Room := { frames := 3, cells := 0, slots := 0, locals := 70 }
set_option maxRecDepth 100000 in
set_option maxHeartbeats 4000000 in
theorem mX2_check (l : Launch) (D : va_G) (ad : Nat → Nat) (cI cB : ClassId) (en : Nat → Nat) (S : St) (x1 : Int32) (So : St) (hs : fX2_check x1 S = some So) : uM l yX2_check (wg yX2_check cX2_check 4 none) rmX2_check (KB D ad cI cB en) D (wB ad cI cB) (AX 10 ad) [.ref (ad 4), .int x1] S (none, So) := by
  refine uM_start (by decide) rfl ?_
  intro p e s m below meth c hx hb hr hlocks hml hown hts hK hP
  have hT : ∀ w ∈ wG, w.before _ s = true := fun w h => hts w (List.mem_cons_of_mem _ h)
  have hS : va_S (AX 10 ad s.heap.size) s.heap s.heap [] := va_S.rf
  have hown : s.vm.findClass RX2 = some m.cls := hown
  have C : CallFix p m c cX2_check 4 s _ wG RX2 := ⟨hx, hb, hml, hown, hT⟩
  have hl := lv_entry ([.ref (ad 4), .int x1]) (n := 4) (Nat.le_of_ble_eq_true rfl)
  rw [lg_entry_eq]
  generalize (lg_sl ([.ref (ad 4), .int x1]) ++ List.replicate (4 - (lg_sl ([.ref (ad 4), .int x1])).length) Slot.unset).toArray = ls at hl ⊢
  have hl : lv_has ls 4 [(0, .ref (ad 4)), (1, .int x1)] := hl
  unfold fX2_check at hs
  refine lv_aload_n hx hb dX2_check_0 rfl (lv_at hl 0 rfl) ?_
  refine lv_sipush (v := 4093) hx hb dX2_check_1 (by decide) ?_
  refine lv_iload_n hx hb dX2_check_4 rfl (lv_at hl 1 rfl) ?_
  obtain ⟨r1, S1, h1, hs⟩ := bd_e hs
  refine kX2_operand C tM_X2_95 ⟨Nat.le_of_ble_eq_true rfl, Nat.le_of_ble_eq_true rfl⟩ ⟨Nat.le_of_ble_eq_true rfl, Nat.le_of_ble_eq_true rfl⟩ hK hP hS hl.1 (rest := [.int 4093, .ref (ad 4)]) (Nat.le_of_ble_eq_true rfl) dX2_check_5 h1 (fun H locs hP hS => ?_)
  obtain ⟨b1, S2, h2, hs⟩ := bd_e hs
  refine kX2_misfits C tM_X2_146 ⟨Nat.le_of_ble_eq_true rfl, Nat.le_of_ble_eq_true rfl⟩ ⟨Nat.le_of_ble_eq_true rfl, Nat.le_of_ble_eq_true rfl⟩ hK hP hS hl.1 (rest := []) (Nat.le_of_ble_eq_true rfl) dX2_check_8 h2 (fun H locs hP hS => ?_)
  refine lv_if_eq (tgt := 15) hx hb dX2_check_11 (by decide) (fun c1 => ?_) (fun c1 => ?_)
  · have hs := if_t c1 hs
    refine lv_aload_n hx hb dX2_check_15 rfl (lv_at hl 0 rfl) ?_
    refine gB_X2_access hx hb hT hown hK hP (hT _ tF_X2_15) dX2_check_16 ?_
    refine gS_WORD hx hb hown hK hS (hT _ tF_X2_49) dX2_check_19 ?_
    refine lv_aload_n hx hb dX2_check_22 rfl (lv_at hl 0 rfl) ?_
    refine gB_X2_access hx hb hT hown hK hP (hT _ tF_X2_15) dX2_check_23 ?_
    refine gS_WORD hx hb hown hK hS (hT _ tF_X2_49) dX2_check_26 ?_
    refine lv_iload_n hx hb dX2_check_29 rfl (lv_at hl 1 rfl) ?_
    obtain ⟨r2, S3, h3, hs⟩ := bd_e hs
    refine kX2_operand C tM_X2_95 ⟨Nat.le_of_ble_eq_true rfl, Nat.le_of_ble_eq_true rfl⟩ ⟨Nat.le_of_ble_eq_true rfl, Nat.le_of_ble_eq_true rfl⟩ hK hP hS hl.1 (rest := [.ref (en 1), .ref (ad 3), .ref (en 1), .ref (ad 3)]) (Nat.le_of_ble_eq_true rfl) dX2_check_30 h3 (fun H locs hP hS => ?_)
    obtain ⟨w1, S4, h4, hs⟩ := bd_e hs
    refine kX0_locate C tM_X2_150 ⟨Nat.le_of_ble_eq_true rfl, Nat.le_of_ble_eq_true rfl⟩ ⟨Nat.le_of_ble_eq_true rfl, Nat.le_of_ble_eq_true rfl⟩ hK hP hS hl.1 (rest := [.ref (en 1), .ref (ad 3)]) (Nat.le_of_ble_eq_true rfl) dX2_check_33 h4 (fun H locs hP hS => ?_)
    obtain ⟨r3, S5, h5, hs⟩ := bd_e hs
    refine kX0_load C tM_X2_154 ⟨Nat.le_of_ble_eq_true rfl, Nat.le_of_ble_eq_true rfl⟩ ⟨Nat.le_of_ble_eq_true rfl, Nat.le_of_ble_eq_true rfl⟩ hK hP hS hl.1 (rest := []) (Nat.le_of_ble_eq_true rfl) dX2_check_36 h5 (fun H locs hP hS => ?_)
    refine lv_i2s (v := (r3.toInt16.toInt32)) hx hb dX2_check_39 rfl ?_
    obtain ⟨v1, h6, hs⟩ := lt_e hs
    refine u_top h6 ?_
    refine lv_istore_n (lv' := [(2, .int v1), (0, .ref (ad 4)), (1, .int x1)]) hx hb dX2_check_40 rfl hl (by decide) rfl (fun ls hl => ?_)
    refine lv_aload_n hx hb dX2_check_41 rfl (lv_at hl 1 rfl) ?_
    refine gB_X2_registers hx hb hT hown hK hP (hT _ tF_X2_9) dX2_check_42 ?_
    refine lv_iload_n hx hb dX2_check_45 rfl (lv_at hl 2 rfl) ?_
    obtain ⟨r4, S6, h7, hs⟩ := bd_e hs
    refine kX2_upper C tM_X2_101 ⟨Nat.le_of_ble_eq_true rfl, Nat.le_of_ble_eq_true rfl⟩ ⟨Nat.le_of_ble_eq_true rfl, Nat.le_of_ble_eq_true rfl⟩ hK hP hS hl.1 (rest := [.ref (ad 2)]) (Nat.le_of_ble_eq_true rfl) dX2_check_46 h7 (fun H locs hP hS => ?_)
    obtain ⟨r5, S7, h8, hs⟩ := bd_e hs
    refine kX4_get C tM_X2_124 ⟨Nat.le_of_ble_eq_true rfl, Nat.le_of_ble_eq_true rfl⟩ ⟨Nat.le_of_ble_eq_true rfl, Nat.le_of_ble_eq_true rfl⟩ hK hP hS hl.1 (rest := []) (Nat.le_of_ble_eq_true rfl) dX2_check_49 h8 (fun H locs hP hS => ?_)
    refine lv_i2s (v := (r5.toInt16.toInt32)) hx hb dX2_check_52 rfl ?_
    obtain ⟨v2, h9, hs⟩ := lt_e hs
    refine u_top h9 ?_
    refine lv_istore_n (lv' := [(3, .int v2), (2, .int v1), (0, .ref (ad 4)), (1, .int x1)]) hx hb dX2_check_53 rfl hl (by decide) rfl (fun ls hl => ?_)
    refine lv_iload_n hx hb dX2_check_54 rfl (lv_at hl 0 rfl) ?_
    refine lv_if_lt (tgt := 63) hx hb dX2_check_55 (by decide) (fun c2 => ?_) (fun c2 => ?_)
    · have hs := if_t c2 hs
      refine lv_aload_n hx hb dX2_check_63 rfl (lv_at hl 2 rfl) ?_
      refine gB_X2_registers hx hb hT hown hK hP (hT _ tF_X2_9) dX2_check_64 ?_
      refine lv_bipush (v := 8) hx hb dX2_check_67 (by decide) ?_
      refine lv_iload_n hx hb dX2_check_69 rfl (lv_at hl 0 rfl) ?_
      refine jn_e hs (fun K1 => ∀ (b2 : Bool) (H : Heap) (locs : List Loc) (ls : Array Slot), lv_has ls 4 [(0, .ref (ad 4))] → va_P D vwCl (wB ad cI cB S7) H → va_S (AX 10 ad s.heap.size) s.heap H locs → K1 b2 = some So → W p l e rmX2_check s m ([.ref (ad 4), .int x1] : List Value).toArray below meth c H locs 0 0 (MQ below (uQ D (wB ad cI cB) (none, So) (AX 10 ad s.heap.size)) ([.ref (ad 4), .int x1] : List Value).toArray s 0 0 (AX 10 ad s.heap.size)) (F0 m 78 ls [.int (zI b2), .int 8, .ref (ad 2)])) ?_ (fun K1 J1 hs => ?_)
      · intro b2 H locs ls hl hP hS hs
        obtain ⟨S8, h10, hs⟩ := bv_e hs
        refine kX4_mark C tM_X2_158 ⟨Nat.le_of_ble_eq_true rfl, Nat.le_of_ble_eq_true rfl⟩ ⟨Nat.le_of_ble_eq_true rfl, Nat.le_of_ble_eq_true rfl⟩ hK hP hS hl.1 (rest := []) (Nat.le_of_ble_eq_true rfl) dX2_check_78 h10 (fun H locs hP hS => ?_)
        refine lv_aload_n hx hb dX2_check_81 rfl (lv_at hl 0 rfl) ?_
        refine gB_X2_access hx hb hT hown hK hP (hT _ tF_X2_15) dX2_check_82 ?_
        refine lv_bipush (v := 6) hx hb dX2_check_85 (by decide) ?_
        obtain ⟨S9, h11, hs⟩ := bv_e hs
        refine kX0_raise C tM_X2_71 ⟨Nat.le_of_ble_eq_true rfl, Nat.le_of_ble_eq_true rfl⟩ ⟨Nat.le_of_ble_eq_true rfl, Nat.le_of_ble_eq_true rfl⟩ hK hP hS hl.1 (rest := []) (Nat.le_of_ble_eq_true rfl) dX2_check_87 h11 (fun H locs hP hS => ?_)
        exact u_vret hx hb hr hlocks hP hS hs dX2_check_90
      ·
        refine lv_if_ge (tgt := 77) hx hb dX2_check_70 (by decide) (fun c3 => ?_) (fun c3 => ?_)
        · have hs := if_t c3 hs
          refine lv_iconst (v := 0) hx hb dX2_check_77 (by decide) ?_
          exact J1 false _ _ _ (lv_sub hl [2] rfl) hP hS hs
        · have hs := if_f c3 hs
          refine lv_iconst (v := 1) hx hb dX2_check_73 (by decide) ?_
          refine lv_goto (tgt := 78) hx hb dX2_check_74 (by decide) ?_
          exact J1 true _ _ _ (lv_sub hl [2] rfl) hP hS hs
    · have hs := if_f c2 hs
      refine lv_iload_n hx hb dX2_check_58 rfl (lv_at hl 0 rfl) ?_
      refine lv_iload_n hx hb dX2_check_59 rfl (lv_at hl 1 rfl) ?_
      refine lv_icmp_le (tgt := 90) hx hb dX2_check_60 (by decide) (fun c4 => ?_) (fun c4 => ?_)
      · have hs := if_t c4 hs
        exact u_vret hx hb hr hlocks hP hS hs dX2_check_90
      · have hs := if_f c4 hs
        refine lv_aload_n hx hb dX2_check_63 rfl (lv_at hl 2 rfl) ?_
        refine gB_X2_registers hx hb hT hown hK hP (hT _ tF_X2_9) dX2_check_64 ?_
        refine lv_bipush (v := 8) hx hb dX2_check_67 (by decide) ?_
        refine lv_iload_n hx hb dX2_check_69 rfl (lv_at hl 0 rfl) ?_
        refine jn_e hs (fun K2 => ∀ (b3 : Bool) (H : Heap) (locs : List Loc) (ls : Array Slot), lv_has ls 4 [(0, .ref (ad 4))] → va_P D vwCl (wB ad cI cB S7) H → va_S (AX 10 ad s.heap.size) s.heap H locs → K2 b3 = some So → W p l e rmX2_check s m ([.ref (ad 4), .int x1] : List Value).toArray below meth c H locs 0 0 (MQ below (uQ D (wB ad cI cB) (none, So) (AX 10 ad s.heap.size)) ([.ref (ad 4), .int x1] : List Value).toArray s 0 0 (AX 10 ad s.heap.size)) (F0 m 78 ls [.int (zI b3), .int 8, .ref (ad 2)])) ?_ (fun K2 J2 hs => ?_)
        · intro b3 H locs ls hl hP hS hs
          obtain ⟨S10, h12, hs⟩ := bv_e hs
          refine kX4_mark C tM_X2_158 ⟨Nat.le_of_ble_eq_true rfl, Nat.le_of_ble_eq_true rfl⟩ ⟨Nat.le_of_ble_eq_true rfl, Nat.le_of_ble_eq_true rfl⟩ hK hP hS hl.1 (rest := []) (Nat.le_of_ble_eq_true rfl) dX2_check_78 h12 (fun H locs hP hS => ?_)
          refine lv_aload_n hx hb dX2_check_81 rfl (lv_at hl 0 rfl) ?_
          refine gB_X2_access hx hb hT hown hK hP (hT _ tF_X2_15) dX2_check_82 ?_
          refine lv_bipush (v := 6) hx hb dX2_check_85 (by decide) ?_
          obtain ⟨S11, h13, hs⟩ := bv_e hs
          refine kX0_raise C tM_X2_71 ⟨Nat.le_of_ble_eq_true rfl, Nat.le_of_ble_eq_true rfl⟩ ⟨Nat.le_of_ble_eq_true rfl, Nat.le_of_ble_eq_true rfl⟩ hK hP hS hl.1 (rest := []) (Nat.le_of_ble_eq_true rfl) dX2_check_87 h13 (fun H locs hP hS => ?_)
          exact u_vret hx hb hr hlocks hP hS hs dX2_check_90
        ·
          refine lv_if_ge (tgt := 77) hx hb dX2_check_70 (by decide) (fun c5 => ?_) (fun c5 => ?_)
          · have hs := if_t c5 hs
            refine lv_iconst (v := 0) hx hb dX2_check_77 (by decide) ?_
            exact J2 false _ _ _ (lv_sub hl [2] rfl) hP hS hs
          · have hs := if_f c5 hs
            refine lv_iconst (v := 1) hx hb dX2_check_73 (by decide) ?_
            refine lv_goto (tgt := 78) hx hb dX2_check_74 (by decide) ?_
            exact J2 true _ _ _ (lv_sub hl [2] rfl) hP hS hs
  · have hs := if_f c1 hs
    exact u_vret hx hb hr hlocks hP hS hs dX2_check_14
theorem kX2_check {p : Program} {l : Launch} {e : Env} {R : Room} {s : State} {m : MethodId} {args : Array Value} {below : List Frame} {meth : Method} {c : Code} {H : Heap} {locs : List Loc} {cells slots : Nat} {Q : State → Prop} {cc : ByteArray} {pc nL : Nat} {ls : Array Slot} {rest : List Value} {D : va_G} {ad : Nat → Nat} {cI cB : ClassId} {en : Nat → Nat} {S : St} {own : String} {index : Nat} {x1 : Int32} {So : St} (C : CallFix p m c cc nL s args wG own) (hlk : Cond.methodLink own index yX2_check ∈ wG) (hR : rmX2_check.frames + 1 ≤ R.frames ∧ 8 + (4 + 11) + rmX2_check.locals ≤ R.locals) (hc : cells ≤ R.cells ∧ slots ≤ R.slots) (hK : KB D ad cI cB en s) (hP : va_P D vwCl (wB ad cI cB S) H) (hS : va_S (AX 10 ad s.heap.size) s.heap H locs) (hls : ls.size = nL) (hrest : (rest.map fun v => v.category).sum ≤ 8) (hd : decode cc pc = .ok (.invokevirtual index, 3)) (hs : fX2_check x1 S = some So) (k : ∀ (H : Heap) (locs : List Loc), va_P D vwCl (wB ad cI cB So) H → va_S (AX 10 ad s.heap.size) s.heap H locs → W p l e R s m args below meth c H locs cells slots Q (F0 m (pc + 3) ls (rest))) : W p l e R s m args below meth c H locs cells slots Q (F0 m pc ls (.int x1 :: .ref (ad 4) :: rest)) :=
  u_callV (n := 1) (mX2_check l D ad cI cB en S x1 So hs) C uK_B (wg_V hlk tI_X2_check tS_X2_check tN_X2 tK_X2_check) rfl rfl rfl (by decide +kernel) hR rfl (va_recv hK.1 hP (ci := 2) (q0 := 4) rfl rfl) hK hP hS hls hrest hd hc rfl k
def fX2_loadAddress (x1 : Int32) (S : St) : Option St :=
    (bd (fX2_operand x1 S) fun r1 S1 => (bd (fX2_misfits 2020 r1 S1) fun b1 S2 => (if (zI b1) = 0 then (bd (fX2_upper x1 S2) fun r2 S3 => (bd (fX2_operand x1 S3) fun r3 S4 => (bd (fX0_locate 2 r3 S4) fun w1 S5 => (bv (fX4_set (8 + r2) (w1.toInt32) S5) fun S6 => (some S6)))))
    else (some S2))))
abbrev rmX2_loadAddress : Room := { frames := 3, cells := 0, slots := 0, locals := 70 }
set_option maxRecDepth 100000 in
set_option maxHeartbeats 4000000 in
theorem mX2_loadAddress (l : Launch) (D : va_G) (ad : Nat → Nat) (cI cB : ClassId) (en : Nat → Nat) (S : St) (x1 : Int32) (So : St) (hs : fX2_loadAddress x1 S = some So) : uM l yX2_loadAddress (wg yX2_loadAddress cX2_loadAddress 2 none) rmX2_loadAddress (KB D ad cI cB en) D (wB ad cI cB) (AX 10 ad) [.ref (ad 4), .int x1] S (none, So) := by
  refine uM_start (by decide) rfl ?_
  intro p e s m below meth c hx hb hr hlocks hml hown hts hK hP
  have hT : ∀ w ∈ wG, w.before _ s = true := fun w h => hts w (List.mem_cons_of_mem _ h)
  have hS : va_S (AX 10 ad s.heap.size) s.heap s.heap [] := va_S.rf
  have hown : s.vm.findClass RX2 = some m.cls := hown
  have C : CallFix p m c cX2_loadAddress 2 s _ wG RX2 := ⟨hx, hb, hml, hown, hT⟩
  have hl := lv_entry ([.ref (ad 4), .int x1]) (n := 2) (Nat.le_of_ble_eq_true rfl)
  rw [lg_entry_eq]
  generalize (lg_sl ([.ref (ad 4), .int x1]) ++ List.replicate (2 - (lg_sl ([.ref (ad 4), .int x1])).length) Slot.unset).toArray = ls at hl ⊢
  have hl : lv_has ls 2 [(0, .ref (ad 4)), (1, .int x1)] := hl
  unfold fX2_loadAddress at hs
  refine lv_aload_n hx hb dX2_loadAddress_0 rfl (lv_at hl 0 rfl) ?_
  refine lv_sipush (v := 2020) hx hb dX2_loadAddress_1 (by decide) ?_
  refine lv_iload_n hx hb dX2_loadAddress_4 rfl (lv_at hl 1 rfl) ?_
  obtain ⟨r1, S1, h1, hs⟩ := bd_e hs
  refine kX2_operand C tM_X2_95 ⟨Nat.le_of_ble_eq_true rfl, Nat.le_of_ble_eq_true rfl⟩ ⟨Nat.le_of_ble_eq_true rfl, Nat.le_of_ble_eq_true rfl⟩ hK hP hS hl.1 (rest := [.int 2020, .ref (ad 4)]) (Nat.le_of_ble_eq_true rfl) dX2_loadAddress_5 h1 (fun H locs hP hS => ?_)
  obtain ⟨b1, S2, h2, hs⟩ := bd_e hs
  refine kX2_misfits C tM_X2_146 ⟨Nat.le_of_ble_eq_true rfl, Nat.le_of_ble_eq_true rfl⟩ ⟨Nat.le_of_ble_eq_true rfl, Nat.le_of_ble_eq_true rfl⟩ hK hP hS hl.1 (rest := []) (Nat.le_of_ble_eq_true rfl) dX2_loadAddress_8 h2 (fun H locs hP hS => ?_)
  refine lv_if_ne (tgt := 43) hx hb dX2_loadAddress_11 (by decide) (fun c1 => ?_) (fun c1 => ?_)
  · have hs := if_f c1 hs
    exact u_vret hx hb hr hlocks hP hS hs dX2_loadAddress_43
  · have hs := if_t c1 hs
    refine lv_aload_n hx hb dX2_loadAddress_14 rfl (lv_at hl 0 rfl) ?_
    refine gB_X2_registers hx hb hT hown hK hP (hT _ tF_X2_9) dX2_loadAddress_15 ?_
    refine lv_bipush (v := 8) hx hb dX2_loadAddress_18 (by decide) ?_
    refine lv_iload_n hx hb dX2_loadAddress_20 rfl (lv_at hl 1 rfl) ?_
    obtain ⟨r2, S3, h3, hs⟩ := bd_e hs
    refine kX2_upper C tM_X2_101 ⟨Nat.le_of_ble_eq_true rfl, Nat.le_of_ble_eq_true rfl⟩ ⟨Nat.le_of_ble_eq_true rfl, Nat.le_of_ble_eq_true rfl⟩ hK hP hS hl.1 (rest := [.int 8, .ref (ad 2)]) (Nat.le_of_ble_eq_true rfl) dX2_loadAddress_21 h3 (fun H locs hP hS => ?_)
    refine lv_iadd hx hb dX2_loadAddress_24 ?_
    refine lv_aload_n hx hb dX2_loadAddress_25 rfl (lv_at hl 0 rfl) ?_
    refine gB_X2_access hx hb hT hown hK hP (hT _ tF_X2_15) dX2_loadAddress_26 ?_
    refine gS_LONG hx hb hown hK hS (hT _ tF_X2_46) dX2_loadAddress_29 ?_
    refine lv_iload_n hx hb dX2_loadAddress_32 rfl (lv_at hl 1 rfl) ?_
    obtain ⟨r3, S4, h4, hs⟩ := bd_e hs
    refine kX2_operand C tM_X2_95 ⟨Nat.le_of_ble_eq_true rfl, Nat.le_of_ble_eq_true rfl⟩ ⟨Nat.le_of_ble_eq_true rfl, Nat.le_of_ble_eq_true rfl⟩ hK hP hS hl.1 (rest := [.ref (en 2), .ref (ad 3), .int (8 + r2), .ref (ad 2)]) (Nat.le_of_ble_eq_true rfl) dX2_loadAddress_33 h4 (fun H locs hP hS => ?_)
    obtain ⟨w1, S5, h5, hs⟩ := bd_e hs
    refine kX0_locate C tM_X2_150 ⟨Nat.le_of_ble_eq_true rfl, Nat.le_of_ble_eq_true rfl⟩ ⟨Nat.le_of_ble_eq_true rfl, Nat.le_of_ble_eq_true rfl⟩ hK hP hS hl.1 (rest := [.int (8 + r2), .ref (ad 2)]) (Nat.le_of_ble_eq_true rfl) dX2_loadAddress_36 h5 (fun H locs hP hS => ?_)
    refine lv_l2i (v := (w1.toInt32)) hx hb dX2_loadAddress_39 rfl ?_
    obtain ⟨S6, h6, hs⟩ := bv_e hs
    refine kX4_set C tM_X2_143 ⟨Nat.le_of_ble_eq_true rfl, Nat.le_of_ble_eq_true rfl⟩ ⟨Nat.le_of_ble_eq_true rfl, Nat.le_of_ble_eq_true rfl⟩ hK hP hS hl.1 (rest := []) (Nat.le_of_ble_eq_true rfl) dX2_loadAddress_40 h6 (fun H locs hP hS => ?_)
    exact u_vret hx hb hr hlocks hP hS hs dX2_loadAddress_43
theorem kX2_loadAddress {p : Program} {l : Launch} {e : Env} {R : Room} {s : State} {m : MethodId} {args : Array Value} {below : List Frame} {meth : Method} {c : Code} {H : Heap} {locs : List Loc} {cells slots : Nat} {Q : State → Prop} {cc : ByteArray} {pc nL : Nat} {ls : Array Slot} {rest : List Value} {D : va_G} {ad : Nat → Nat} {cI cB : ClassId} {en : Nat → Nat} {S : St} {own : String} {index : Nat} {x1 : Int32} {So : St} (C : CallFix p m c cc nL s args wG own) (hlk : Cond.methodLink own index yX2_loadAddress ∈ wG) (hR : rmX2_loadAddress.frames + 1 ≤ R.frames ∧ 8 + (2 + 11) + rmX2_loadAddress.locals ≤ R.locals) (hc : cells ≤ R.cells ∧ slots ≤ R.slots) (hK : KB D ad cI cB en s) (hP : va_P D vwCl (wB ad cI cB S) H) (hS : va_S (AX 10 ad s.heap.size) s.heap H locs) (hls : ls.size = nL) (hrest : (rest.map fun v => v.category).sum ≤ 8) (hd : decode cc pc = .ok (.invokevirtual index, 3)) (hs : fX2_loadAddress x1 S = some So) (k : ∀ (H : Heap) (locs : List Loc), va_P D vwCl (wB ad cI cB So) H → va_S (AX 10 ad s.heap.size) s.heap H locs → W p l e R s m args below meth c H locs cells slots Q (F0 m (pc + 3) ls (rest))) : W p l e R s m args below meth c H locs cells slots Q (F0 m pc ls (.int x1 :: .ref (ad 4) :: rest)) :=
  u_callV (n := 1) (mX2_loadAddress l D ad cI cB en S x1 So hs) C uK_B (wg_V hlk tI_X2_loadAddress tS_X2_loadAddress tN_X2 tK_X2_loadAddress) rfl rfl rfl (by decide +kernel) hR rfl (va_recv hK.1 hP (ci := 2) (q0 := 4) rfl rfl) hK hP hS hls hrest hd hc rfl k
def fX2_moveFromStatus (x1 : Int32) (S : St) : Option St :=
    (bd (fX2_operand x1 S) fun r1 S1 => (bd (fX2_misfits 509 r1 S1) fun b1 S2 => (if (zI b1) = 0 then (bd (fX2_operand x1 S2) fun r2 S3 => (bd (fX0_locate 1 r2 S3) fun w1 S4 => (bv (fX0_store 1 w1 (S4.1 3) S4) fun S5 => (some S5))))
    else (some S2))))
abbrev rmX2_moveFromStatus : Room := { frames := 3, cells := 0, slots := 0, locals := 73 }
set_option maxRecDepth 100000 in
set_option maxHeartbeats 4000000 in
theorem mX2_moveFromStatus (l : Launch) (D : va_G) (ad : Nat → Nat) (cI cB : ClassId) (en : Nat → Nat) (S : St) (x1 : Int32) (So : St) (hs : fX2_moveFromStatus x1 S = some So) : uM l yX2_moveFromStatus (wg yX2_moveFromStatus cX2_moveFromStatus 2 none) rmX2_moveFromStatus (KB D ad cI cB en) D (wB ad cI cB) (AX 10 ad) [.ref (ad 4), .int x1] S (none, So) := by
  refine uM_start (by decide) rfl ?_
  intro p e s m below meth c hx hb hr hlocks hml hown hts hK hP
  have hT : ∀ w ∈ wG, w.before _ s = true := fun w h => hts w (List.mem_cons_of_mem _ h)
  have hS : va_S (AX 10 ad s.heap.size) s.heap s.heap [] := va_S.rf
  have hown : s.vm.findClass RX2 = some m.cls := hown
  have C : CallFix p m c cX2_moveFromStatus 2 s _ wG RX2 := ⟨hx, hb, hml, hown, hT⟩
  have hl := lv_entry ([.ref (ad 4), .int x1]) (n := 2) (Nat.le_of_ble_eq_true rfl)
  rw [lg_entry_eq]
  generalize (lg_sl ([.ref (ad 4), .int x1]) ++ List.replicate (2 - (lg_sl ([.ref (ad 4), .int x1])).length) Slot.unset).toArray = ls at hl ⊢
  have hl : lv_has ls 2 [(0, .ref (ad 4)), (1, .int x1)] := hl
  unfold fX2_moveFromStatus at hs
  refine lv_aload_n hx hb dX2_moveFromStatus_0 rfl (lv_at hl 0 rfl) ?_
  refine lv_sipush (v := 509) hx hb dX2_moveFromStatus_1 (by decide) ?_
  refine lv_iload_n hx hb dX2_moveFromStatus_4 rfl (lv_at hl 1 rfl) ?_
  obtain ⟨r1, S1, h1, hs⟩ := bd_e hs
  refine kX2_operand C tM_X2_95 ⟨Nat.le_of_ble_eq_true rfl, Nat.le_of_ble_eq_true rfl⟩ ⟨Nat.le_of_ble_eq_true rfl, Nat.le_of_ble_eq_true rfl⟩ hK hP hS hl.1 (rest := [.int 509, .ref (ad 4)]) (Nat.le_of_ble_eq_true rfl) dX2_moveFromStatus_5 h1 (fun H locs hP hS => ?_)
  obtain ⟨b1, S2, h2, hs⟩ := bd_e hs
  refine kX2_misfits C tM_X2_146 ⟨Nat.le_of_ble_eq_true rfl, Nat.le_of_ble_eq_true rfl⟩ ⟨Nat.le_of_ble_eq_true rfl, Nat.le_of_ble_eq_true rfl⟩ hK hP hS hl.1 (rest := []) (Nat.le_of_ble_eq_true rfl) dX2_moveFromStatus_8 h2 (fun H locs hP hS => ?_)
  refine lv_if_ne (tgt := 45) hx hb dX2_moveFromStatus_11 (by decide) (fun c1 => ?_) (fun c1 => ?_)
  · have hs := if_f c1 hs
    exact u_vret hx hb hr hlocks hP hS hs dX2_moveFromStatus_45
  · have hs := if_t c1 hs
    refine lv_aload_n hx hb dX2_moveFromStatus_14 rfl (lv_at hl 0 rfl) ?_
    refine gB_X2_access hx hb hT hown hK hP (hT _ tF_X2_15) dX2_moveFromStatus_15 ?_
    refine gS_WORD hx hb hown hK hS (hT _ tF_X2_49) dX2_moveFromStatus_18 ?_
    refine lv_aload_n hx hb dX2_moveFromStatus_21 rfl (lv_at hl 0 rfl) ?_
    refine gB_X2_access hx hb hT hown hK hP (hT _ tF_X2_15) dX2_moveFromStatus_22 ?_
    refine gS_WORD hx hb hown hK hS (hT _ tF_X2_49) dX2_moveFromStatus_25 ?_
    refine lv_iload_n hx hb dX2_moveFromStatus_28 rfl (lv_at hl 1 rfl) ?_
    obtain ⟨r2, S3, h3, hs⟩ := bd_e hs
    refine kX2_operand C tM_X2_95 ⟨Nat.le_of_ble_eq_true rfl, Nat.le_of_ble_eq_true rfl⟩ ⟨Nat.le_of_ble_eq_true rfl, Nat.le_of_ble_eq_true rfl⟩ hK hP hS hl.1 (rest := [.ref (en 1), .ref (ad 3), .ref (en 1), .ref (ad 3)]) (Nat.le_of_ble_eq_true rfl) dX2_moveFromStatus_29 h3 (fun H locs hP hS => ?_)
    obtain ⟨w1, S4, h4, hs⟩ := bd_e hs
    refine kX0_locate C tM_X2_150 ⟨Nat.le_of_ble_eq_true rfl, Nat.le_of_ble_eq_true rfl⟩ ⟨Nat.le_of_ble_eq_true rfl, Nat.le_of_ble_eq_true rfl⟩ hK hP hS hl.1 (rest := [.ref (en 1), .ref (ad 3)]) (Nat.le_of_ble_eq_true rfl) dX2_moveFromStatus_32 h4 (fun H locs hP hS => ?_)
    refine lv_aload_n hx hb dX2_moveFromStatus_35 rfl (lv_at hl 0 rfl) ?_
    refine gB_X2_registers hx hb hT hown hK hP (hT _ tF_X2_9) dX2_moveFromStatus_36 ?_
    refine gB_X4_sr hx hb hT hown hK hP (hT _ tF_X2_169) dX2_moveFromStatus_39 ?_
    obtain ⟨S5, h5, hs⟩ := bv_e hs
    refine kX0_store C tM_X2_161 ⟨Nat.le_of_ble_eq_true rfl, Nat.le_of_ble_eq_true rfl⟩ ⟨Nat.le_of_ble_eq_true rfl, Nat.le_of_ble_eq_true rfl⟩ hK hP hS hl.1 (rest := []) (Nat.le_of_ble_eq_true rfl) dX2_moveFromStatus_42 h5 (fun H locs hP hS => ?_)
    exact u_vret hx hb hr hlocks hP hS hs dX2_moveFromStatus_45
theorem kX2_moveFromStatus {p : Program} {l : Launch} {e : Env} {R : Room} {s : State} {m : MethodId} {args : Array Value} {below : List Frame} {meth : Method} {c : Code} {H : Heap} {locs : List Loc} {cells slots : Nat} {Q : State → Prop} {cc : ByteArray} {pc nL : Nat} {ls : Array Slot} {rest : List Value} {D : va_G} {ad : Nat → Nat} {cI cB : ClassId} {en : Nat → Nat} {S : St} {own : String} {index : Nat} {x1 : Int32} {So : St} (C : CallFix p m c cc nL s args wG own) (hlk : Cond.methodLink own index yX2_moveFromStatus ∈ wG) (hR : rmX2_moveFromStatus.frames + 1 ≤ R.frames ∧ 8 + (2 + 11) + rmX2_moveFromStatus.locals ≤ R.locals) (hc : cells ≤ R.cells ∧ slots ≤ R.slots) (hK : KB D ad cI cB en s) (hP : va_P D vwCl (wB ad cI cB S) H) (hS : va_S (AX 10 ad s.heap.size) s.heap H locs) (hls : ls.size = nL) (hrest : (rest.map fun v => v.category).sum ≤ 8) (hd : decode cc pc = .ok (.invokevirtual index, 3)) (hs : fX2_moveFromStatus x1 S = some So) (k : ∀ (H : Heap) (locs : List Loc), va_P D vwCl (wB ad cI cB So) H → va_S (AX 10 ad s.heap.size) s.heap H locs → W p l e R s m args below meth c H locs cells slots Q (F0 m (pc + 3) ls (rest))) : W p l e R s m args below meth c H locs cells slots Q (F0 m pc ls (.int x1 :: .ref (ad 4) :: rest)) :=
  u_callV (n := 1) (mX2_moveFromStatus l D ad cI cB en S x1 So hs) C uK_B (wg_V hlk tI_X2_moveFromStatus tS_X2_moveFromStatus tN_X2 tK_X2_moveFromStatus) rfl rfl rfl (by decide +kernel) hR rfl (va_recv hK.1 hP (ci := 2) (q0 := 4) rfl rfl) hK hP hS hls hrest hd hc rfl k
def fX2_moveToStatus (x1 : Int32) (S : St) : Option St :=
    (jn (fun (b1 : Bool) => (bd (fX2_operand x1 S) fun r1 S1 => (bd (fX2_misfits 4093 r1 S1) fun b2 S2 => (if (zI b2) = 0 then (if (zI b1) = 0 then (bd (fX2_operand x1 S2) fun r2 S3 => (bd (fX0_locate 1 r2 S3) fun w1 S4 => (bd (fX0_load 1 w1 S4) fun r3 S5 => (if (zI b1) = 0 then (bv (fX4_setFlags r3 S5) fun S6 => (some S6))
    else (bv (fX4_setStatus r3 S5) fun S7 => (some S7))))))
    else (bd (fX2_permitted S2) fun b3 S8 => (if (zI b3) = 0 then (some S8)
    else (bd (fX2_operand x1 S8) fun r4 S9 => (bd (fX0_locate 1 r4 S9) fun w2 S10 => (bd (fX0_load 1 w2 S10) fun r5 S11 => (if (zI b1) = 0 then (bv (fX4_setFlags r5 S11) fun S12 => (some S12))
    else (bv (fX4_setStatus r5 S11) fun S13 => (some S13)))))))))
    else (some S2))))) fun K1 =>
    (if (x1 &&& 512) = 0 then (K1 false)
    else (K1 true)))
abbrev rmX2_moveToStatus : Room := { frames := 3, cells := 0, slots := 0, locals := 70 }
set_option maxRecDepth 100000 in
set_option maxHeartbeats 4000000 in
theorem mX2_moveToStatus (l : Launch) (D : va_G) (ad : Nat → Nat) (cI cB : ClassId) (en : Nat → Nat) (S : St) (x1 : Int32) (So : St) (hs : fX2_moveToStatus x1 S = some So) : uM l yX2_moveToStatus (wg yX2_moveToStatus cX2_moveToStatus 4 none) rmX2_moveToStatus (KB D ad cI cB en) D (wB ad cI cB) (AX 10 ad) [.ref (ad 4), .int x1] S (none, So) := by
  refine uM_start (by decide) rfl ?_
  intro p e s m below meth c hx hb hr hlocks hml hown hts hK hP
  have hT : ∀ w ∈ wG, w.before _ s = true := fun w h => hts w (List.mem_cons_of_mem _ h)
  have hS : va_S (AX 10 ad s.heap.size) s.heap s.heap [] := va_S.rf
  have hown : s.vm.findClass RX2 = some m.cls := hown
  have C : CallFix p m c cX2_moveToStatus 4 s _ wG RX2 := ⟨hx, hb, hml, hown, hT⟩
  have hl := lv_entry ([.ref (ad 4), .int x1]) (n := 4) (Nat.le_of_ble_eq_true rfl)
  rw [lg_entry_eq]
  generalize (lg_sl ([.ref (ad 4), .int x1]) ++ List.replicate (4 - (lg_sl ([.ref (ad 4), .int x1])).length) Slot.unset).toArray = ls at hl ⊢
  have hl : lv_has ls 4 [(0, .ref (ad 4)), (1, .int x1)] := hl
  unfold fX2_moveToStatus at hs
  refine lv_iload_n hx hb dX2_moveToStatus_0 rfl (lv_at hl 1 rfl) ?_
  refine lv_sipush (v := 512) hx hb dX2_moveToStatus_1 (by decide) ?_
  refine lv_iand hx hb dX2_moveToStatus_4 ?_
  refine jn_e hs (fun K1 => ∀ (b1 : Bool) (H : Heap) (locs : List Loc) (ls : Array Slot), lv_has ls 4 [(0, .ref (ad 4)), (1, .int x1)] → va_P D vwCl (wB ad cI cB S) H → va_S (AX 10 ad s.heap.size) s.heap H locs → K1 b1 = some So → W p l e rmX2_moveToStatus s m ([.ref (ad 4), .int x1] : List Value).toArray below meth c H locs 0 0 (MQ below (uQ D (wB ad cI cB) (none, So) (AX 10 ad s.heap.size)) ([.ref (ad 4), .int x1] : List Value).toArray s 0 0 (AX 10 ad s.heap.size)) (F0 m 13 ls [.int (zI b1)])) ?_ (fun K1 J1 hs => ?_)
  · intro b1 H locs ls hl hP hS hs
    refine lv_istore_n (lv' := [(2, .int (zI b1)), (0, .ref (ad 4)), (1, .int x1)]) hx hb dX2_moveToStatus_13 rfl hl (by decide) rfl (fun ls hl => ?_)
    refine lv_aload_n hx hb dX2_moveToStatus_14 rfl (lv_at hl 1 rfl) ?_
    refine lv_sipush (v := 4093) hx hb dX2_moveToStatus_15 (by decide) ?_
    refine lv_iload_n hx hb dX2_moveToStatus_18 rfl (lv_at hl 2 rfl) ?_
    obtain ⟨r1, S1, h1, hs⟩ := bd_e hs
    refine kX2_operand C tM_X2_95 ⟨Nat.le_of_ble_eq_true rfl, Nat.le_of_ble_eq_true rfl⟩ ⟨Nat.le_of_ble_eq_true rfl, Nat.le_of_ble_eq_true rfl⟩ hK hP hS hl.1 (rest := [.int 4093, .ref (ad 4)]) (Nat.le_of_ble_eq_true rfl) dX2_moveToStatus_19 h1 (fun H locs hP hS => ?_)
    obtain ⟨b2, S2, h2, hs⟩ := bd_e hs
    refine kX2_misfits C tM_X2_146 ⟨Nat.le_of_ble_eq_true rfl, Nat.le_of_ble_eq_true rfl⟩ ⟨Nat.le_of_ble_eq_true rfl, Nat.le_of_ble_eq_true rfl⟩ hK hP hS hl.1 (rest := []) (Nat.le_of_ble_eq_true rfl) dX2_moveToStatus_22 h2 (fun H locs hP hS => ?_)
    refine lv_if_ne (tgt := 39) hx hb dX2_moveToStatus_25 (by decide) (fun c1 => ?_) (fun c1 => ?_)
    · have hs := if_f c1 hs
      exact u_vret hx hb hr hlocks hP hS hs dX2_moveToStatus_39
    · have hs := if_t c1 hs
      refine lv_iload_n hx hb dX2_moveToStatus_28 rfl (lv_at hl 0 rfl) ?_
      refine lv_if_eq (tgt := 40) hx hb dX2_moveToStatus_29 (by decide) (fun c2 => ?_) (fun c2 => ?_)
      · have hs := if_t c2 hs
        refine lv_aload_n hx hb dX2_moveToStatus_40 rfl (lv_at hl 1 rfl) ?_
        refine gB_X2_access hx hb hT hown hK hP (hT _ tF_X2_15) dX2_moveToStatus_41 ?_
        refine gS_WORD hx hb hown hK hS (hT _ tF_X2_49) dX2_moveToStatus_44 ?_
        refine lv_aload_n hx hb dX2_moveToStatus_47 rfl (lv_at hl 1 rfl) ?_
        refine gB_X2_access hx hb hT hown hK hP (hT _ tF_X2_15) dX2_moveToStatus_48 ?_
        refine gS_WORD hx hb hown hK hS (hT _ tF_X2_49) dX2_moveToStatus_51 ?_
        refine lv_iload_n hx hb dX2_moveToStatus_54 rfl (lv_at hl 2 rfl) ?_
        obtain ⟨r2, S3, h3, hs⟩ := bd_e hs
        refine kX2_operand C tM_X2_95 ⟨Nat.le_of_ble_eq_true rfl, Nat.le_of_ble_eq_true rfl⟩ ⟨Nat.le_of_ble_eq_true rfl, Nat.le_of_ble_eq_true rfl⟩ hK hP hS hl.1 (rest := [.ref (en 1), .ref (ad 3), .ref (en 1), .ref (ad 3)]) (Nat.le_of_ble_eq_true rfl) dX2_moveToStatus_55 h3 (fun H locs hP hS => ?_)
        obtain ⟨w1, S4, h4, hs⟩ := bd_e hs
        refine kX0_locate C tM_X2_150 ⟨Nat.le_of_ble_eq_true rfl, Nat.le_of_ble_eq_true rfl⟩ ⟨Nat.le_of_ble_eq_true rfl, Nat.le_of_ble_eq_true rfl⟩ hK hP hS hl.1 (rest := [.ref (en 1), .ref (ad 3)]) (Nat.le_of_ble_eq_true rfl) dX2_moveToStatus_58 h4 (fun H locs hP hS => ?_)
        obtain ⟨r3, S5, h5, hs⟩ := bd_e hs
        refine kX0_load C tM_X2_154 ⟨Nat.le_of_ble_eq_true rfl, Nat.le_of_ble_eq_true rfl⟩ ⟨Nat.le_of_ble_eq_true rfl, Nat.le_of_ble_eq_true rfl⟩ hK hP hS hl.1 (rest := []) (Nat.le_of_ble_eq_true rfl) dX2_moveToStatus_61 h5 (fun H locs hP hS => ?_)
        refine lv_istore_n (lv' := [(3, .int r3), (2, .int (zI b1)), (0, .ref (ad 4)), (1, .int x1)]) hx hb dX2_moveToStatus_64 rfl hl (by decide) rfl (fun ls hl => ?_)
        refine lv_iload_n hx hb dX2_moveToStatus_65 rfl (lv_at hl 1 rfl) ?_
        refine lv_if_eq (tgt := 80) hx hb dX2_moveToStatus_66 (by decide) (fun c3 => ?_) (fun c3 => ?_)
        · have hs := if_t c3 hs
          refine lv_aload_n hx hb dX2_moveToStatus_80 rfl (lv_at hl 2 rfl) ?_
          refine gB_X2_registers hx hb hT hown hK hP (hT _ tF_X2_9) dX2_moveToStatus_81 ?_
          refine lv_iload_n hx hb dX2_moveToStatus_84 rfl (lv_at hl 0 rfl) ?_
          obtain ⟨S6, h6, hs⟩ := bv_e hs
          refine kX4_setFlags C tM_X2_175 ⟨Nat.le_of_ble_eq_true rfl, Nat.le_of_ble_eq_true rfl⟩ ⟨Nat.le_of_ble_eq_true rfl, Nat.le_of_ble_eq_true rfl⟩ hK hP hS hl.1 (rest := []) (Nat.le_of_ble_eq_true rfl) dX2_moveToStatus_85 h6 (fun H locs hP hS => ?_)
          exact u_vret hx hb hr hlocks hP hS hs dX2_moveToStatus_88
        · have hs := if_f c3 hs
          refine lv_aload_n hx hb dX2_moveToStatus_69 rfl (lv_at hl 2 rfl) ?_
          refine gB_X2_registers hx hb hT hown hK hP (hT _ tF_X2_9) dX2_moveToStatus_70 ?_
          refine lv_iload_n hx hb dX2_moveToStatus_73 rfl (lv_at hl 0 rfl) ?_
          obtain ⟨S7, h7, hs⟩ := bv_e hs
          refine kX4_setStatus C tM_X2_172 ⟨Nat.le_of_ble_eq_true rfl, Nat.le_of_ble_eq_true rfl⟩ ⟨Nat.le_of_ble_eq_true rfl, Nat.le_of_ble_eq_true rfl⟩ hK hP hS hl.1 (rest := []) (Nat.le_of_ble_eq_true rfl) dX2_moveToStatus_74 h7 (fun H locs hP hS => ?_)
          refine lv_goto (tgt := 88) hx hb dX2_moveToStatus_77 (by decide) ?_
          exact u_vret hx hb hr hlocks hP hS hs dX2_moveToStatus_88
      · have hs := if_f c2 hs
        refine lv_aload_n hx hb dX2_moveToStatus_32 rfl (lv_at hl 1 rfl) ?_
        obtain ⟨b3, S8, h8, hs⟩ := bd_e hs
        refine kX2_permitted C tM_X2_165 ⟨Nat.le_of_ble_eq_true rfl, Nat.le_of_ble_eq_true rfl⟩ ⟨Nat.le_of_ble_eq_true rfl, Nat.le_of_ble_eq_true rfl⟩ hK hP hS hl.1 (rest := []) (Nat.le_of_ble_eq_true rfl) dX2_moveToStatus_33 h8 (fun H locs hP hS => ?_)
        refine lv_if_ne (tgt := 40) hx hb dX2_moveToStatus_36 (by decide) (fun c4 => ?_) (fun c4 => ?_)
        · have hs := if_f c4 hs
          refine lv_aload_n hx hb dX2_moveToStatus_40 rfl (lv_at hl 1 rfl) ?_
          refine gB_X2_access hx hb hT hown hK hP (hT _ tF_X2_15) dX2_moveToStatus_41 ?_
          refine gS_WORD hx hb hown hK hS (hT _ tF_X2_49) dX2_moveToStatus_44 ?_
          refine lv_aload_n hx hb dX2_moveToStatus_47 rfl (lv_at hl 1 rfl) ?_
          refine gB_X2_access hx hb hT hown hK hP (hT _ tF_X2_15) dX2_moveToStatus_48 ?_
          refine gS_WORD hx hb hown hK hS (hT _ tF_X2_49) dX2_moveToStatus_51 ?_
          refine lv_iload_n hx hb dX2_moveToStatus_54 rfl (lv_at hl 2 rfl) ?_
          obtain ⟨r4, S9, h9, hs⟩ := bd_e hs
          refine kX2_operand C tM_X2_95 ⟨Nat.le_of_ble_eq_true rfl, Nat.le_of_ble_eq_true rfl⟩ ⟨Nat.le_of_ble_eq_true rfl, Nat.le_of_ble_eq_true rfl⟩ hK hP hS hl.1 (rest := [.ref (en 1), .ref (ad 3), .ref (en 1), .ref (ad 3)]) (Nat.le_of_ble_eq_true rfl) dX2_moveToStatus_55 h9 (fun H locs hP hS => ?_)
          obtain ⟨w2, S10, h10, hs⟩ := bd_e hs
          refine kX0_locate C tM_X2_150 ⟨Nat.le_of_ble_eq_true rfl, Nat.le_of_ble_eq_true rfl⟩ ⟨Nat.le_of_ble_eq_true rfl, Nat.le_of_ble_eq_true rfl⟩ hK hP hS hl.1 (rest := [.ref (en 1), .ref (ad 3)]) (Nat.le_of_ble_eq_true rfl) dX2_moveToStatus_58 h10 (fun H locs hP hS => ?_)
          obtain ⟨r5, S11, h11, hs⟩ := bd_e hs
          refine kX0_load C tM_X2_154 ⟨Nat.le_of_ble_eq_true rfl, Nat.le_of_ble_eq_true rfl⟩ ⟨Nat.le_of_ble_eq_true rfl, Nat.le_of_ble_eq_true rfl⟩ hK hP hS hl.1 (rest := []) (Nat.le_of_ble_eq_true rfl) dX2_moveToStatus_61 h11 (fun H locs hP hS => ?_)
          refine lv_istore_n (lv' := [(3, .int r5), (2, .int (zI b1)), (0, .ref (ad 4)), (1, .int x1)]) hx hb dX2_moveToStatus_64 rfl hl (by decide) rfl (fun ls hl => ?_)
          refine lv_iload_n hx hb dX2_moveToStatus_65 rfl (lv_at hl 1 rfl) ?_
          refine lv_if_eq (tgt := 80) hx hb dX2_moveToStatus_66 (by decide) (fun c5 => ?_) (fun c5 => ?_)
          · have hs := if_t c5 hs
            refine lv_aload_n hx hb dX2_moveToStatus_80 rfl (lv_at hl 2 rfl) ?_
            refine gB_X2_registers hx hb hT hown hK hP (hT _ tF_X2_9) dX2_moveToStatus_81 ?_
            refine lv_iload_n hx hb dX2_moveToStatus_84 rfl (lv_at hl 0 rfl) ?_
            obtain ⟨S12, h12, hs⟩ := bv_e hs
            refine kX4_setFlags C tM_X2_175 ⟨Nat.le_of_ble_eq_true rfl, Nat.le_of_ble_eq_true rfl⟩ ⟨Nat.le_of_ble_eq_true rfl, Nat.le_of_ble_eq_true rfl⟩ hK hP hS hl.1 (rest := []) (Nat.le_of_ble_eq_true rfl) dX2_moveToStatus_85 h12 (fun H locs hP hS => ?_)
            exact u_vret hx hb hr hlocks hP hS hs dX2_moveToStatus_88
          · have hs := if_f c5 hs
            refine lv_aload_n hx hb dX2_moveToStatus_69 rfl (lv_at hl 2 rfl) ?_
            refine gB_X2_registers hx hb hT hown hK hP (hT _ tF_X2_9) dX2_moveToStatus_70 ?_
            refine lv_iload_n hx hb dX2_moveToStatus_73 rfl (lv_at hl 0 rfl) ?_
            obtain ⟨S13, h13, hs⟩ := bv_e hs
            refine kX4_setStatus C tM_X2_172 ⟨Nat.le_of_ble_eq_true rfl, Nat.le_of_ble_eq_true rfl⟩ ⟨Nat.le_of_ble_eq_true rfl, Nat.le_of_ble_eq_true rfl⟩ hK hP hS hl.1 (rest := []) (Nat.le_of_ble_eq_true rfl) dX2_moveToStatus_74 h13 (fun H locs hP hS => ?_)
            refine lv_goto (tgt := 88) hx hb dX2_moveToStatus_77 (by decide) ?_
            exact u_vret hx hb hr hlocks hP hS hs dX2_moveToStatus_88
        · have hs := if_t c4 hs
          exact u_vret hx hb hr hlocks hP hS hs dX2_moveToStatus_39
  ·
    refine lv_if_eq (tgt := 12) hx hb dX2_moveToStatus_5 (by decide) (fun c6 => ?_) (fun c6 => ?_)
    · have hs := if_t c6 hs
      refine lv_iconst (v := 0) hx hb dX2_moveToStatus_12 (by decide) ?_
      exact J1 false _ _ _ (lv_sub hl [0, 1] rfl) hP hS hs
    · have hs := if_f c6 hs
      refine lv_iconst (v := 1) hx hb dX2_moveToStatus_8 (by decide) ?_
      refine lv_goto (tgt := 13) hx hb dX2_moveToStatus_9 (by decide) ?_
      exact J1 true _ _ _ (lv_sub hl [0, 1] rfl) hP hS hs
theorem kX2_moveToStatus {p : Program} {l : Launch} {e : Env} {R : Room} {s : State} {m : MethodId} {args : Array Value} {below : List Frame} {meth : Method} {c : Code} {H : Heap} {locs : List Loc} {cells slots : Nat} {Q : State → Prop} {cc : ByteArray} {pc nL : Nat} {ls : Array Slot} {rest : List Value} {D : va_G} {ad : Nat → Nat} {cI cB : ClassId} {en : Nat → Nat} {S : St} {own : String} {index : Nat} {x1 : Int32} {So : St} (C : CallFix p m c cc nL s args wG own) (hlk : Cond.methodLink own index yX2_moveToStatus ∈ wG) (hR : rmX2_moveToStatus.frames + 1 ≤ R.frames ∧ 8 + (4 + 11) + rmX2_moveToStatus.locals ≤ R.locals) (hc : cells ≤ R.cells ∧ slots ≤ R.slots) (hK : KB D ad cI cB en s) (hP : va_P D vwCl (wB ad cI cB S) H) (hS : va_S (AX 10 ad s.heap.size) s.heap H locs) (hls : ls.size = nL) (hrest : (rest.map fun v => v.category).sum ≤ 8) (hd : decode cc pc = .ok (.invokevirtual index, 3)) (hs : fX2_moveToStatus x1 S = some So) (k : ∀ (H : Heap) (locs : List Loc), va_P D vwCl (wB ad cI cB So) H → va_S (AX 10 ad s.heap.size) s.heap H locs → W p l e R s m args below meth c H locs cells slots Q (F0 m (pc + 3) ls (rest))) : W p l e R s m args below meth c H locs cells slots Q (F0 m pc ls (.int x1 :: .ref (ad 4) :: rest)) :=
  u_callV (n := 1) (mX2_moveToStatus l D ad cI cB en S x1 So hs) C uK_B (wg_V hlk tI_X2_moveToStatus tS_X2_moveToStatus tN_X2 tK_X2_moveToStatus) rfl rfl rfl (by decide +kernel) hR rfl (va_recv hK.1 hP (ci := 2) (q0 := 4) rfl rfl) hK hP hS hls hrest hd hc rfl k
def fX2_negateDecimal (x1 : Int32) (S : St) : Option St :=
    (bd (fX2_operand x1 S) fun r1 S1 => (bd (fX2_misfits 509 r1 S1) fun b1 S2 => (if (zI b1) = 0 then (bd (fX2_operand x1 S2) fun r2 S3 => (bd (fX0_locate 0 r2 S3) fun w1 S4 => (bd (fX0_load 0 w1 S4) fun r3 S5 => (bd (fX1_decimalMinus 0 r3 S5) fun r4 S6 => (bv (fX0_store 0 w1 r4 S6) fun S7 => (some S7))))))
    else (some S2))))
abbrev rmX2_negateDecimal : Room := { frames := 3, cells := 0, slots := 0, locals := 73 }
set_option maxRecDepth 100000 in
set_option maxHeartbeats 4000000 in
theorem mX2_negateDecimal (l : Launch) (D : va_G) (ad : Nat → Nat) (cI cB : ClassId) (en : Nat → Nat) (S : St) (x1 : Int32) (So : St) (hs : fX2_negateDecimal x1 S = some So) : uM l yX2_negateDecimal (wg yX2_negateDecimal cX2_negateDecimal 4 none) rmX2_negateDecimal (KB D ad cI cB en) D (wB ad cI cB) (AX 10 ad) [.ref (ad 4), .int x1] S (none, So) := by
  refine uM_start (by decide) rfl ?_
  intro p e s m below meth c hx hb hr hlocks hml hown hts hK hP
  have hT : ∀ w ∈ wG, w.before _ s = true := fun w h => hts w (List.mem_cons_of_mem _ h)
  have hS : va_S (AX 10 ad s.heap.size) s.heap s.heap [] := va_S.rf
  have hown : s.vm.findClass RX2 = some m.cls := hown
  have C : CallFix p m c cX2_negateDecimal 4 s _ wG RX2 := ⟨hx, hb, hml, hown, hT⟩
  have hl := lv_entry ([.ref (ad 4), .int x1]) (n := 4) (Nat.le_of_ble_eq_true rfl)
  rw [lg_entry_eq]
  generalize (lg_sl ([.ref (ad 4), .int x1]) ++ List.replicate (4 - (lg_sl ([.ref (ad 4), .int x1])).length) Slot.unset).toArray = ls at hl ⊢
  have hl : lv_has ls 4 [(0, .ref (ad 4)), (1, .int x1)] := hl
  unfold fX2_negateDecimal at hs
  refine lv_aload_n hx hb dX2_negateDecimal_0 rfl (lv_at hl 0 rfl) ?_
  refine lv_sipush (v := 509) hx hb dX2_negateDecimal_1 (by decide) ?_
  refine lv_iload_n hx hb dX2_negateDecimal_4 rfl (lv_at hl 1 rfl) ?_
  obtain ⟨r1, S1, h1, hs⟩ := bd_e hs
  refine kX2_operand C tM_X2_95 ⟨Nat.le_of_ble_eq_true rfl, Nat.le_of_ble_eq_true rfl⟩ ⟨Nat.le_of_ble_eq_true rfl, Nat.le_of_ble_eq_true rfl⟩ hK hP hS hl.1 (rest := [.int 509, .ref (ad 4)]) (Nat.le_of_ble_eq_true rfl) dX2_negateDecimal_5 h1 (fun H locs hP hS => ?_)
  obtain ⟨b1, S2, h2, hs⟩ := bd_e hs
  refine kX2_misfits C tM_X2_146 ⟨Nat.le_of_ble_eq_true rfl, Nat.le_of_ble_eq_true rfl⟩ ⟨Nat.le_of_ble_eq_true rfl, Nat.le_of_ble_eq_true rfl⟩ hK hP hS hl.1 (rest := []) (Nat.le_of_ble_eq_true rfl) dX2_negateDecimal_8 h2 (fun H locs hP hS => ?_)
  refine lv_if_ne (tgt := 59) hx hb dX2_negateDecimal_11 (by decide) (fun c1 => ?_) (fun c1 => ?_)
  · have hs := if_f c1 hs
    exact u_vret hx hb hr hlocks hP hS hs dX2_negateDecimal_59
  · have hs := if_t c1 hs
    refine lv_aload_n hx hb dX2_negateDecimal_14 rfl (lv_at hl 0 rfl) ?_
    refine gB_X2_access hx hb hT hown hK hP (hT _ tF_X2_15) dX2_negateDecimal_15 ?_
    refine gS_BYTE hx hb hown hK hS (hT _ tF_X2_36) dX2_negateDecimal_18 ?_
    refine lv_iload_n hx hb dX2_negateDecimal_21 rfl (lv_at hl 1 rfl) ?_
    obtain ⟨r2, S3, h3, hs⟩ := bd_e hs
    refine kX2_operand C tM_X2_95 ⟨Nat.le_of_ble_eq_true rfl, Nat.le_of_ble_eq_true rfl⟩ ⟨Nat.le_of_ble_eq_true rfl, Nat.le_of_ble_eq_true rfl⟩ hK hP hS hl.1 (rest := [.ref (en 0), .ref (ad 3)]) (Nat.le_of_ble_eq_true rfl) dX2_negateDecimal_22 h3 (fun H locs hP hS => ?_)
    obtain ⟨w1, S4, h4, hs⟩ := bd_e hs
    refine kX0_locate C tM_X2_150 ⟨Nat.le_of_ble_eq_true rfl, Nat.le_of_ble_eq_true rfl⟩ ⟨Nat.le_of_ble_eq_true rfl, Nat.le_of_ble_eq_true rfl⟩ hK hP hS hl.1 (rest := []) (Nat.le_of_ble_eq_true rfl) dX2_negateDecimal_25 h4 (fun H locs hP hS => ?_)
    refine lv_lstore_n (lv' := [(2, .long w1), (0, .ref (ad 4)), (1, .int x1)]) hx hb dX2_negateDecimal_28 rfl hl (by decide) rfl (fun ls hl => ?_)
    refine lv_aload_n hx hb dX2_negateDecimal_29 rfl (lv_at hl 1 rfl) ?_
    refine gB_X2_access hx hb hT hown hK hP (hT _ tF_X2_15) dX2_negateDecimal_30 ?_
    refine gS_BYTE hx hb hown hK hS (hT _ tF_X2_36) dX2_negateDecimal_33 ?_
    refine lv_lload_n hx hb dX2_negateDecimal_36 rfl (lv_at hl 0 rfl) ?_
    refine lv_aload_n hx hb dX2_negateDecimal_37 rfl (lv_at hl 1 rfl) ?_
    refine gB_X2_arithmetic hx hb hT hown hK hP (hT _ tF_X2_24) dX2_negateDecimal_38 ?_
    refine lv_iconst (v := 0) hx hb dX2_negateDecimal_41 (by decide) ?_
    refine lv_aload_n hx hb dX2_negateDecimal_42 rfl (lv_at hl 1 rfl) ?_
    refine gB_X2_access hx hb hT hown hK hP (hT _ tF_X2_15) dX2_negateDecimal_43 ?_
    refine gS_BYTE hx hb hown hK hS (hT _ tF_X2_36) dX2_negateDecimal_46 ?_
    refine lv_lload_n hx hb dX2_negateDecimal_49 rfl (lv_at hl 0 rfl) ?_
    obtain ⟨r3, S5, h5, hs⟩ := bd_e hs
    refine kX0_load C tM_X2_154 ⟨Nat.le_of_ble_eq_true rfl, Nat.le_of_ble_eq_true rfl⟩ ⟨Nat.le_of_ble_eq_true rfl, Nat.le_of_ble_eq_true rfl⟩ hK hP hS hl.1 (rest := [.int 0, .ref (ad 5), .long w1, .ref (en 0), .ref (ad 3)]) (Nat.le_of_ble_eq_true rfl) dX2_negateDecimal_50 h5 (fun H locs hP hS => ?_)
    obtain ⟨r4, S6, h6, hs⟩ := bd_e hs
    refine kX1_decimalMinus C tM_X2_245 ⟨Nat.le_of_ble_eq_true rfl, Nat.le_of_ble_eq_true rfl⟩ ⟨Nat.le_of_ble_eq_true rfl, Nat.le_of_ble_eq_true rfl⟩ hK hP hS hl.1 (rest := [.long w1, .ref (en 0), .ref (ad 3)]) (Nat.le_of_ble_eq_true rfl) dX2_negateDecimal_53 h6 (fun H locs hP hS => ?_)
    obtain ⟨S7, h7, hs⟩ := bv_e hs
    refine kX0_store C tM_X2_161 ⟨Nat.le_of_ble_eq_true rfl, Nat.le_of_ble_eq_true rfl⟩ ⟨Nat.le_of_ble_eq_true rfl, Nat.le_of_ble_eq_true rfl⟩ hK hP hS hl.1 (rest := []) (Nat.le_of_ble_eq_true rfl) dX2_negateDecimal_56 h7 (fun H locs hP hS => ?_)
    exact u_vret hx hb hr hlocks hP hS hs dX2_negateDecimal_59
theorem kX2_negateDecimal {p : Program} {l : Launch} {e : Env} {R : Room} {s : State} {m : MethodId} {args : Array Value} {below : List Frame} {meth : Method} {c : Code} {H : Heap} {locs : List Loc} {cells slots : Nat} {Q : State → Prop} {cc : ByteArray} {pc nL : Nat} {ls : Array Slot} {rest : List Value} {D : va_G} {ad : Nat → Nat} {cI cB : ClassId} {en : Nat → Nat} {S : St} {own : String} {index : Nat} {x1 : Int32} {So : St} (C : CallFix p m c cc nL s args wG own) (hlk : Cond.methodLink own index yX2_negateDecimal ∈ wG) (hR : rmX2_negateDecimal.frames + 1 ≤ R.frames ∧ 8 + (4 + 11) + rmX2_negateDecimal.locals ≤ R.locals) (hc : cells ≤ R.cells ∧ slots ≤ R.slots) (hK : KB D ad cI cB en s) (hP : va_P D vwCl (wB ad cI cB S) H) (hS : va_S (AX 10 ad s.heap.size) s.heap H locs) (hls : ls.size = nL) (hrest : (rest.map fun v => v.category).sum ≤ 8) (hd : decode cc pc = .ok (.invokevirtual index, 3)) (hs : fX2_negateDecimal x1 S = some So) (k : ∀ (H : Heap) (locs : List Loc), va_P D vwCl (wB ad cI cB So) H → va_S (AX 10 ad s.heap.size) s.heap H locs → W p l e R s m args below meth c H locs cells slots Q (F0 m (pc + 3) ls (rest))) : W p l e R s m args below meth c H locs cells slots Q (F0 m pc ls (.int x1 :: .ref (ad 4) :: rest)) :=
  u_callV (n := 1) (mX2_negateDecimal l D ad cI cB en S x1 So hs) C uK_B (wg_V hlk tI_X2_negateDecimal tS_X2_negateDecimal tN_X2 tK_X2_negateDecimal) rfl rfl rfl (by decide +kernel) hR rfl (va_recv hK.1 hP (ci := 2) (q0 := 4) rfl rfl) hK hP hS hls hrest hd hc rfl k
def fX2_swapOrPushAddress (x1 : Int32) (S : St) : Option St :=
    (bd (fX2_lower x1 S) fun r1 S1 => (bd (fX2_operand x1 S1) fun r2 S2 => (if 8 ≤ r2 then (bd (fX2_operand x1 S2) fun r3 S3 => (bd (fX2_misfits 2020 r3 S3) fun b1 S4 => (if (zI b1) = 0 then (bd (fX2_operand x1 S4) fun r4 S5 => (bd (fX0_locate 2 r4 S5) fun w1 S6 => (bv (fX0_push 2 (w1.toInt32) S6) fun S7 => (some S7))))
    else (some S4))))
    else (bd (fX4_get r1 S2) fun r5 S8 => (bd (fX1_logic 2 ((r5 <<< ((16 : Int32) &&& 31)) ||| (ush r5 16)) S8) fun r6 S9 => (bv (fX4_set r1 r6 S9) fun S10 => (some S10)))))))
abbrev rmX2_swapOrPushAddress : Room := { frames := 3, cells := 0, slots := 0, locals := 70 }
set_option maxRecDepth 100000 in
set_option maxHeartbeats 4000000 in
theorem mX2_swapOrPushAddress (l : Launch) (D : va_G) (ad : Nat → Nat) (cI cB : ClassId) (en : Nat → Nat) (S : St) (x1 : Int32) (So : St) (hs : fX2_swapOrPushAddress x1 S = some So) : uM l yX2_swapOrPushAddress (wg yX2_swapOrPushAddress cX2_swapOrPushAddress 4 none) rmX2_swapOrPushAddress (KB D ad cI cB en) D (wB ad cI cB) (AX 10 ad) [.ref (ad 4), .int x1] S (none, So) := by
  refine uM_start (by decide) rfl ?_
  intro p e s m below meth c hx hb hr hlocks hml hown hts hK hP
  have hT : ∀ w ∈ wG, w.before _ s = true := fun w h => hts w (List.mem_cons_of_mem _ h)
  have hS : va_S (AX 10 ad s.heap.size) s.heap s.heap [] := va_S.rf
  have hown : s.vm.findClass RX2 = some m.cls := hown
  have C : CallFix p m c cX2_swapOrPushAddress 4 s _ wG RX2 := ⟨hx, hb, hml, hown, hT⟩
  have hl := lv_entry ([.ref (ad 4), .int x1]) (n := 4) (Nat.le_of_ble_eq_true rfl)
  rw [lg_entry_eq]
  generalize (lg_sl ([.ref (ad 4), .int x1]) ++ List.replicate (4 - (lg_sl ([.ref (ad 4), .int x1])).length) Slot.unset).toArray = ls at hl ⊢
  have hl : lv_has ls 4 [(0, .ref (ad 4)), (1, .int x1)] := hl
  unfold fX2_swapOrPushAddress at hs
  refine lv_iload_n hx hb dX2_swapOrPushAddress_0 rfl (lv_at hl 1 rfl) ?_
  obtain ⟨r1, S1, h1, hs⟩ := bd_e hs
  refine kX2_lower C tM_X2_121 ⟨Nat.le_of_ble_eq_true rfl, Nat.le_of_ble_eq_true rfl⟩ ⟨Nat.le_of_ble_eq_true rfl, Nat.le_of_ble_eq_true rfl⟩ hK hP hS hl.1 (rest := []) (Nat.le_of_ble_eq_true rfl) dX2_swapOrPushAddress_1 h1 (fun H locs hP hS => ?_)
  refine lv_istore_n (lv' := [(2, .int r1), (0, .ref (ad 4)), (1, .int x1)]) hx hb dX2_swapOrPushAddress_4 rfl hl (by decide) rfl (fun ls hl => ?_)
  refine lv_iload_n hx hb dX2_swapOrPushAddress_5 rfl (lv_at hl 2 rfl) ?_
  obtain ⟨r2, S2, h2, hs⟩ := bd_e hs
  refine kX2_operand C tM_X2_95 ⟨Nat.le_of_ble_eq_true rfl, Nat.le_of_ble_eq_true rfl⟩ ⟨Nat.le_of_ble_eq_true rfl, Nat.le_of_ble_eq_true rfl⟩ hK hP hS hl.1 (rest := []) (Nat.le_of_ble_eq_true rfl) dX2_swapOrPushAddress_6 h2 (fun H locs hP hS => ?_)
  refine lv_bipush (v := 8) hx hb dX2_swapOrPushAddress_9 (by decide) ?_
  refine lv_icmp_ge (tgt := 53) hx hb dX2_swapOrPushAddress_11 (by decide) (fun c1 => ?_) (fun c1 => ?_)
  · have hs := if_t c1 hs
    refine lv_aload_n hx hb dX2_swapOrPushAddress_53 rfl (lv_at hl 1 rfl) ?_
    refine lv_sipush (v := 2020) hx hb dX2_swapOrPushAddress_54 (by decide) ?_
    refine lv_iload_n hx hb dX2_swapOrPushAddress_57 rfl (lv_at hl 2 rfl) ?_
    obtain ⟨r3, S3, h3, hs⟩ := bd_e hs
    refine kX2_operand C tM_X2_95 ⟨Nat.le_of_ble_eq_true rfl, Nat.le_of_ble_eq_true rfl⟩ ⟨Nat.le_of_ble_eq_true rfl, Nat.le_of_ble_eq_true rfl⟩ hK hP hS hl.1 (rest := [.int 2020, .ref (ad 4)]) (Nat.le_of_ble_eq_true rfl) dX2_swapOrPushAddress_58 h3 (fun H locs hP hS => ?_)
    obtain ⟨b1, S4, h4, hs⟩ := bd_e hs
    refine kX2_misfits C tM_X2_146 ⟨Nat.le_of_ble_eq_true rfl, Nat.le_of_ble_eq_true rfl⟩ ⟨Nat.le_of_ble_eq_true rfl, Nat.le_of_ble_eq_true rfl⟩ hK hP hS hl.1 (rest := []) (Nat.le_of_ble_eq_true rfl) dX2_swapOrPushAddress_61 h4 (fun H locs hP hS => ?_)
    refine lv_if_ne (tgt := 92) hx hb dX2_swapOrPushAddress_64 (by decide) (fun c2 => ?_) (fun c2 => ?_)
    · have hs := if_f c2 hs
      exact u_vret hx hb hr hlocks hP hS hs dX2_swapOrPushAddress_92
    · have hs := if_t c2 hs
      refine lv_aload_n hx hb dX2_swapOrPushAddress_67 rfl (lv_at hl 1 rfl) ?_
      refine gB_X2_access hx hb hT hown hK hP (hT _ tF_X2_15) dX2_swapOrPushAddress_68 ?_
      refine gS_LONG hx hb hown hK hS (hT _ tF_X2_46) dX2_swapOrPushAddress_71 ?_
      refine lv_aload_n hx hb dX2_swapOrPushAddress_74 rfl (lv_at hl 1 rfl) ?_
      refine gB_X2_access hx hb hT hown hK hP (hT _ tF_X2_15) dX2_swapOrPushAddress_75 ?_
      refine gS_LONG hx hb hown hK hS (hT _ tF_X2_46) dX2_swapOrPushAddress_78 ?_
      refine lv_iload_n hx hb dX2_swapOrPushAddress_81 rfl (lv_at hl 2 rfl) ?_
      obtain ⟨r4, S5, h5, hs⟩ := bd_e hs
      refine kX2_operand C tM_X2_95 ⟨Nat.le_of_ble_eq_true rfl, Nat.le_of_ble_eq_true rfl⟩ ⟨Nat.le_of_ble_eq_true rfl, Nat.le_of_ble_eq_true rfl⟩ hK hP hS hl.1 (rest := [.ref (en 2), .ref (ad 3), .ref (en 2), .ref (ad 3)]) (Nat.le_of_ble_eq_true rfl) dX2_swapOrPushAddress_82 h5 (fun H locs hP hS => ?_)
      obtain ⟨w1, S6, h6, hs⟩ := bd_e hs
      refine kX0_locate C tM_X2_150 ⟨Nat.le_of_ble_eq_true rfl, Nat.le_of_ble_eq_true rfl⟩ ⟨Nat.le_of_ble_eq_true rfl, Nat.le_of_ble_eq_true rfl⟩ hK hP hS hl.1 (rest := [.ref (en 2), .ref (ad 3)]) (Nat.le_of_ble_eq_true rfl) dX2_swapOrPushAddress_85 h6 (fun H locs hP hS => ?_)
      refine lv_l2i (v := (w1.toInt32)) hx hb dX2_swapOrPushAddress_88 rfl ?_
      obtain ⟨S7, h7, hs⟩ := bv_e hs
      refine kX0_push C tM_X2_249 ⟨Nat.le_of_ble_eq_true rfl, Nat.le_of_ble_eq_true rfl⟩ ⟨Nat.le_of_ble_eq_true rfl, Nat.le_of_ble_eq_true rfl⟩ hK hP hS hl.1 (rest := []) (Nat.le_of_ble_eq_true rfl) dX2_swapOrPushAddress_89 h7 (fun H locs hP hS => ?_)
      exact u_vret hx hb hr hlocks hP hS hs dX2_swapOrPushAddress_92
  · have hs := if_f c1 hs
    refine lv_aload_n hx hb dX2_swapOrPushAddress_14 rfl (lv_at hl 1 rfl) ?_
    refine gB_X2_registers hx hb hT hown hK hP (hT _ tF_X2_9) dX2_swapOrPushAddress_15 ?_
    refine lv_iload_n hx hb dX2_swapOrPushAddress_18 rfl (lv_at hl 0 rfl) ?_
    obtain ⟨r5, S8, h8, hs⟩ := bd_e hs
    refine kX4_get C tM_X2_124 ⟨Nat.le_of_ble_eq_true rfl, Nat.le_of_ble_eq_true rfl⟩ ⟨Nat.le_of_ble_eq_true rfl, Nat.le_of_ble_eq_true rfl⟩ hK hP hS hl.1 (rest := []) (Nat.le_of_ble_eq_true rfl) dX2_swapOrPushAddress_19 h8 (fun H locs hP hS => ?_)
    refine lv_istore_n (lv' := [(3, .int r5), (2, .int r1), (0, .ref (ad 4)), (1, .int x1)]) hx hb dX2_swapOrPushAddress_22 rfl hl (by decide) rfl (fun ls hl => ?_)
    refine lv_aload_n hx hb dX2_swapOrPushAddress_23 rfl (lv_at hl 2 rfl) ?_
    refine gB_X2_registers hx hb hT hown hK hP (hT _ tF_X2_9) dX2_swapOrPushAddress_24 ?_
    refine lv_iload_n hx hb dX2_swapOrPushAddress_27 rfl (lv_at hl 1 rfl) ?_
    refine lv_aload_n hx hb dX2_swapOrPushAddress_28 rfl (lv_at hl 2 rfl) ?_
    refine gB_X2_arithmetic hx hb hT hown hK hP (hT _ tF_X2_24) dX2_swapOrPushAddress_29 ?_
    refine gS_LONG hx hb hown hK hS (hT _ tF_X2_46) dX2_swapOrPushAddress_32 ?_
    refine lv_iload_n hx hb dX2_swapOrPushAddress_35 rfl (lv_at hl 0 rfl) ?_
    refine lv_bipush (v := 16) hx hb dX2_swapOrPushAddress_36 (by decide) ?_
    refine lv_ishl hx hb dX2_swapOrPushAddress_38 ?_
    refine lv_iload_n hx hb dX2_swapOrPushAddress_39 rfl (lv_at hl 0 rfl) ?_
    refine lv_bipush (v := 16) hx hb dX2_swapOrPushAddress_40 (by decide) ?_
    refine lv_iushr (v := (ush r5 16)) hx hb dX2_swapOrPushAddress_42 rfl ?_
    refine lv_ior hx hb dX2_swapOrPushAddress_43 ?_
    obtain ⟨r6, S9, h9, hs⟩ := bd_e hs
    refine kX1_logic C tM_X2_203 ⟨Nat.le_of_ble_eq_true rfl, Nat.le_of_ble_eq_true rfl⟩ ⟨Nat.le_of_ble_eq_true rfl, Nat.le_of_ble_eq_true rfl⟩ hK hP hS hl.1 (rest := [.int r1, .ref (ad 2)]) (Nat.le_of_ble_eq_true rfl) dX2_swapOrPushAddress_44 h9 (fun H locs hP hS => ?_)
    obtain ⟨S10, h10, hs⟩ := bv_e hs
    refine kX4_set C tM_X2_143 ⟨Nat.le_of_ble_eq_true rfl, Nat.le_of_ble_eq_true rfl⟩ ⟨Nat.le_of_ble_eq_true rfl, Nat.le_of_ble_eq_true rfl⟩ hK hP hS hl.1 (rest := []) (Nat.le_of_ble_eq_true rfl) dX2_swapOrPushAddress_47 h10 (fun H locs hP hS => ?_)
    refine lv_goto (tgt := 92) hx hb dX2_swapOrPushAddress_50 (by decide) ?_
    exact u_vret hx hb hr hlocks hP hS hs dX2_swapOrPushAddress_92
theorem kX2_swapOrPushAddress {p : Program} {l : Launch} {e : Env} {R : Room} {s : State} {m : MethodId} {args : Array Value} {below : List Frame} {meth : Method} {c : Code} {H : Heap} {locs : List Loc} {cells slots : Nat} {Q : State → Prop} {cc : ByteArray} {pc nL : Nat} {ls : Array Slot} {rest : List Value} {D : va_G} {ad : Nat → Nat} {cI cB : ClassId} {en : Nat → Nat} {S : St} {own : String} {index : Nat} {x1 : Int32} {So : St} (C : CallFix p m c cc nL s args wG own) (hlk : Cond.methodLink own index yX2_swapOrPushAddress ∈ wG) (hR : rmX2_swapOrPushAddress.frames + 1 ≤ R.frames ∧ 8 + (4 + 11) + rmX2_swapOrPushAddress.locals ≤ R.locals) (hc : cells ≤ R.cells ∧ slots ≤ R.slots) (hK : KB D ad cI cB en s) (hP : va_P D vwCl (wB ad cI cB S) H) (hS : va_S (AX 10 ad s.heap.size) s.heap H locs) (hls : ls.size = nL) (hrest : (rest.map fun v => v.category).sum ≤ 8) (hd : decode cc pc = .ok (.invokevirtual index, 3)) (hs : fX2_swapOrPushAddress x1 S = some So) (k : ∀ (H : Heap) (locs : List Loc), va_P D vwCl (wB ad cI cB So) H → va_S (AX 10 ad s.heap.size) s.heap H locs → W p l e R s m args below meth c H locs cells slots Q (F0 m (pc + 3) ls (rest))) : W p l e R s m args below meth c H locs cells slots Q (F0 m pc ls (.int x1 :: .ref (ad 4) :: rest)) :=
  u_callV (n := 1) (mX2_swapOrPushAddress l D ad cI cB en S x1 So hs) C uK_B (wg_V hlk tI_X2_swapOrPushAddress tS_X2_swapOrPushAddress tN_X2 tK_X2_swapOrPushAddress) rfl rfl rfl (by decide +kernel) hR rfl (va_recv hK.1 hP (ci := 2) (q0 := 4) rfl rfl) hK hP hS hls hrest hd hc rfl k
def fX2_manySize (x0 : Int32) (S : St) : Option (Nat × St) :=
    (if (x0 &&& 64) = 0 then (some (1, S))
    else (some (2, S)))
abbrev rmX2_manySize : Room := { frames := 0, cells := 0, slots := 0, locals := 0 }
set_option maxRecDepth 100000 in
set_option maxHeartbeats 4000000 in
theorem mX2_manySize (l : Launch) (D : va_G) (ad : Nat → Nat) (cI cB : ClassId) (en : Nat → Nat) (S : St) (x0 : Int32) (ro : Nat) (So : St) (hs : fX2_manySize x0 S = some (ro, So)) : uM l yX2_manySize (wg yX2_manySize cX2_manySize 1 (some (.object "BoardCore$Size"))) rmX2_manySize (KB D ad cI cB en) D (wB ad cI cB) (AX 10 ad) [.int x0] S (some (.ref (en ro)), So) := by
  refine uM_start (by decide) rfl ?_
  intro p e s m below meth c hx hb hr hlocks hml hown hts hK hP
  have hT : ∀ w ∈ wG, w.before _ s = true := fun w h => hts w (List.mem_cons_of_mem _ h)
  have hS : va_S (AX 10 ad s.heap.size) s.heap s.heap [] := va_S.rf
  have hown : s.vm.findClass RX2 = some m.cls := hown
  have C : CallFix p m c cX2_manySize 1 s _ wG RX2 := ⟨hx, hb, hml, hown, hT⟩
  have hl := lv_entry ([.int x0]) (n := 1) (Nat.le_of_ble_eq_true rfl)
  rw [lg_entry_eq]
  generalize (lg_sl ([.int x0]) ++ List.replicate (1 - (lg_sl ([.int x0])).length) Slot.unset).toArray = ls at hl ⊢
  have hl : lv_has ls 1 [(0, .int x0)] := hl
  unfold fX2_manySize at hs
  refine lv_iload_n hx hb dX2_manySize_0 rfl (lv_at hl 0 rfl) ?_
  refine lv_bipush (v := 64) hx hb dX2_manySize_1 (by decide) ?_
  refine lv_iand hx hb dX2_manySize_3 ?_
  refine lv_if_ne (tgt := 13) hx hb dX2_manySize_4 (by decide) (fun c1 => ?_) (fun c1 => ?_)
  · have hs := if_f c1 hs
    refine gS_LONG hx hb hown hK hS (hT _ tF_X2_46) dX2_manySize_13 ?_
    exact u_eret hx hb hr hlocks hP hS hs dX2_manySize_16
  · have hs := if_t c1 hs
    refine gS_WORD hx hb hown hK hS (hT _ tF_X2_49) dX2_manySize_7 ?_
    refine lv_goto (tgt := 16) hx hb dX2_manySize_10 (by decide) ?_
    exact u_eret hx hb hr hlocks hP hS hs dX2_manySize_16
theorem kX2_manySize {p : Program} {l : Launch} {e : Env} {R : Room} {s : State} {m : MethodId} {args : Array Value} {below : List Frame} {meth : Method} {c : Code} {H : Heap} {locs : List Loc} {cells slots : Nat} {Q : State → Prop} {cc : ByteArray} {pc nL : Nat} {ls : Array Slot} {rest : List Value} {D : va_G} {ad : Nat → Nat} {cI cB : ClassId} {en : Nat → Nat} {S : St} {own : String} {index : Nat} {x0 : Int32} {ro : Nat} {So : St} (C : CallFix p m c cc nL s args wG own) (hlk : Cond.methodLink own index yX2_manySize ∈ wG) (hR : rmX2_manySize.frames + 1 ≤ R.frames ∧ 8 + (1 + 11) + rmX2_manySize.locals ≤ R.locals) (hc : cells ≤ R.cells ∧ slots ≤ R.slots) (hK : KB D ad cI cB en s) (hP : va_P D vwCl (wB ad cI cB S) H) (hS : va_S (AX 10 ad s.heap.size) s.heap H locs) (hls : ls.size = nL) (hrest : (rest.map fun v => v.category).sum ≤ 8) (hd : decode cc pc = .ok (.invokestatic index, 3)) (hs : fX2_manySize x0 S = some (ro, So)) (k : ∀ (H : Heap) (locs : List Loc), va_P D vwCl (wB ad cI cB So) H → va_S (AX 10 ad s.heap.size) s.heap H locs → W p l e R s m args below meth c H locs cells slots Q (F0 m (pc + 3) ls (.ref (en ro) :: rest))) : W p l e R s m args below meth c H locs cells slots Q (F0 m pc ls (.int x0 :: rest)) :=
  u_callS (n := 1) (mX2_manySize l D ad cI cB en S x0 ro So hs) C uK_B (wg_S hlk tI_X2_manySize tN_X2 tK_X2_manySize) rfl rfl rfl (by decide +kernel) hR rfl hK hP hS hls hrest hd hc rfl k
