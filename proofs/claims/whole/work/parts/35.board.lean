def fX6_reset  (S : St) : Option St :=
    (bv (fX4_clear S) fun S1 => (bv (fJ7_fill9 0 S1) fun S2 => (lt (sI S2 0 0) fun S3 => (lt (sI S3 1 0) fun S4 => (some S4)))))
abbrev rmX6_reset : Room := { frames := 2, cells := 0, slots := 0, locals := 43 }
set_option maxRecDepth 100000 in
set_option maxHeartbeats 4000000 in
theorem mX6_reset (l : Launch) (D : va_G) (ad : Nat → Nat) (cI cB : ClassId) (en : Nat → Nat) (S : St)  (So : St) (hs : fX6_reset  S = some So) : uM l yX6_reset (wg yX6_reset cX6_reset 1 none) rmX6_reset (KB D ad cI cB en) D (wB ad cI cB) (AX 10 ad) [.ref (ad 0)] S (none, So) := by
  refine uM_start (by decide) rfl ?_
  intro p e s m below meth c hx hb hr hlocks hml hown hts hK hP
  have hT : ∀ w ∈ wG, w.before _ s = true := fun w h => hts w (List.mem_cons_of_mem _ h)
  have hS : va_S (AX 10 ad s.heap.size) s.heap s.heap [] := va_S.rf
  have hown : s.vm.findClass RX6 = some m.cls := hown
  have C : CallFix p m c cX6_reset 1 s _ wG RX6 := ⟨hx, hb, hml, hown, hT⟩
  have hl := lv_entry ([.ref (ad 0)]) (n := 1) (Nat.le_of_ble_eq_true rfl)
  rw [lg_entry_eq]
  generalize (lg_sl ([.ref (ad 0)]) ++ List.replicate (1 - (lg_sl ([.ref (ad 0)])).length) Slot.unset).toArray = ls at hl ⊢
  have hl : lv_has ls 1 [(0, .ref (ad 0))] := hl
  unfold fX6_reset at hs
  refine lv_aload_n hx hb dX6_reset_0 rfl (lv_at hl 0 rfl) ?_
  refine gB_X6_registers hx hb hT hown hK hP (hT _ tF_X6_19) dX6_reset_1 ?_
  obtain ⟨S1, h1, hs⟩ := bv_e hs
  refine kX4_clear C tM_X6_52 ⟨Nat.le_of_ble_eq_true rfl, Nat.le_of_ble_eq_true rfl⟩ ⟨Nat.le_of_ble_eq_true rfl, Nat.le_of_ble_eq_true rfl⟩ hK hP hS hl.1 (rest := []) (Nat.le_of_ble_eq_true rfl) dX6_reset_4 h1 (fun H locs hP hS => ?_)
  refine lv_aload_n hx hb dX6_reset_7 rfl (lv_at hl 0 rfl) ?_
  refine gB_X6_counts hx hb hT hown hK hP (hT _ tF_X6_41) dX6_reset_8 ?_
  refine lv_iconst (v := 0) hx hb dX6_reset_11 (by decide) ?_
  obtain ⟨S2, h2, hs⟩ := bv_e hs
  refine kJ7_fill9 C tM_X6_55 ⟨Nat.le_of_ble_eq_true rfl, Nat.le_of_ble_eq_true rfl⟩ ⟨Nat.le_of_ble_eq_true rfl, Nat.le_of_ble_eq_true rfl⟩ hK hP hS hl.1 (rest := []) (Nat.le_of_ble_eq_true rfl) dX6_reset_12 h2 (fun H locs hP hS => ?_)
  refine lv_aload_n hx hb dX6_reset_15 rfl (lv_at hl 0 rfl) ?_
  refine lv_iconst (v := 0) hx hb dX6_reset_16 (by decide) ?_
  obtain ⟨S3, h3, hs⟩ := lt_e hs
  refine pB_X6_wanted hx hb hT hown hK hP hS (hT _ tF_X6_45) dX6_reset_17 (v := 0) h3 (fun H locs hP hS => ?_)
  refine lv_aload_n hx hb dX6_reset_20 rfl (lv_at hl 0 rfl) ?_
  refine lv_iconst (v := 0) hx hb dX6_reset_21 (by decide) ?_
  obtain ⟨S4, h4, hs⟩ := lt_e hs
  refine pB_X6_phase hx hb hT hown hK hP hS (hT _ tF_X6_49) dX6_reset_22 (v := 0) h4 (fun H locs hP hS => ?_)
  exact u_vret hx hb hr hlocks hP hS hs dX6_reset_25
theorem kX6_reset {p : Program} {l : Launch} {e : Env} {R : Room} {s : State} {m : MethodId} {args : Array Value} {below : List Frame} {meth : Method} {c : Code} {H : Heap} {locs : List Loc} {cells slots : Nat} {Q : State → Prop} {cc : ByteArray} {pc nL : Nat} {ls : Array Slot} {rest : List Value} {D : va_G} {ad : Nat → Nat} {cI cB : ClassId} {en : Nat → Nat} {S : St} {own : String} {index : Nat}  {So : St} (C : CallFix p m c cc nL s args wG own) (hlk : Cond.methodLink own index yX6_reset ∈ wG) (hR : rmX6_reset.frames + 1 ≤ R.frames ∧ 8 + (1 + 11) + rmX6_reset.locals ≤ R.locals) (hc : cells ≤ R.cells ∧ slots ≤ R.slots) (hK : KB D ad cI cB en s) (hP : va_P D vwCl (wB ad cI cB S) H) (hS : va_S (AX 10 ad s.heap.size) s.heap H locs) (hls : ls.size = nL) (hrest : (rest.map fun v => v.category).sum ≤ 8) (hd : decode cc pc = .ok (.invokevirtual index, 3)) (hs : fX6_reset  S = some So) (k : ∀ (H : Heap) (locs : List Loc), va_P D vwCl (wB ad cI cB So) H → va_S (AX 10 ad s.heap.size) s.heap H locs → W p l e R s m args below meth c H locs cells slots Q (F0 m (pc + 3) ls (rest))) : W p l e R s m args below meth c H locs cells slots Q (F0 m pc ls (.ref (ad 0) :: rest)) :=
  u_callV (n := 0) (mX6_reset l D ad cI cB en S  So hs) C uK_B (wg_V hlk tI_X6_reset tS_X6_reset tN_X6 tK_X6_reset) rfl rfl rfl (by decide +kernel) hR rfl (va_recv hK.1 hP (ci := 5) (q0 := 0) rfl rfl) hK hP hS hls hrest hd hc rfl k
def fX6_register (x1 : Int32) (S : St) : Option (Int32 × St) :=
    (if x1 < 0 then none
    else (if x1 ≤ 19 then (if x1 = 16 then (some ((S.1 2), S))
    else (if x1 = 17 then (some ((S.1 3), S))
    else (if x1 = 18 then (bd (fX4_stackOf 0 S) fun r1 S1 => (some (r1, S1)))
    else (if x1 = 19 then (bd (fX4_stackOf 8192 S) fun r2 S2 => (some (r2, S2)))
    else (bd (fX4_get x1 S) fun r3 S3 => (some (r3, S3)))))))
    else none))
abbrev rmX6_register : Room := { frames := 1, cells := 0, slots := 0, locals := 21 }
set_option maxRecDepth 100000 in
set_option maxHeartbeats 4000000 in
theorem mX6_register (l : Launch) (D : va_G) (ad : Nat → Nat) (cI cB : ClassId) (en : Nat → Nat) (S : St) (x1 : Int32) (ro : Int32) (So : St) (hs : fX6_register x1 S = some (ro, So)) : uM l yX6_register (wg yX6_register cX6_register 2 (some .int)) rmX6_register (KB D ad cI cB en) D (wB ad cI cB) (AX 10 ad) [.ref (ad 0), .int x1] S (some (.int ro), So) := by
  refine uM_start (by decide) rfl ?_
  intro p e s m below meth c hx hb hr hlocks hml hown hts hK hP
  have hT : ∀ w ∈ wG, w.before _ s = true := fun w h => hts w (List.mem_cons_of_mem _ h)
  have hS : va_S (AX 10 ad s.heap.size) s.heap s.heap [] := va_S.rf
  have hown : s.vm.findClass RX6 = some m.cls := hown
  have C : CallFix p m c cX6_register 2 s _ wG RX6 := ⟨hx, hb, hml, hown, hT⟩
  have hl := lv_entry ([.ref (ad 0), .int x1]) (n := 2) (Nat.le_of_ble_eq_true rfl)
  rw [lg_entry_eq]
  generalize (lg_sl ([.ref (ad 0), .int x1]) ++ List.replicate (2 - (lg_sl ([.ref (ad 0), .int x1])).length) Slot.unset).toArray = ls at hl ⊢
  have hl : lv_has ls 2 [(0, .ref (ad 0)), (1, .int x1)] := hl
  unfold fX6_register at hs
  refine lv_iload_n hx hb dX6_register_0 rfl (lv_at hl 1 rfl) ?_
  refine lv_if_lt (tgt := 10) hx hb dX6_register_1 (by decide) (fun c1 => ?_) (fun c1 => ?_)
  · have hs := if_t c1 hs
    cases hs
  · have hs := if_f c1 hs
    refine lv_iload_n hx hb dX6_register_4 rfl (lv_at hl 1 rfl) ?_
    refine lv_bipush (v := 19) hx hb dX6_register_5 (by decide) ?_
    refine lv_icmp_le (tgt := 18) hx hb dX6_register_7 (by decide) (fun c2 => ?_) (fun c2 => ?_)
    · have hs := if_t c2 hs
      refine lv_iload_n hx hb dX6_register_18 rfl (lv_at hl 1 rfl) ?_
      by_cases c3 : x1 = 16
      · have hs := if_t c3 hs
        refine u_table (k := 16) (a := 16) (off := 29) (tgt := 48) hx hb dX6_register_19 c3 (by decide) (by decide) (by decide) (by decide) (by decide) ?_
        refine lv_aload_n hx hb dX6_register_48 rfl (lv_at hl 0 rfl) ?_
        refine gB_X6_registers hx hb hT hown hK hP (hT _ tF_X6_19) dX6_register_49 ?_
        refine gB_X4_pc hx hb hT hown hK hP (hT _ tF_X6_64) dX6_register_52 ?_
        exact u_iret hx hb hr hlocks hP hS hs dX6_register_55
      have hs := if_f c3 hs
      by_cases c4 : x1 = 17
      · have hs := if_t c4 hs
        refine u_table (k := 17) (a := 17) (off := 37) (tgt := 56) hx hb dX6_register_19 c4 (by decide) (by decide) (by decide) (by decide) (by decide) ?_
        refine lv_aload_n hx hb dX6_register_56 rfl (lv_at hl 0 rfl) ?_
        refine gB_X6_registers hx hb hT hown hK hP (hT _ tF_X6_19) dX6_register_57 ?_
        refine gB_X4_sr hx hb hT hown hK hP (hT _ tF_X6_67) dX6_register_60 ?_
        exact u_iret hx hb hr hlocks hP hS hs dX6_register_63
      have hs := if_f c4 hs
      by_cases c5 : x1 = 18
      · have hs := if_t c5 hs
        refine u_table (k := 18) (a := 18) (off := 45) (tgt := 64) hx hb dX6_register_19 c5 (by decide) (by decide) (by decide) (by decide) (by decide) ?_
        refine lv_aload_n hx hb dX6_register_64 rfl (lv_at hl 0 rfl) ?_
        refine gB_X6_registers hx hb hT hown hK hP (hT _ tF_X6_19) dX6_register_65 ?_
        refine lv_iconst (v := 0) hx hb dX6_register_68 (by decide) ?_
        obtain ⟨r1, S1, h1, hs⟩ := bd_e hs
        refine kX4_stackOf C tM_X6_70 ⟨Nat.le_of_ble_eq_true rfl, Nat.le_of_ble_eq_true rfl⟩ ⟨Nat.le_of_ble_eq_true rfl, Nat.le_of_ble_eq_true rfl⟩ hK hP hS hl.1 (rest := []) (Nat.le_of_ble_eq_true rfl) dX6_register_69 h1 (fun H locs hP hS => ?_)
        exact u_iret hx hb hr hlocks hP hS hs dX6_register_72
      have hs := if_f c5 hs
      by_cases c6 : x1 = 19
      · have hs := if_t c6 hs
        refine u_table (k := 19) (a := 19) (off := 54) (tgt := 73) hx hb dX6_register_19 c6 (by decide) (by decide) (by decide) (by decide) (by decide) ?_
        refine lv_aload_n hx hb dX6_register_73 rfl (lv_at hl 0 rfl) ?_
        refine gB_X6_registers hx hb hT hown hK hP (hT _ tF_X6_19) dX6_register_74 ?_
        refine lv_sipush (v := 8192) hx hb dX6_register_77 (by decide) ?_
        obtain ⟨r2, S2, h2, hs⟩ := bd_e hs
        refine kX4_stackOf C tM_X6_70 ⟨Nat.le_of_ble_eq_true rfl, Nat.le_of_ble_eq_true rfl⟩ ⟨Nat.le_of_ble_eq_true rfl, Nat.le_of_ble_eq_true rfl⟩ hK hP hS hl.1 (rest := []) (Nat.le_of_ble_eq_true rfl) dX6_register_80 h2 (fun H locs hP hS => ?_)
        exact u_iret hx hb hr hlocks hP hS hs dX6_register_83
      have hs := if_f c6 hs
      refine u_tableD (tgt := 84) hx hb dX6_register_19 (fun hlo hhi => ?_) (by decide) ?_
      · have hz : (x1).toInt = 16 ∨ (x1).toInt = 17 ∨ (x1).toInt = 18 ∨ (x1).toInt = 19 := by omega
        rcases hz with hz | hz | hz | hz
        · exact absurd hz (lv_neT c3 (by decide))
        · exact absurd hz (lv_neT c4 (by decide))
        · exact absurd hz (lv_neT c5 (by decide))
        · exact absurd hz (lv_neT c6 (by decide))
      refine lv_aload_n hx hb dX6_register_84 rfl (lv_at hl 0 rfl) ?_
      refine gB_X6_registers hx hb hT hown hK hP (hT _ tF_X6_19) dX6_register_85 ?_
      refine lv_iload_n hx hb dX6_register_88 rfl (lv_at hl 1 rfl) ?_
      obtain ⟨r3, S3, h3, hs⟩ := bd_e hs
      refine kX4_get C tM_X6_74 ⟨Nat.le_of_ble_eq_true rfl, Nat.le_of_ble_eq_true rfl⟩ ⟨Nat.le_of_ble_eq_true rfl, Nat.le_of_ble_eq_true rfl⟩ hK hP hS hl.1 (rest := []) (Nat.le_of_ble_eq_true rfl) dX6_register_89 h3 (fun H locs hP hS => ?_)
      exact u_iret hx hb hr hlocks hP hS hs dX6_register_92
    · have hs := if_f c2 hs
      cases hs
theorem kX6_register {p : Program} {l : Launch} {e : Env} {R : Room} {s : State} {m : MethodId} {args : Array Value} {below : List Frame} {meth : Method} {c : Code} {H : Heap} {locs : List Loc} {cells slots : Nat} {Q : State → Prop} {cc : ByteArray} {pc nL : Nat} {ls : Array Slot} {rest : List Value} {D : va_G} {ad : Nat → Nat} {cI cB : ClassId} {en : Nat → Nat} {S : St} {own : String} {index : Nat} {x1 : Int32} {ro : Int32} {So : St} (C : CallFix p m c cc nL s args wG own) (hlk : Cond.methodLink own index yX6_register ∈ wG) (hR : rmX6_register.frames + 1 ≤ R.frames ∧ 8 + (2 + 11) + rmX6_register.locals ≤ R.locals) (hc : cells ≤ R.cells ∧ slots ≤ R.slots) (hK : KB D ad cI cB en s) (hP : va_P D vwCl (wB ad cI cB S) H) (hS : va_S (AX 10 ad s.heap.size) s.heap H locs) (hls : ls.size = nL) (hrest : (rest.map fun v => v.category).sum ≤ 8) (hd : decode cc pc = .ok (.invokevirtual index, 3)) (hs : fX6_register x1 S = some (ro, So)) (k : ∀ (H : Heap) (locs : List Loc), va_P D vwCl (wB ad cI cB So) H → va_S (AX 10 ad s.heap.size) s.heap H locs → W p l e R s m args below meth c H locs cells slots Q (F0 m (pc + 3) ls (.int ro :: rest))) : W p l e R s m args below meth c H locs cells slots Q (F0 m pc ls (.int x1 :: .ref (ad 0) :: rest)) :=
  u_callV (n := 1) (mX6_register l D ad cI cB en S x1 ro So hs) C uK_B (wg_V hlk tI_X6_register tS_X6_register tN_X6 tK_X6_register) rfl rfl rfl (by decide +kernel) hR rfl (va_recv hK.1 hP (ci := 5) (q0 := 0) rfl rfl) hK hP hS hls hrest hd hc rfl k
def fX6_put (x1 : Int32) (x2 : Int32) (S : St) : Option St :=
    (if x1 < 0 then none
    else (if x1 ≤ 19 then (if x1 = 16 then (lt (sI S 2 x2) fun S1 => (some S1))
    else (if x1 = 17 then (bv (fX4_setStatus x2 S) fun S2 => (some S2))
    else (if x1 = 18 then (bv (fX4_setStackOf 0 x2 S) fun S3 => (some S3))
    else (if x1 = 19 then (bv (fX4_setStackOf 8192 x2 S) fun S4 => (some S4))
    else (bv (fX4_set x1 x2 S) fun S5 => (some S5))))))
    else none))
abbrev rmX6_put : Room := { frames := 1, cells := 0, slots := 0, locals := 22 }
set_option maxRecDepth 100000 in
set_option maxHeartbeats 4000000 in
theorem mX6_put (l : Launch) (D : va_G) (ad : Nat → Nat) (cI cB : ClassId) (en : Nat → Nat) (S : St) (x1 : Int32) (x2 : Int32) (So : St) (hs : fX6_put x1 x2 S = some So) : uM l yX6_put (wg yX6_put cX6_put 3 none) rmX6_put (KB D ad cI cB en) D (wB ad cI cB) (AX 10 ad) [.ref (ad 0), .int x1, .int x2] S (none, So) := by
  refine uM_start (by decide) rfl ?_
  intro p e s m below meth c hx hb hr hlocks hml hown hts hK hP
  have hT : ∀ w ∈ wG, w.before _ s = true := fun w h => hts w (List.mem_cons_of_mem _ h)
  have hS : va_S (AX 10 ad s.heap.size) s.heap s.heap [] := va_S.rf
  have hown : s.vm.findClass RX6 = some m.cls := hown
  have C : CallFix p m c cX6_put 3 s _ wG RX6 := ⟨hx, hb, hml, hown, hT⟩
  have hl := lv_entry ([.ref (ad 0), .int x1, .int x2]) (n := 3) (Nat.le_of_ble_eq_true rfl)
  rw [lg_entry_eq]
  generalize (lg_sl ([.ref (ad 0), .int x1, .int x2]) ++ List.replicate (3 - (lg_sl ([.ref (ad 0), .int x1, .int x2])).length) Slot.unset).toArray = ls at hl ⊢
  have hl : lv_has ls 3 [(0, .ref (ad 0)), (1, .int x1), (2, .int x2)] := hl
  unfold fX6_put at hs
  refine lv_iload_n hx hb dX6_put_0 rfl (lv_at hl 1 rfl) ?_
  refine lv_if_lt (tgt := 10) hx hb dX6_put_1 (by decide) (fun c1 => ?_) (fun c1 => ?_)
  · have hs := if_t c1 hs
    cases hs
  · have hs := if_f c1 hs
    refine lv_iload_n hx hb dX6_put_4 rfl (lv_at hl 1 rfl) ?_
    refine lv_bipush (v := 19) hx hb dX6_put_5 (by decide) ?_
    refine lv_icmp_le (tgt := 18) hx hb dX6_put_7 (by decide) (fun c2 => ?_) (fun c2 => ?_)
    · have hs := if_t c2 hs
      refine lv_iload_n hx hb dX6_put_18 rfl (lv_at hl 1 rfl) ?_
      by_cases c3 : x1 = 16
      · have hs := if_t c3 hs
        refine u_table (k := 16) (a := 16) (off := 29) (tgt := 48) hx hb dX6_put_19 c3 (by decide) (by decide) (by decide) (by decide) (by decide) ?_
        refine lv_aload_n hx hb dX6_put_48 rfl (lv_at hl 0 rfl) ?_
        refine gB_X6_registers hx hb hT hown hK hP (hT _ tF_X6_19) dX6_put_49 ?_
        refine lv_iload_n hx hb dX6_put_52 rfl (lv_at hl 2 rfl) ?_
        obtain ⟨S1, h1, hs⟩ := lt_e hs
        refine pB_X4_pc hx hb hT hown hK hP hS (hT _ tF_X6_64) dX6_put_53 (v := x2) h1 (fun H locs hP hS => ?_)
        refine lv_goto (tgt := 105) hx hb dX6_put_56 (by decide) ?_
        exact u_vret hx hb hr hlocks hP hS hs dX6_put_105
      have hs := if_f c3 hs
      by_cases c4 : x1 = 17
      · have hs := if_t c4 hs
        refine u_table (k := 17) (a := 17) (off := 40) (tgt := 59) hx hb dX6_put_19 c4 (by decide) (by decide) (by decide) (by decide) (by decide) ?_
        refine lv_aload_n hx hb dX6_put_59 rfl (lv_at hl 0 rfl) ?_
        refine gB_X6_registers hx hb hT hown hK hP (hT _ tF_X6_19) dX6_put_60 ?_
        refine lv_iload_n hx hb dX6_put_63 rfl (lv_at hl 2 rfl) ?_
        obtain ⟨S2, h2, hs⟩ := bv_e hs
        refine kX4_setStatus C tM_X6_77 ⟨Nat.le_of_ble_eq_true rfl, Nat.le_of_ble_eq_true rfl⟩ ⟨Nat.le_of_ble_eq_true rfl, Nat.le_of_ble_eq_true rfl⟩ hK hP hS hl.1 (rest := []) (Nat.le_of_ble_eq_true rfl) dX6_put_64 h2 (fun H locs hP hS => ?_)
        refine lv_goto (tgt := 105) hx hb dX6_put_67 (by decide) ?_
        exact u_vret hx hb hr hlocks hP hS hs dX6_put_105
      have hs := if_f c4 hs
      by_cases c5 : x1 = 18
      · have hs := if_t c5 hs
        refine u_table (k := 18) (a := 18) (off := 51) (tgt := 70) hx hb dX6_put_19 c5 (by decide) (by decide) (by decide) (by decide) (by decide) ?_
        refine lv_aload_n hx hb dX6_put_70 rfl (lv_at hl 0 rfl) ?_
        refine gB_X6_registers hx hb hT hown hK hP (hT _ tF_X6_19) dX6_put_71 ?_
        refine lv_iconst (v := 0) hx hb dX6_put_74 (by decide) ?_
        refine lv_iload_n hx hb dX6_put_75 rfl (lv_at hl 2 rfl) ?_
        obtain ⟨S3, h3, hs⟩ := bv_e hs
        refine kX4_setStackOf C tM_X6_81 ⟨Nat.le_of_ble_eq_true rfl, Nat.le_of_ble_eq_true rfl⟩ ⟨Nat.le_of_ble_eq_true rfl, Nat.le_of_ble_eq_true rfl⟩ hK hP hS hl.1 (rest := []) (Nat.le_of_ble_eq_true rfl) dX6_put_76 h3 (fun H locs hP hS => ?_)
        refine lv_goto (tgt := 105) hx hb dX6_put_79 (by decide) ?_
        exact u_vret hx hb hr hlocks hP hS hs dX6_put_105
      have hs := if_f c5 hs
      by_cases c6 : x1 = 19
      · have hs := if_t c6 hs
        refine u_table (k := 19) (a := 19) (off := 63) (tgt := 82) hx hb dX6_put_19 c6 (by decide) (by decide) (by decide) (by decide) (by decide) ?_
        refine lv_aload_n hx hb dX6_put_82 rfl (lv_at hl 0 rfl) ?_
        refine gB_X6_registers hx hb hT hown hK hP (hT _ tF_X6_19) dX6_put_83 ?_
        refine lv_sipush (v := 8192) hx hb dX6_put_86 (by decide) ?_
        refine lv_iload_n hx hb dX6_put_89 rfl (lv_at hl 2 rfl) ?_
        obtain ⟨S4, h4, hs⟩ := bv_e hs
        refine kX4_setStackOf C tM_X6_81 ⟨Nat.le_of_ble_eq_true rfl, Nat.le_of_ble_eq_true rfl⟩ ⟨Nat.le_of_ble_eq_true rfl, Nat.le_of_ble_eq_true rfl⟩ hK hP hS hl.1 (rest := []) (Nat.le_of_ble_eq_true rfl) dX6_put_90 h4 (fun H locs hP hS => ?_)
        refine lv_goto (tgt := 105) hx hb dX6_put_93 (by decide) ?_
        exact u_vret hx hb hr hlocks hP hS hs dX6_put_105
      have hs := if_f c6 hs
      refine u_tableD (tgt := 96) hx hb dX6_put_19 (fun hlo hhi => ?_) (by decide) ?_
      · have hz : (x1).toInt = 16 ∨ (x1).toInt = 17 ∨ (x1).toInt = 18 ∨ (x1).toInt = 19 := by omega
        rcases hz with hz | hz | hz | hz
        · exact absurd hz (lv_neT c3 (by decide))
        · exact absurd hz (lv_neT c4 (by decide))
        · exact absurd hz (lv_neT c5 (by decide))
        · exact absurd hz (lv_neT c6 (by decide))
      refine lv_aload_n hx hb dX6_put_96 rfl (lv_at hl 0 rfl) ?_
      refine gB_X6_registers hx hb hT hown hK hP (hT _ tF_X6_19) dX6_put_97 ?_
      refine lv_iload_n hx hb dX6_put_100 rfl (lv_at hl 1 rfl) ?_
      refine lv_iload_n hx hb dX6_put_101 rfl (lv_at hl 2 rfl) ?_
      obtain ⟨S5, h5, hs⟩ := bv_e hs
      refine kX4_set C tM_X6_85 ⟨Nat.le_of_ble_eq_true rfl, Nat.le_of_ble_eq_true rfl⟩ ⟨Nat.le_of_ble_eq_true rfl, Nat.le_of_ble_eq_true rfl⟩ hK hP hS hl.1 (rest := []) (Nat.le_of_ble_eq_true rfl) dX6_put_102 h5 (fun H locs hP hS => ?_)
      exact u_vret hx hb hr hlocks hP hS hs dX6_put_105
    · have hs := if_f c2 hs
      cases hs
theorem kX6_put {p : Program} {l : Launch} {e : Env} {R : Room} {s : State} {m : MethodId} {args : Array Value} {below : List Frame} {meth : Method} {c : Code} {H : Heap} {locs : List Loc} {cells slots : Nat} {Q : State → Prop} {cc : ByteArray} {pc nL : Nat} {ls : Array Slot} {rest : List Value} {D : va_G} {ad : Nat → Nat} {cI cB : ClassId} {en : Nat → Nat} {S : St} {own : String} {index : Nat} {x1 : Int32} {x2 : Int32} {So : St} (C : CallFix p m c cc nL s args wG own) (hlk : Cond.methodLink own index yX6_put ∈ wG) (hR : rmX6_put.frames + 1 ≤ R.frames ∧ 8 + (3 + 11) + rmX6_put.locals ≤ R.locals) (hc : cells ≤ R.cells ∧ slots ≤ R.slots) (hK : KB D ad cI cB en s) (hP : va_P D vwCl (wB ad cI cB S) H) (hS : va_S (AX 10 ad s.heap.size) s.heap H locs) (hls : ls.size = nL) (hrest : (rest.map fun v => v.category).sum ≤ 8) (hd : decode cc pc = .ok (.invokevirtual index, 3)) (hs : fX6_put x1 x2 S = some So) (k : ∀ (H : Heap) (locs : List Loc), va_P D vwCl (wB ad cI cB So) H → va_S (AX 10 ad s.heap.size) s.heap H locs → W p l e R s m args below meth c H locs cells slots Q (F0 m (pc + 3) ls (rest))) : W p l e R s m args below meth c H locs cells slots Q (F0 m pc ls (.int x2 :: .int x1 :: .ref (ad 0) :: rest)) :=
  u_callV (n := 2) (mX6_put l D ad cI cB en S x1 x2 So hs) C uK_B (wg_V hlk tI_X6_put tS_X6_put tN_X6 tK_X6_put) rfl rfl rfl (by decide +kernel) hR rfl (va_recv hK.1 hP (ci := 5) (q0 := 0) rfl rfl) hK hP hS hls hrest hd hc rfl k
def fX6_write (x1 : Int32) (x2 : Int32) (x3 : Int32) (S : St) : Option St :=
    (if x3 = 1 then (bv (fX3_store x1 x2 x3 S) fun S1 => (some S1))
    else (if x3 = 2 then (bv (fX3_store x1 x2 x3 S) fun S2 => (some S2))
    else (if x3 = 4 then (bv (fX3_store x1 x2 x3 S) fun S3 => (some S3))
    else none)))
abbrev rmX6_write : Room := { frames := 1, cells := 0, slots := 0, locals := 25 }
set_option maxRecDepth 100000 in
set_option maxHeartbeats 4000000 in
theorem mX6_write (l : Launch) (D : va_G) (ad : Nat → Nat) (cI cB : ClassId) (en : Nat → Nat) (S : St) (x1 : Int32) (x2 : Int32) (x3 : Int32) (So : St) (hs : fX6_write x1 x2 x3 S = some So) : uM l yX6_write (wg yX6_write cX6_write 4 none) rmX6_write (KB D ad cI cB en) D (wB ad cI cB) (AX 10 ad) [.ref (ad 0), .int x1, .int x2, .int x3] S (none, So) := by
  refine uM_start (by decide) rfl ?_
  intro p e s m below meth c hx hb hr hlocks hml hown hts hK hP
  have hT : ∀ w ∈ wG, w.before _ s = true := fun w h => hts w (List.mem_cons_of_mem _ h)
  have hS : va_S (AX 10 ad s.heap.size) s.heap s.heap [] := va_S.rf
  have hown : s.vm.findClass RX6 = some m.cls := hown
  have C : CallFix p m c cX6_write 4 s _ wG RX6 := ⟨hx, hb, hml, hown, hT⟩
  have hl := lv_entry ([.ref (ad 0), .int x1, .int x2, .int x3]) (n := 4) (Nat.le_of_ble_eq_true rfl)
  rw [lg_entry_eq]
  generalize (lg_sl ([.ref (ad 0), .int x1, .int x2, .int x3]) ++ List.replicate (4 - (lg_sl ([.ref (ad 0), .int x1, .int x2, .int x3])).length) Slot.unset).toArray = ls at hl ⊢
  have hl : lv_has ls 4 [(0, .ref (ad 0)), (1, .int x1), (2, .int x2), (3, .int x3)] := hl
  unfold fX6_write at hs
  refine lv_iload_n hx hb dX6_write_0 rfl (lv_at hl 3 rfl) ?_
  refine lv_iconst (v := 1) hx hb dX6_write_1 (by decide) ?_
  refine lv_icmp_eq (tgt := 23) hx hb dX6_write_2 (by decide) (fun c1 => ?_) (fun c1 => ?_)
  · have hs := if_t c1 hs
    refine lv_aload_n hx hb dX6_write_23 rfl (lv_at hl 0 rfl) ?_
    refine gB_X6_memory hx hb hT hown hK hP (hT _ tF_X6_12) dX6_write_24 ?_
    refine lv_iload_n hx hb dX6_write_27 rfl (lv_at hl 1 rfl) ?_
    refine lv_iload_n hx hb dX6_write_28 rfl (lv_at hl 2 rfl) ?_
    refine lv_iload_n hx hb dX6_write_29 rfl (lv_at hl 3 rfl) ?_
    obtain ⟨S1, h1, hs⟩ := bv_e hs
    refine kX3_store C tM_X6_91 ⟨Nat.le_of_ble_eq_true rfl, Nat.le_of_ble_eq_true rfl⟩ ⟨Nat.le_of_ble_eq_true rfl, Nat.le_of_ble_eq_true rfl⟩ hK hP hS hl.1 (rest := []) (Nat.le_of_ble_eq_true rfl) dX6_write_30 h1 (fun H locs hP hS => ?_)
    exact u_vret hx hb hr hlocks hP hS hs dX6_write_33
  · have hs := if_f c1 hs
    refine lv_iload_n hx hb dX6_write_5 rfl (lv_at hl 3 rfl) ?_
    refine lv_iconst (v := 2) hx hb dX6_write_6 (by decide) ?_
    refine lv_icmp_eq (tgt := 23) hx hb dX6_write_7 (by decide) (fun c2 => ?_) (fun c2 => ?_)
    · have hs := if_t c2 hs
      refine lv_aload_n hx hb dX6_write_23 rfl (lv_at hl 0 rfl) ?_
      refine gB_X6_memory hx hb hT hown hK hP (hT _ tF_X6_12) dX6_write_24 ?_
      refine lv_iload_n hx hb dX6_write_27 rfl (lv_at hl 1 rfl) ?_
      refine lv_iload_n hx hb dX6_write_28 rfl (lv_at hl 2 rfl) ?_
      refine lv_iload_n hx hb dX6_write_29 rfl (lv_at hl 3 rfl) ?_
      obtain ⟨S2, h2, hs⟩ := bv_e hs
      refine kX3_store C tM_X6_91 ⟨Nat.le_of_ble_eq_true rfl, Nat.le_of_ble_eq_true rfl⟩ ⟨Nat.le_of_ble_eq_true rfl, Nat.le_of_ble_eq_true rfl⟩ hK hP hS hl.1 (rest := []) (Nat.le_of_ble_eq_true rfl) dX6_write_30 h2 (fun H locs hP hS => ?_)
      exact u_vret hx hb hr hlocks hP hS hs dX6_write_33
    · have hs := if_f c2 hs
      refine lv_iload_n hx hb dX6_write_10 rfl (lv_at hl 3 rfl) ?_
      refine lv_iconst (v := 4) hx hb dX6_write_11 (by decide) ?_
      refine lv_icmp_eq (tgt := 23) hx hb dX6_write_12 (by decide) (fun c3 => ?_) (fun c3 => ?_)
      · have hs := if_t c3 hs
        refine lv_aload_n hx hb dX6_write_23 rfl (lv_at hl 0 rfl) ?_
        refine gB_X6_memory hx hb hT hown hK hP (hT _ tF_X6_12) dX6_write_24 ?_
        refine lv_iload_n hx hb dX6_write_27 rfl (lv_at hl 1 rfl) ?_
        refine lv_iload_n hx hb dX6_write_28 rfl (lv_at hl 2 rfl) ?_
        refine lv_iload_n hx hb dX6_write_29 rfl (lv_at hl 3 rfl) ?_
        obtain ⟨S3, h3, hs⟩ := bv_e hs
        refine kX3_store C tM_X6_91 ⟨Nat.le_of_ble_eq_true rfl, Nat.le_of_ble_eq_true rfl⟩ ⟨Nat.le_of_ble_eq_true rfl, Nat.le_of_ble_eq_true rfl⟩ hK hP hS hl.1 (rest := []) (Nat.le_of_ble_eq_true rfl) dX6_write_30 h3 (fun H locs hP hS => ?_)
        exact u_vret hx hb hr hlocks hP hS hs dX6_write_33
      · have hs := if_f c3 hs
        cases hs
theorem kX6_write {p : Program} {l : Launch} {e : Env} {R : Room} {s : State} {m : MethodId} {args : Array Value} {below : List Frame} {meth : Method} {c : Code} {H : Heap} {locs : List Loc} {cells slots : Nat} {Q : State → Prop} {cc : ByteArray} {pc nL : Nat} {ls : Array Slot} {rest : List Value} {D : va_G} {ad : Nat → Nat} {cI cB : ClassId} {en : Nat → Nat} {S : St} {own : String} {index : Nat} {x1 : Int32} {x2 : Int32} {x3 : Int32} {So : St} (C : CallFix p m c cc nL s args wG own) (hlk : Cond.methodLink own index yX6_write ∈ wG) (hR : rmX6_write.frames + 1 ≤ R.frames ∧ 8 + (4 + 11) + rmX6_write.locals ≤ R.locals) (hc : cells ≤ R.cells ∧ slots ≤ R.slots) (hK : KB D ad cI cB en s) (hP : va_P D vwCl (wB ad cI cB S) H) (hS : va_S (AX 10 ad s.heap.size) s.heap H locs) (hls : ls.size = nL) (hrest : (rest.map fun v => v.category).sum ≤ 8) (hd : decode cc pc = .ok (.invokevirtual index, 3)) (hs : fX6_write x1 x2 x3 S = some So) (k : ∀ (H : Heap) (locs : List Loc), va_P D vwCl (wB ad cI cB So) H → va_S (AX 10 ad s.heap.size) s.heap H locs → W p l e R s m args below meth c H locs cells slots Q (F0 m (pc + 3) ls (rest))) : W p l e R s m args below meth c H locs cells slots Q (F0 m pc ls (.int x3 :: .int x2 :: .int x1 :: .ref (ad 0) :: rest)) :=
  u_callV (n := 3) (mX6_write l D ad cI cB en S x1 x2 x3 So hs) C uK_B (wg_V hlk tI_X6_write tS_X6_write tN_X6 tK_X6_write) rfl rfl rfl (by decide +kernel) hR rfl (va_recv hK.1 hP (ci := 5) (q0 := 0) rfl rfl) hK hP hS hls hrest hd hc rfl k
def fX6_read (x1 : Int32) (x2 : Int32) (S : St) : Option (Int32 × St) :=
    (if x2 = 1 then (bd (fX3_load x1 x2 S) fun r1 S1 => (some (r1, S1)))
    else (if x2 = 2 then (bd (fX3_load x1 x2 S) fun r2 S2 => (some (r2, S2)))
    else (if x2 = 4 then (bd (fX3_load x1 x2 S) fun r3 S3 => (some (r3, S3)))
    else none)))
abbrev rmX6_read : Room := { frames := 1, cells := 0, slots := 0, locals := 24 }
set_option maxRecDepth 100000 in
set_option maxHeartbeats 4000000 in
theorem mX6_read (l : Launch) (D : va_G) (ad : Nat → Nat) (cI cB : ClassId) (en : Nat → Nat) (S : St) (x1 : Int32) (x2 : Int32) (ro : Int32) (So : St) (hs : fX6_read x1 x2 S = some (ro, So)) : uM l yX6_read (wg yX6_read cX6_read 3 (some .int)) rmX6_read (KB D ad cI cB en) D (wB ad cI cB) (AX 10 ad) [.ref (ad 0), .int x1, .int x2] S (some (.int ro), So) := by
  refine uM_start (by decide) rfl ?_
  intro p e s m below meth c hx hb hr hlocks hml hown hts hK hP
  have hT : ∀ w ∈ wG, w.before _ s = true := fun w h => hts w (List.mem_cons_of_mem _ h)
  have hS : va_S (AX 10 ad s.heap.size) s.heap s.heap [] := va_S.rf
  have hown : s.vm.findClass RX6 = some m.cls := hown
  have C : CallFix p m c cX6_read 3 s _ wG RX6 := ⟨hx, hb, hml, hown, hT⟩
  have hl := lv_entry ([.ref (ad 0), .int x1, .int x2]) (n := 3) (Nat.le_of_ble_eq_true rfl)
  rw [lg_entry_eq]
  generalize (lg_sl ([.ref (ad 0), .int x1, .int x2]) ++ List.replicate (3 - (lg_sl ([.ref (ad 0), .int x1, .int x2])).length) Slot.unset).toArray = ls at hl ⊢
  have hl : lv_has ls 3 [(0, .ref (ad 0)), (1, .int x1), (2, .int x2)] := hl
  unfold fX6_read at hs
  refine lv_iload_n hx hb dX6_read_0 rfl (lv_at hl 2 rfl) ?_
  refine lv_iconst (v := 1) hx hb dX6_read_1 (by decide) ?_
  refine lv_icmp_eq (tgt := 23) hx hb dX6_read_2 (by decide) (fun c1 => ?_) (fun c1 => ?_)
  · have hs := if_t c1 hs
    refine lv_aload_n hx hb dX6_read_23 rfl (lv_at hl 0 rfl) ?_
    refine gB_X6_memory hx hb hT hown hK hP (hT _ tF_X6_12) dX6_read_24 ?_
    refine lv_iload_n hx hb dX6_read_27 rfl (lv_at hl 1 rfl) ?_
    refine lv_iload_n hx hb dX6_read_28 rfl (lv_at hl 2 rfl) ?_
    obtain ⟨r1, S1, h1, hs⟩ := bd_e hs
    refine kX3_load C tM_X6_95 ⟨Nat.le_of_ble_eq_true rfl, Nat.le_of_ble_eq_true rfl⟩ ⟨Nat.le_of_ble_eq_true rfl, Nat.le_of_ble_eq_true rfl⟩ hK hP hS hl.1 (rest := []) (Nat.le_of_ble_eq_true rfl) dX6_read_29 h1 (fun H locs hP hS => ?_)
    exact u_iret hx hb hr hlocks hP hS hs dX6_read_32
  · have hs := if_f c1 hs
    refine lv_iload_n hx hb dX6_read_5 rfl (lv_at hl 2 rfl) ?_
    refine lv_iconst (v := 2) hx hb dX6_read_6 (by decide) ?_
    refine lv_icmp_eq (tgt := 23) hx hb dX6_read_7 (by decide) (fun c2 => ?_) (fun c2 => ?_)
    · have hs := if_t c2 hs
      refine lv_aload_n hx hb dX6_read_23 rfl (lv_at hl 0 rfl) ?_
      refine gB_X6_memory hx hb hT hown hK hP (hT _ tF_X6_12) dX6_read_24 ?_
      refine lv_iload_n hx hb dX6_read_27 rfl (lv_at hl 1 rfl) ?_
      refine lv_iload_n hx hb dX6_read_28 rfl (lv_at hl 2 rfl) ?_
      obtain ⟨r2, S2, h2, hs⟩ := bd_e hs
      refine kX3_load C tM_X6_95 ⟨Nat.le_of_ble_eq_true rfl, Nat.le_of_ble_eq_true rfl⟩ ⟨Nat.le_of_ble_eq_true rfl, Nat.le_of_ble_eq_true rfl⟩ hK hP hS hl.1 (rest := []) (Nat.le_of_ble_eq_true rfl) dX6_read_29 h2 (fun H locs hP hS => ?_)
      exact u_iret hx hb hr hlocks hP hS hs dX6_read_32
    · have hs := if_f c2 hs
      refine lv_iload_n hx hb dX6_read_10 rfl (lv_at hl 2 rfl) ?_
      refine lv_iconst (v := 4) hx hb dX6_read_11 (by decide) ?_
      refine lv_icmp_eq (tgt := 23) hx hb dX6_read_12 (by decide) (fun c3 => ?_) (fun c3 => ?_)
      · have hs := if_t c3 hs
        refine lv_aload_n hx hb dX6_read_23 rfl (lv_at hl 0 rfl) ?_
        refine gB_X6_memory hx hb hT hown hK hP (hT _ tF_X6_12) dX6_read_24 ?_
        refine lv_iload_n hx hb dX6_read_27 rfl (lv_at hl 1 rfl) ?_
        refine lv_iload_n hx hb dX6_read_28 rfl (lv_at hl 2 rfl) ?_
        obtain ⟨r3, S3, h3, hs⟩ := bd_e hs
        refine kX3_load C tM_X6_95 ⟨Nat.le_of_ble_eq_true rfl, Nat.le_of_ble_eq_true rfl⟩ ⟨Nat.le_of_ble_eq_true rfl, Nat.le_of_ble_eq_true rfl⟩ hK hP hS hl.1 (rest := []) (Nat.le_of_ble_eq_true rfl) dX6_read_29 h3 (fun H locs hP hS => ?_)
        exact u_iret hx hb hr hlocks hP hS hs dX6_read_32
      · have hs := if_f c3 hs
        cases hs
theorem kX6_read {p : Program} {l : Launch} {e : Env} {R : Room} {s : State} {m : MethodId} {args : Array Value} {below : List Frame} {meth : Method} {c : Code} {H : Heap} {locs : List Loc} {cells slots : Nat} {Q : State → Prop} {cc : ByteArray} {pc nL : Nat} {ls : Array Slot} {rest : List Value} {D : va_G} {ad : Nat → Nat} {cI cB : ClassId} {en : Nat → Nat} {S : St} {own : String} {index : Nat} {x1 : Int32} {x2 : Int32} {ro : Int32} {So : St} (C : CallFix p m c cc nL s args wG own) (hlk : Cond.methodLink own index yX6_read ∈ wG) (hR : rmX6_read.frames + 1 ≤ R.frames ∧ 8 + (3 + 11) + rmX6_read.locals ≤ R.locals) (hc : cells ≤ R.cells ∧ slots ≤ R.slots) (hK : KB D ad cI cB en s) (hP : va_P D vwCl (wB ad cI cB S) H) (hS : va_S (AX 10 ad s.heap.size) s.heap H locs) (hls : ls.size = nL) (hrest : (rest.map fun v => v.category).sum ≤ 8) (hd : decode cc pc = .ok (.invokevirtual index, 3)) (hs : fX6_read x1 x2 S = some (ro, So)) (k : ∀ (H : Heap) (locs : List Loc), va_P D vwCl (wB ad cI cB So) H → va_S (AX 10 ad s.heap.size) s.heap H locs → W p l e R s m args below meth c H locs cells slots Q (F0 m (pc + 3) ls (.int ro :: rest))) : W p l e R s m args below meth c H locs cells slots Q (F0 m pc ls (.int x2 :: .int x1 :: .ref (ad 0) :: rest)) :=
  u_callV (n := 2) (mX6_read l D ad cI cB en S x1 x2 ro So hs) C uK_B (wg_V hlk tI_X6_read tS_X6_read tN_X6 tK_X6_read) rfl rfl rfl (by decide +kernel) hR rfl (va_recv hK.1 hP (ci := 5) (q0 := 0) rfl rfl) hK hP hS hls hrest hd hc rfl k
def fX6_want (x1 : Int32) (S : St) : Option St :=
    (if x1 < 0 then none
    else (if x1 ≤ 7 then (lt (sI S 0 x1) fun S1 => (some S1))
    else none))
abbrev rmX6_want : Room := { frames := 0, cells := 0, slots := 0, locals := 0 }
set_option maxRecDepth 100000 in
set_option maxHeartbeats 4000000 in
theorem mX6_want (l : Launch) (D : va_G) (ad : Nat → Nat) (cI cB : ClassId) (en : Nat → Nat) (S : St) (x1 : Int32) (So : St) (hs : fX6_want x1 S = some So) : uM l yX6_want (wg yX6_want cX6_want 2 none) rmX6_want (KB D ad cI cB en) D (wB ad cI cB) (AX 10 ad) [.ref (ad 0), .int x1] S (none, So) := by
  refine uM_start (by decide) rfl ?_
  intro p e s m below meth c hx hb hr hlocks hml hown hts hK hP
  have hT : ∀ w ∈ wG, w.before _ s = true := fun w h => hts w (List.mem_cons_of_mem _ h)
  have hS : va_S (AX 10 ad s.heap.size) s.heap s.heap [] := va_S.rf
  have hown : s.vm.findClass RX6 = some m.cls := hown
  have C : CallFix p m c cX6_want 2 s _ wG RX6 := ⟨hx, hb, hml, hown, hT⟩
  have hl := lv_entry ([.ref (ad 0), .int x1]) (n := 2) (Nat.le_of_ble_eq_true rfl)
  rw [lg_entry_eq]
  generalize (lg_sl ([.ref (ad 0), .int x1]) ++ List.replicate (2 - (lg_sl ([.ref (ad 0), .int x1])).length) Slot.unset).toArray = ls at hl ⊢
  have hl : lv_has ls 2 [(0, .ref (ad 0)), (1, .int x1)] := hl
  unfold fX6_want at hs
  refine lv_iload_n hx hb dX6_want_0 rfl (lv_at hl 1 rfl) ?_
  refine lv_if_lt (tgt := 10) hx hb dX6_want_1 (by decide) (fun c1 => ?_) (fun c1 => ?_)
  · have hs := if_t c1 hs
    cases hs
  · have hs := if_f c1 hs
    refine lv_iload_n hx hb dX6_want_4 rfl (lv_at hl 1 rfl) ?_
    refine lv_bipush (v := 7) hx hb dX6_want_5 (by decide) ?_
    refine lv_icmp_le (tgt := 18) hx hb dX6_want_7 (by decide) (fun c2 => ?_) (fun c2 => ?_)
    · have hs := if_t c2 hs
      refine lv_aload_n hx hb dX6_want_18 rfl (lv_at hl 0 rfl) ?_
      refine lv_iload_n hx hb dX6_want_19 rfl (lv_at hl 1 rfl) ?_
      obtain ⟨S1, h1, hs⟩ := lt_e hs
      refine pB_X6_wanted hx hb hT hown hK hP hS (hT _ tF_X6_45) dX6_want_20 (v := x1) h1 (fun H locs hP hS => ?_)
      exact u_vret hx hb hr hlocks hP hS hs dX6_want_23
    · have hs := if_f c2 hs
      cases hs
theorem kX6_want {p : Program} {l : Launch} {e : Env} {R : Room} {s : State} {m : MethodId} {args : Array Value} {below : List Frame} {meth : Method} {c : Code} {H : Heap} {locs : List Loc} {cells slots : Nat} {Q : State → Prop} {cc : ByteArray} {pc nL : Nat} {ls : Array Slot} {rest : List Value} {D : va_G} {ad : Nat → Nat} {cI cB : ClassId} {en : Nat → Nat} {S : St} {own : String} {index : Nat} {x1 : Int32} {So : St} (C : CallFix p m c cc nL s args wG own) (hlk : Cond.methodLink own index yX6_want ∈ wG) (hR : rmX6_want.frames + 1 ≤ R.frames ∧ 8 + (2 + 11) + rmX6_want.locals ≤ R.locals) (hc : cells ≤ R.cells ∧ slots ≤ R.slots) (hK : KB D ad cI cB en s) (hP : va_P D vwCl (wB ad cI cB S) H) (hS : va_S (AX 10 ad s.heap.size) s.heap H locs) (hls : ls.size = nL) (hrest : (rest.map fun v => v.category).sum ≤ 8) (hd : decode cc pc = .ok (.invokevirtual index, 3)) (hs : fX6_want x1 S = some So) (k : ∀ (H : Heap) (locs : List Loc), va_P D vwCl (wB ad cI cB So) H → va_S (AX 10 ad s.heap.size) s.heap H locs → W p l e R s m args below meth c H locs cells slots Q (F0 m (pc + 3) ls (rest))) : W p l e R s m args below meth c H locs cells slots Q (F0 m pc ls (.int x1 :: .ref (ad 0) :: rest)) :=
  u_callV (n := 1) (mX6_want l D ad cI cB en S x1 So hs) C uK_B (wg_V hlk tI_X6_want tS_X6_want tN_X6 tK_X6_want) rfl rfl rfl (by decide +kernel) hR rfl (va_recv hK.1 hP (ci := 5) (q0 := 0) rfl rfl) hK hP hS hls hrest hd hc rfl k
def fX6_enter (x1 : Int32) (S : St) : Option (Bool × St) :=
    (lt ((S.1 3) : Int32) fun v1 => (bv (fX4_setStatus ((v1 &&& (-32769 : Int32)) ||| 8192) S) fun S1 => (bd (fX4_get 15 S1) fun r1 S2 => (if (r1 &&& 1) = 0 then (bv (fX0_push 2 (S2.1 2) S2) fun S3 => (bv (fX0_push 1 v1 S3) fun S4 => (gd (ixo (x1 &&& 63) 64 = true) (gd (ixo (x1 &&& 63) 64 = true) (lt (sA S4 3 (x1 &&& 63).toNatClampNeg ((S4.2.2 3 (x1 &&& 63).toNatClampNeg) + 1)) fun S5 => (gd (ixo 0 64 = true) (gd (ixo 0 64 = true) (lt (sA S5 3 (0 : Int32).toNatClampNeg ((S5.2.2 3 (0 : Int32).toNatClampNeg) + 1)) fun S6 => (some (true, S6))))))))))
    else (lt (sI S2 1 2) fun S7 => (some (false, S7)))))))
abbrev rmX6_enter : Room := { frames := 2, cells := 0, slots := 0, locals := 48 }
set_option maxRecDepth 100000 in
set_option maxHeartbeats 4000000 in
theorem mX6_enter (l : Launch) (D : va_G) (ad : Nat → Nat) (cI cB : ClassId) (en : Nat → Nat) (S : St) (x1 : Int32) (ro : Bool) (So : St) (hs : fX6_enter x1 S = some (ro, So)) : uM l yX6_enter (wg yX6_enter cX6_enter 3 (some .boolean)) rmX6_enter (KB D ad cI cB en) D (wB ad cI cB) (AX 10 ad) [.ref (ad 0), .int x1] S (some (.int (zI ro)), So) := by
  refine uM_start (by decide) rfl ?_
  intro p e s m below meth c hx hb hr hlocks hml hown hts hK hP
  have hT : ∀ w ∈ wG, w.before _ s = true := fun w h => hts w (List.mem_cons_of_mem _ h)
  have hS : va_S (AX 10 ad s.heap.size) s.heap s.heap [] := va_S.rf
  have hown : s.vm.findClass RX6 = some m.cls := hown
  have C : CallFix p m c cX6_enter 3 s _ wG RX6 := ⟨hx, hb, hml, hown, hT⟩
  have hl := lv_entry ([.ref (ad 0), .int x1]) (n := 3) (Nat.le_of_ble_eq_true rfl)
  rw [lg_entry_eq]
  generalize (lg_sl ([.ref (ad 0), .int x1]) ++ List.replicate (3 - (lg_sl ([.ref (ad 0), .int x1])).length) Slot.unset).toArray = ls at hl ⊢
  have hl : lv_has ls 3 [(0, .ref (ad 0)), (1, .int x1)] := hl
  unfold fX6_enter at hs
  refine lv_aload_n hx hb dX6_enter_0 rfl (lv_at hl 0 rfl) ?_
  refine gB_X6_registers hx hb hT hown hK hP (hT _ tF_X6_19) dX6_enter_1 ?_
  refine gB_X4_sr hx hb hT hown hK hP (hT _ tF_X6_67) dX6_enter_4 ?_
  obtain ⟨v1, h1, hs⟩ := lt_e hs
  refine u_top h1 ?_
  refine lv_istore_n (lv' := [(2, .int v1), (0, .ref (ad 0)), (1, .int x1)]) hx hb dX6_enter_7 rfl hl (by decide) rfl (fun ls hl => ?_)
  refine lv_aload_n hx hb dX6_enter_8 rfl (lv_at hl 1 rfl) ?_
  refine gB_X6_registers hx hb hT hown hK hP (hT _ tF_X6_19) dX6_enter_9 ?_
  refine lv_iload_n hx hb dX6_enter_12 rfl (lv_at hl 0 rfl) ?_
  refine lv_ldc (v := (-32769 : Int32)) hx hb hown (hT _ tC_X6_155) dX6_enter_13 ?_
  refine lv_iand hx hb dX6_enter_15 ?_
  refine lv_sipush (v := 8192) hx hb dX6_enter_16 (by decide) ?_
  refine lv_ior hx hb dX6_enter_19 ?_
  obtain ⟨S1, h2, hs⟩ := bv_e hs
  refine kX4_setStatus C tM_X6_77 ⟨Nat.le_of_ble_eq_true rfl, Nat.le_of_ble_eq_true rfl⟩ ⟨Nat.le_of_ble_eq_true rfl, Nat.le_of_ble_eq_true rfl⟩ hK hP hS hl.1 (rest := []) (Nat.le_of_ble_eq_true rfl) dX6_enter_20 h2 (fun H locs hP hS => ?_)
  refine lv_aload_n hx hb dX6_enter_23 rfl (lv_at hl 1 rfl) ?_
  refine gB_X6_registers hx hb hT hown hK hP (hT _ tF_X6_19) dX6_enter_24 ?_
  refine lv_bipush (v := 15) hx hb dX6_enter_27 (by decide) ?_
  obtain ⟨r1, S2, h3, hs⟩ := bd_e hs
  refine kX4_get C tM_X6_74 ⟨Nat.le_of_ble_eq_true rfl, Nat.le_of_ble_eq_true rfl⟩ ⟨Nat.le_of_ble_eq_true rfl, Nat.le_of_ble_eq_true rfl⟩ hK hP hS hl.1 (rest := []) (Nat.le_of_ble_eq_true rfl) dX6_enter_29 h3 (fun H locs hP hS => ?_)
  refine lv_iconst (v := 1) hx hb dX6_enter_32 (by decide) ?_
  refine lv_iand hx hb dX6_enter_33 ?_
  refine lv_if_eq (tgt := 44) hx hb dX6_enter_34 (by decide) (fun c1 => ?_) (fun c1 => ?_)
  · have hs := if_t c1 hs
    refine lv_aload_n hx hb dX6_enter_44 rfl (lv_at hl 1 rfl) ?_
    refine gB_X6_access hx hb hT hown hK hP (hT _ tF_X6_28) dX6_enter_45 ?_
    refine gS_LONG hx hb hown hK hS (hT _ tF_X6_156) dX6_enter_48 ?_
    refine lv_aload_n hx hb dX6_enter_51 rfl (lv_at hl 1 rfl) ?_
    refine gB_X6_registers hx hb hT hown hK hP (hT _ tF_X6_19) dX6_enter_52 ?_
    refine gB_X4_pc hx hb hT hown hK hP (hT _ tF_X6_64) dX6_enter_55 ?_
    obtain ⟨S3, h4, hs⟩ := bv_e hs
    refine kX0_push C tM_X6_162 ⟨Nat.le_of_ble_eq_true rfl, Nat.le_of_ble_eq_true rfl⟩ ⟨Nat.le_of_ble_eq_true rfl, Nat.le_of_ble_eq_true rfl⟩ hK hP hS hl.1 (rest := []) (Nat.le_of_ble_eq_true rfl) dX6_enter_58 h4 (fun H locs hP hS => ?_)
    refine lv_aload_n hx hb dX6_enter_61 rfl (lv_at hl 1 rfl) ?_
    refine gB_X6_access hx hb hT hown hK hP (hT _ tF_X6_28) dX6_enter_62 ?_
    refine gS_WORD hx hb hown hK hS (hT _ tF_X6_166) dX6_enter_65 ?_
    refine lv_iload_n hx hb dX6_enter_68 rfl (lv_at hl 0 rfl) ?_
    obtain ⟨S4, h5, hs⟩ := bv_e hs
    refine kX0_push C tM_X6_162 ⟨Nat.le_of_ble_eq_true rfl, Nat.le_of_ble_eq_true rfl⟩ ⟨Nat.le_of_ble_eq_true rfl, Nat.le_of_ble_eq_true rfl⟩ hK hP hS hl.1 (rest := []) (Nat.le_of_ble_eq_true rfl) dX6_enter_69 h5 (fun H locs hP hS => ?_)
    refine lv_aload_n hx hb dX6_enter_72 rfl (lv_at hl 1 rfl) ?_
    refine gB_X6_counts hx hb hT hown hK hP (hT _ tF_X6_41) dX6_enter_73 ?_
    refine lv_iload_n hx hb dX6_enter_76 rfl (lv_at hl 2 rfl) ?_
    refine lv_bipush (v := 63) hx hb dX6_enter_77 (by decide) ?_
    refine lv_iand hx hb dX6_enter_79 ?_
    refine lv_dup2_11 hx hb dX6_enter_80 rfl rfl ?_
    obtain ⟨h6, hs⟩ := gd_e hs
    refine lB_counts hx hb hK hP (ixo_in h6) dX6_enter_81 ?_
    refine lv_iconst (v := 1) hx hb dX6_enter_82 (by decide) ?_
    refine lv_iadd hx hb dX6_enter_83 ?_
    obtain ⟨h7, hs⟩ := gd_e hs
    obtain ⟨S5, h8, hs⟩ := lt_e hs
    refine sB_counts hx hb hK hP hS (v := ((S4.2.2 3 (x1 &&& 63).toNatClampNeg) + 1)) (ixo_in h7) dX6_enter_84 h8 (fun H locs hP hS => ?_)
    refine lv_aload_n hx hb dX6_enter_85 rfl (lv_at hl 1 rfl) ?_
    refine gB_X6_counts hx hb hT hown hK hP (hT _ tF_X6_41) dX6_enter_86 ?_
    refine lv_iconst (v := 0) hx hb dX6_enter_89 (by decide) ?_
    refine lv_dup2_11 hx hb dX6_enter_90 rfl rfl ?_
    obtain ⟨h9, hs⟩ := gd_e hs
    refine lB_counts hx hb hK hP (ixo_in h9) dX6_enter_91 ?_
    refine lv_iconst (v := 1) hx hb dX6_enter_92 (by decide) ?_
    refine lv_iadd hx hb dX6_enter_93 ?_
    obtain ⟨h10, hs⟩ := gd_e hs
    obtain ⟨S6, h11, hs⟩ := lt_e hs
    refine sB_counts hx hb hK hP hS (v := ((S5.2.2 3 (0 : Int32).toNatClampNeg) + 1)) (ixo_in h10) dX6_enter_94 h11 (fun H locs hP hS => ?_)
    refine lv_iconst (v := 1) hx hb dX6_enter_95 (by decide) ?_
    exact u_zret (v := true) hx hb hr hlocks hP hS hs dX6_enter_96
  · have hs := if_f c1 hs
    refine lv_aload_n hx hb dX6_enter_37 rfl (lv_at hl 1 rfl) ?_
    refine lv_iconst (v := 2) hx hb dX6_enter_38 (by decide) ?_
    obtain ⟨S7, h12, hs⟩ := lt_e hs
    refine pB_X6_phase hx hb hT hown hK hP hS (hT _ tF_X6_49) dX6_enter_39 (v := 2) h12 (fun H locs hP hS => ?_)
    refine lv_iconst (v := 0) hx hb dX6_enter_42 (by decide) ?_
    exact u_zret (v := false) hx hb hr hlocks hP hS hs dX6_enter_43
theorem kX6_enter {p : Program} {l : Launch} {e : Env} {R : Room} {s : State} {m : MethodId} {args : Array Value} {below : List Frame} {meth : Method} {c : Code} {H : Heap} {locs : List Loc} {cells slots : Nat} {Q : State → Prop} {cc : ByteArray} {pc nL : Nat} {ls : Array Slot} {rest : List Value} {D : va_G} {ad : Nat → Nat} {cI cB : ClassId} {en : Nat → Nat} {S : St} {own : String} {index : Nat} {x1 : Int32} {ro : Bool} {So : St} (C : CallFix p m c cc nL s args wG own) (hlk : Cond.methodLink own index yX6_enter ∈ wG) (hR : rmX6_enter.frames + 1 ≤ R.frames ∧ 8 + (3 + 11) + rmX6_enter.locals ≤ R.locals) (hc : cells ≤ R.cells ∧ slots ≤ R.slots) (hK : KB D ad cI cB en s) (hP : va_P D vwCl (wB ad cI cB S) H) (hS : va_S (AX 10 ad s.heap.size) s.heap H locs) (hls : ls.size = nL) (hrest : (rest.map fun v => v.category).sum ≤ 8) (hd : decode cc pc = .ok (.invokevirtual index, 3)) (hs : fX6_enter x1 S = some (ro, So)) (k : ∀ (H : Heap) (locs : List Loc), va_P D vwCl (wB ad cI cB So) H → va_S (AX 10 ad s.heap.size) s.heap H locs → W p l e R s m args below meth c H locs cells slots Q (F0 m (pc + 3) ls (.int (zI ro) :: rest))) : W p l e R s m args below meth c H locs cells slots Q (F0 m pc ls (.int x1 :: .ref (ad 0) :: rest)) :=
  u_callV (n := 1) (mX6_enter l D ad cI cB en S x1 ro So hs) C uK_B (wg_V hlk tI_X6_enter tS_X6_enter tN_X6 tK_X6_enter) rfl rfl rfl (by decide +kernel) hR rfl (va_recv hK.1 hP (ci := 5) (q0 := 0) rfl rfl) hK hP hS hls hrest hd hc rfl k
def fX6_leaveFor (x1 : Int32) (S : St) : Option St :=
    (bd (fX3_load (4 * x1) 4 S) fun r1 S1 => (lt (sI S1 2 r1) fun S2 => (some S2)))
abbrev rmX6_leaveFor : Room := { frames := 1, cells := 0, slots := 0, locals := 24 }
set_option maxRecDepth 100000 in
set_option maxHeartbeats 4000000 in
theorem mX6_leaveFor (l : Launch) (D : va_G) (ad : Nat → Nat) (cI cB : ClassId) (en : Nat → Nat) (S : St) (x1 : Int32) (So : St) (hs : fX6_leaveFor x1 S = some So) : uM l yX6_leaveFor (wg yX6_leaveFor cX6_leaveFor 2 none) rmX6_leaveFor (KB D ad cI cB en) D (wB ad cI cB) (AX 10 ad) [.ref (ad 0), .int x1] S (none, So) := by
  refine uM_start (by decide) rfl ?_
  intro p e s m below meth c hx hb hr hlocks hml hown hts hK hP
  have hT : ∀ w ∈ wG, w.before _ s = true := fun w h => hts w (List.mem_cons_of_mem _ h)
  have hS : va_S (AX 10 ad s.heap.size) s.heap s.heap [] := va_S.rf
  have hown : s.vm.findClass RX6 = some m.cls := hown
  have C : CallFix p m c cX6_leaveFor 2 s _ wG RX6 := ⟨hx, hb, hml, hown, hT⟩
  have hl := lv_entry ([.ref (ad 0), .int x1]) (n := 2) (Nat.le_of_ble_eq_true rfl)
  rw [lg_entry_eq]
  generalize (lg_sl ([.ref (ad 0), .int x1]) ++ List.replicate (2 - (lg_sl ([.ref (ad 0), .int x1])).length) Slot.unset).toArray = ls at hl ⊢
  have hl : lv_has ls 2 [(0, .ref (ad 0)), (1, .int x1)] := hl
  unfold fX6_leaveFor at hs
  refine lv_aload_n hx hb dX6_leaveFor_0 rfl (lv_at hl 0 rfl) ?_
  refine gB_X6_registers hx hb hT hown hK hP (hT _ tF_X6_19) dX6_leaveFor_1 ?_
  refine lv_aload_n hx hb dX6_leaveFor_4 rfl (lv_at hl 0 rfl) ?_
  refine gB_X6_memory hx hb hT hown hK hP (hT _ tF_X6_12) dX6_leaveFor_5 ?_
  refine lv_iconst (v := 4) hx hb dX6_leaveFor_8 (by decide) ?_
  refine lv_iload_n hx hb dX6_leaveFor_9 rfl (lv_at hl 1 rfl) ?_
  refine lv_imul hx hb dX6_leaveFor_10 ?_
  refine lv_iconst (v := 4) hx hb dX6_leaveFor_11 (by decide) ?_
  obtain ⟨r1, S1, h1, hs⟩ := bd_e hs
  refine kX3_load C tM_X6_95 ⟨Nat.le_of_ble_eq_true rfl, Nat.le_of_ble_eq_true rfl⟩ ⟨Nat.le_of_ble_eq_true rfl, Nat.le_of_ble_eq_true rfl⟩ hK hP hS hl.1 (rest := [.ref (ad 2)]) (Nat.le_of_ble_eq_true rfl) dX6_leaveFor_12 h1 (fun H locs hP hS => ?_)
  obtain ⟨S2, h2, hs⟩ := lt_e hs
  refine pB_X4_pc hx hb hT hown hK hP hS (hT _ tF_X6_64) dX6_leaveFor_15 (v := r1) h2 (fun H locs hP hS => ?_)
  exact u_vret hx hb hr hlocks hP hS hs dX6_leaveFor_18
theorem kX6_leaveFor {p : Program} {l : Launch} {e : Env} {R : Room} {s : State} {m : MethodId} {args : Array Value} {below : List Frame} {meth : Method} {c : Code} {H : Heap} {locs : List Loc} {cells slots : Nat} {Q : State → Prop} {cc : ByteArray} {pc nL : Nat} {ls : Array Slot} {rest : List Value} {D : va_G} {ad : Nat → Nat} {cI cB : ClassId} {en : Nat → Nat} {S : St} {own : String} {index : Nat} {x1 : Int32} {So : St} (C : CallFix p m c cc nL s args wG own) (hlk : Cond.methodLink own index yX6_leaveFor ∈ wG) (hR : rmX6_leaveFor.frames + 1 ≤ R.frames ∧ 8 + (2 + 11) + rmX6_leaveFor.locals ≤ R.locals) (hc : cells ≤ R.cells ∧ slots ≤ R.slots) (hK : KB D ad cI cB en s) (hP : va_P D vwCl (wB ad cI cB S) H) (hS : va_S (AX 10 ad s.heap.size) s.heap H locs) (hls : ls.size = nL) (hrest : (rest.map fun v => v.category).sum ≤ 8) (hd : decode cc pc = .ok (.invokevirtual index, 3)) (hs : fX6_leaveFor x1 S = some So) (k : ∀ (H : Heap) (locs : List Loc), va_P D vwCl (wB ad cI cB So) H → va_S (AX 10 ad s.heap.size) s.heap H locs → W p l e R s m args below meth c H locs cells slots Q (F0 m (pc + 3) ls (rest))) : W p l e R s m args below meth c H locs cells slots Q (F0 m pc ls (.int x1 :: .ref (ad 0) :: rest)) :=
  u_callV (n := 1) (mX6_leaveFor l D ad cI cB en S x1 So hs) C uK_B (wg_V hlk tI_X6_leaveFor tS_X6_leaveFor tN_X6 tK_X6_leaveFor) rfl rfl rfl (by decide +kernel) hR rfl (va_recv hK.1 hP (ci := 5) (q0 := 0) rfl rfl) hK hP hS hls hrest hd hc rfl k
def fX6_interrupt  (S : St) : Option St :=
    (lt ((S.1 0) : Int32) fun v1 => (lt (sI S 0 0) fun S1 => (lt (sI S1 1 0) fun S2 => (bd (fX6_enter (24 + v1) S2) fun b1 S3 => (if (zI b1) = 0 then (some S3)
    else (bv (fX6_leaveFor (24 + v1) S3) fun S4 => (bv (fX4_setStatus (((S4.1 3) &&& (-1793 : Int32)) ||| (v1 <<< ((8 : Int32) &&& 31))) S4) fun S5 => (some S5))))))))
abbrev rmX6_interrupt : Room := { frames := 3, cells := 0, slots := 0, locals := 70 }
set_option maxRecDepth 100000 in
set_option maxHeartbeats 4000000 in
theorem mX6_interrupt (l : Launch) (D : va_G) (ad : Nat → Nat) (cI cB : ClassId) (en : Nat → Nat) (S : St)  (So : St) (hs : fX6_interrupt  S = some So) : uM l yX6_interrupt (wg yX6_interrupt cX6_interrupt 2 none) rmX6_interrupt (KB D ad cI cB en) D (wB ad cI cB) (AX 10 ad) [.ref (ad 0)] S (none, So) := by
  refine uM_start (by decide) rfl ?_
  intro p e s m below meth c hx hb hr hlocks hml hown hts hK hP
  have hT : ∀ w ∈ wG, w.before _ s = true := fun w h => hts w (List.mem_cons_of_mem _ h)
  have hS : va_S (AX 10 ad s.heap.size) s.heap s.heap [] := va_S.rf
  have hown : s.vm.findClass RX6 = some m.cls := hown
  have C : CallFix p m c cX6_interrupt 2 s _ wG RX6 := ⟨hx, hb, hml, hown, hT⟩
  have hl := lv_entry ([.ref (ad 0)]) (n := 2) (Nat.le_of_ble_eq_true rfl)
  rw [lg_entry_eq]
  generalize (lg_sl ([.ref (ad 0)]) ++ List.replicate (2 - (lg_sl ([.ref (ad 0)])).length) Slot.unset).toArray = ls at hl ⊢
  have hl : lv_has ls 2 [(0, .ref (ad 0))] := hl
  unfold fX6_interrupt at hs
  refine lv_aload_n hx hb dX6_interrupt_0 rfl (lv_at hl 0 rfl) ?_
  refine gB_X6_wanted hx hb hT hown hK hP (hT _ tF_X6_45) dX6_interrupt_1 ?_
  obtain ⟨v1, h1, hs⟩ := lt_e hs
  refine u_top h1 ?_
  refine lv_istore_n (lv' := [(1, .int v1), (0, .ref (ad 0))]) hx hb dX6_interrupt_4 rfl hl (by decide) rfl (fun ls hl => ?_)
  refine lv_aload_n hx hb dX6_interrupt_5 rfl (lv_at hl 1 rfl) ?_
  refine lv_iconst (v := 0) hx hb dX6_interrupt_6 (by decide) ?_
  obtain ⟨S1, h2, hs⟩ := lt_e hs
  refine pB_X6_wanted hx hb hT hown hK hP hS (hT _ tF_X6_45) dX6_interrupt_7 (v := 0) h2 (fun H locs hP hS => ?_)
  refine lv_aload_n hx hb dX6_interrupt_10 rfl (lv_at hl 1 rfl) ?_
  refine lv_iconst (v := 0) hx hb dX6_interrupt_11 (by decide) ?_
  obtain ⟨S2, h3, hs⟩ := lt_e hs
  refine pB_X6_phase hx hb hT hown hK hP hS (hT _ tF_X6_49) dX6_interrupt_12 (v := 0) h3 (fun H locs hP hS => ?_)
  refine lv_aload_n hx hb dX6_interrupt_15 rfl (lv_at hl 1 rfl) ?_
  refine lv_bipush (v := 24) hx hb dX6_interrupt_16 (by decide) ?_
  refine lv_iload_n hx hb dX6_interrupt_18 rfl (lv_at hl 0 rfl) ?_
  refine lv_iadd hx hb dX6_interrupt_19 ?_
  obtain ⟨b1, S3, h4, hs⟩ := bd_e hs
  refine kX6_enter C tM_X6_131 ⟨Nat.le_of_ble_eq_true rfl, Nat.le_of_ble_eq_true rfl⟩ ⟨Nat.le_of_ble_eq_true rfl, Nat.le_of_ble_eq_true rfl⟩ hK hP hS hl.1 (rest := []) (Nat.le_of_ble_eq_true rfl) dX6_interrupt_20 h4 (fun H locs hP hS => ?_)
  refine lv_if_eq (tgt := 57) hx hb dX6_interrupt_23 (by decide) (fun c1 => ?_) (fun c1 => ?_)
  · have hs := if_t c1 hs
    exact u_vret hx hb hr hlocks hP hS hs dX6_interrupt_57
  · have hs := if_f c1 hs
    refine lv_aload_n hx hb dX6_interrupt_26 rfl (lv_at hl 1 rfl) ?_
    refine lv_bipush (v := 24) hx hb dX6_interrupt_27 (by decide) ?_
    refine lv_iload_n hx hb dX6_interrupt_29 rfl (lv_at hl 0 rfl) ?_
    refine lv_iadd hx hb dX6_interrupt_30 ?_
    obtain ⟨S4, h5, hs⟩ := bv_e hs
    refine kX6_leaveFor C tM_X6_134 ⟨Nat.le_of_ble_eq_true rfl, Nat.le_of_ble_eq_true rfl⟩ ⟨Nat.le_of_ble_eq_true rfl, Nat.le_of_ble_eq_true rfl⟩ hK hP hS hl.1 (rest := []) (Nat.le_of_ble_eq_true rfl) dX6_interrupt_31 h5 (fun H locs hP hS => ?_)
    refine lv_aload_n hx hb dX6_interrupt_34 rfl (lv_at hl 1 rfl) ?_
    refine gB_X6_registers hx hb hT hown hK hP (hT _ tF_X6_19) dX6_interrupt_35 ?_
    refine lv_aload_n hx hb dX6_interrupt_38 rfl (lv_at hl 1 rfl) ?_
    refine gB_X6_registers hx hb hT hown hK hP (hT _ tF_X6_19) dX6_interrupt_39 ?_
    refine gB_X4_sr hx hb hT hown hK hP (hT _ tF_X6_67) dX6_interrupt_42 ?_
    refine lv_sipush (v := (-1793 : Int32)) hx hb dX6_interrupt_45 (by decide) ?_
    refine lv_iand hx hb dX6_interrupt_48 ?_
    refine lv_iload_n hx hb dX6_interrupt_49 rfl (lv_at hl 0 rfl) ?_
    refine lv_bipush (v := 8) hx hb dX6_interrupt_50 (by decide) ?_
    refine lv_ishl hx hb dX6_interrupt_52 ?_
    refine lv_ior hx hb dX6_interrupt_53 ?_
    obtain ⟨S5, h6, hs⟩ := bv_e hs
    refine kX4_setStatus C tM_X6_77 ⟨Nat.le_of_ble_eq_true rfl, Nat.le_of_ble_eq_true rfl⟩ ⟨Nat.le_of_ble_eq_true rfl, Nat.le_of_ble_eq_true rfl⟩ hK hP hS hl.1 (rest := []) (Nat.le_of_ble_eq_true rfl) dX6_interrupt_54 h6 (fun H locs hP hS => ?_)
    exact u_vret hx hb hr hlocks hP hS hs dX6_interrupt_57
theorem kX6_interrupt {p : Program} {l : Launch} {e : Env} {R : Room} {s : State} {m : MethodId} {args : Array Value} {below : List Frame} {meth : Method} {c : Code} {H : Heap} {locs : List Loc} {cells slots : Nat} {Q : State → Prop} {cc : ByteArray} {pc nL : Nat} {ls : Array Slot} {rest : List Value} {D : va_G} {ad : Nat → Nat} {cI cB : ClassId} {en : Nat → Nat} {S : St} {own : String} {index : Nat}  {So : St} (C : CallFix p m c cc nL s args wG own) (hlk : Cond.methodLink own index yX6_interrupt ∈ wG) (hR : rmX6_interrupt.frames + 1 ≤ R.frames ∧ 8 + (2 + 11) + rmX6_interrupt.locals ≤ R.locals) (hc : cells ≤ R.cells ∧ slots ≤ R.slots) (hK : KB D ad cI cB en s) (hP : va_P D vwCl (wB ad cI cB S) H) (hS : va_S (AX 10 ad s.heap.size) s.heap H locs) (hls : ls.size = nL) (hrest : (rest.map fun v => v.category).sum ≤ 8) (hd : decode cc pc = .ok (.invokevirtual index, 3)) (hs : fX6_interrupt  S = some So) (k : ∀ (H : Heap) (locs : List Loc), va_P D vwCl (wB ad cI cB So) H → va_S (AX 10 ad s.heap.size) s.heap H locs → W p l e R s m args below meth c H locs cells slots Q (F0 m (pc + 3) ls (rest))) : W p l e R s m args below meth c H locs cells slots Q (F0 m pc ls (.ref (ad 0) :: rest)) :=
  u_callV (n := 0) (mX6_interrupt l D ad cI cB en S  So hs) C uK_B (wg_V hlk tI_X6_interrupt tS_X6_interrupt tN_X6 tK_X6_interrupt) rfl rfl rfl (by decide +kernel) hR rfl (va_recv hK.1 hP (ci := 5) (q0 := 0) rfl rfl) hK hP hS hls hrest hd hc rfl k
def fX6_undoes (x0 : Int32) (S : St) : Option (Bool × St) :=
    (if x0 = 3 then (some (true, S))
    else (if x0 = 4 then (some (true, S))
    else (if x0 = 8 then (some (true, S))
    else (if x0 = 10 then (some (true, S))
    else (if x0 = 11 then (some (true, S))
    else (some (false, S)))))))
abbrev rmX6_undoes : Room := { frames := 0, cells := 0, slots := 0, locals := 0 }
set_option maxRecDepth 100000 in
set_option maxHeartbeats 4000000 in
theorem mX6_undoes (l : Launch) (D : va_G) (ad : Nat → Nat) (cI cB : ClassId) (en : Nat → Nat) (S : St) (x0 : Int32) (ro : Bool) (So : St) (hs : fX6_undoes x0 S = some (ro, So)) : uM l yX6_undoes (wg yX6_undoes cX6_undoes 1 (some .boolean)) rmX6_undoes (KB D ad cI cB en) D (wB ad cI cB) (AX 10 ad) [.int x0] S (some (.int (zI ro)), So) := by
  refine uM_start (by decide) rfl ?_
  intro p e s m below meth c hx hb hr hlocks hml hown hts hK hP
  have hT : ∀ w ∈ wG, w.before _ s = true := fun w h => hts w (List.mem_cons_of_mem _ h)
  have hS : va_S (AX 10 ad s.heap.size) s.heap s.heap [] := va_S.rf
  have hown : s.vm.findClass RX6 = some m.cls := hown
  have C : CallFix p m c cX6_undoes 1 s _ wG RX6 := ⟨hx, hb, hml, hown, hT⟩
  have hl := lv_entry ([.int x0]) (n := 1) (Nat.le_of_ble_eq_true rfl)
  rw [lg_entry_eq]
  generalize (lg_sl ([.int x0]) ++ List.replicate (1 - (lg_sl ([.int x0])).length) Slot.unset).toArray = ls at hl ⊢
  have hl : lv_has ls 1 [(0, .int x0)] := hl
  unfold fX6_undoes at hs
  refine lv_iload_n hx hb dX6_undoes_0 rfl (lv_at hl 0 rfl) ?_
  refine lv_iconst (v := 3) hx hb dX6_undoes_1 (by decide) ?_
  refine lv_icmp_eq (tgt := 28) hx hb dX6_undoes_2 (by decide) (fun c1 => ?_) (fun c1 => ?_)
  · have hs := if_t c1 hs
    refine lv_iconst (v := 1) hx hb dX6_undoes_28 (by decide) ?_
    refine lv_goto (tgt := 33) hx hb dX6_undoes_29 (by decide) ?_
    exact u_zret (v := true) hx hb hr hlocks hP hS hs dX6_undoes_33
  · have hs := if_f c1 hs
    refine lv_iload_n hx hb dX6_undoes_5 rfl (lv_at hl 0 rfl) ?_
    refine lv_iconst (v := 4) hx hb dX6_undoes_6 (by decide) ?_
    refine lv_icmp_eq (tgt := 28) hx hb dX6_undoes_7 (by decide) (fun c2 => ?_) (fun c2 => ?_)
    · have hs := if_t c2 hs
      refine lv_iconst (v := 1) hx hb dX6_undoes_28 (by decide) ?_
      refine lv_goto (tgt := 33) hx hb dX6_undoes_29 (by decide) ?_
      exact u_zret (v := true) hx hb hr hlocks hP hS hs dX6_undoes_33
    · have hs := if_f c2 hs
      refine lv_iload_n hx hb dX6_undoes_10 rfl (lv_at hl 0 rfl) ?_
      refine lv_bipush (v := 8) hx hb dX6_undoes_11 (by decide) ?_
      refine lv_icmp_eq (tgt := 28) hx hb dX6_undoes_13 (by decide) (fun c3 => ?_) (fun c3 => ?_)
      · have hs := if_t c3 hs
        refine lv_iconst (v := 1) hx hb dX6_undoes_28 (by decide) ?_
        refine lv_goto (tgt := 33) hx hb dX6_undoes_29 (by decide) ?_
        exact u_zret (v := true) hx hb hr hlocks hP hS hs dX6_undoes_33
      · have hs := if_f c3 hs
        refine lv_iload_n hx hb dX6_undoes_16 rfl (lv_at hl 0 rfl) ?_
        refine lv_bipush (v := 10) hx hb dX6_undoes_17 (by decide) ?_
        refine lv_icmp_eq (tgt := 28) hx hb dX6_undoes_19 (by decide) (fun c4 => ?_) (fun c4 => ?_)
        · have hs := if_t c4 hs
          refine lv_iconst (v := 1) hx hb dX6_undoes_28 (by decide) ?_
          refine lv_goto (tgt := 33) hx hb dX6_undoes_29 (by decide) ?_
          exact u_zret (v := true) hx hb hr hlocks hP hS hs dX6_undoes_33
        · have hs := if_f c4 hs
          refine lv_iload_n hx hb dX6_undoes_22 rfl (lv_at hl 0 rfl) ?_
          refine lv_bipush (v := 11) hx hb dX6_undoes_23 (by decide) ?_
          refine lv_icmp_ne (tgt := 32) hx hb dX6_undoes_25 (by decide) (fun c5 => ?_) (fun c5 => ?_)
          · have hs := if_f c5 hs
            refine lv_iconst (v := 0) hx hb dX6_undoes_32 (by decide) ?_
            exact u_zret (v := false) hx hb hr hlocks hP hS hs dX6_undoes_33
          · have hs := if_t c5 hs
            refine lv_iconst (v := 1) hx hb dX6_undoes_28 (by decide) ?_
            refine lv_goto (tgt := 33) hx hb dX6_undoes_29 (by decide) ?_
            exact u_zret (v := true) hx hb hr hlocks hP hS hs dX6_undoes_33
theorem kX6_undoes {p : Program} {l : Launch} {e : Env} {R : Room} {s : State} {m : MethodId} {args : Array Value} {below : List Frame} {meth : Method} {c : Code} {H : Heap} {locs : List Loc} {cells slots : Nat} {Q : State → Prop} {cc : ByteArray} {pc nL : Nat} {ls : Array Slot} {rest : List Value} {D : va_G} {ad : Nat → Nat} {cI cB : ClassId} {en : Nat → Nat} {S : St} {own : String} {index : Nat} {x0 : Int32} {ro : Bool} {So : St} (C : CallFix p m c cc nL s args wG own) (hlk : Cond.methodLink own index yX6_undoes ∈ wG) (hR : rmX6_undoes.frames + 1 ≤ R.frames ∧ 8 + (1 + 11) + rmX6_undoes.locals ≤ R.locals) (hc : cells ≤ R.cells ∧ slots ≤ R.slots) (hK : KB D ad cI cB en s) (hP : va_P D vwCl (wB ad cI cB S) H) (hS : va_S (AX 10 ad s.heap.size) s.heap H locs) (hls : ls.size = nL) (hrest : (rest.map fun v => v.category).sum ≤ 8) (hd : decode cc pc = .ok (.invokestatic index, 3)) (hs : fX6_undoes x0 S = some (ro, So)) (k : ∀ (H : Heap) (locs : List Loc), va_P D vwCl (wB ad cI cB So) H → va_S (AX 10 ad s.heap.size) s.heap H locs → W p l e R s m args below meth c H locs cells slots Q (F0 m (pc + 3) ls (.int (zI ro) :: rest))) : W p l e R s m args below meth c H locs cells slots Q (F0 m pc ls (.int x0 :: rest)) :=
  u_callS (n := 1) (mX6_undoes l D ad cI cB en S x0 ro So hs) C uK_B (wg_S hlk tI_X6_undoes tN_X6 tK_X6_undoes) rfl rfl rfl (by decide +kernel) hR rfl hK hP hS hls hrest hd hc rfl k
def fX6_pushFault (x1 : Int32) (x2 : Int32) (x3 : Int32) (S : St) : Option St :=
    (if x1 = 3 then (bv (fX0_push 1 x2 S) fun S1 => (bv (fX0_push 2 x3 S1) fun S2 => (bv (fX0_push 1 0 S2) fun S3 => (some S3))))
    else (some S))
abbrev rmX6_pushFault : Room := { frames := 2, cells := 0, slots := 0, locals := 48 }
set_option maxRecDepth 100000 in
set_option maxHeartbeats 4000000 in
theorem mX6_pushFault (l : Launch) (D : va_G) (ad : Nat → Nat) (cI cB : ClassId) (en : Nat → Nat) (S : St) (x1 : Int32) (x2 : Int32) (x3 : Int32) (So : St) (hs : fX6_pushFault x1 x2 x3 S = some So) : uM l yX6_pushFault (wg yX6_pushFault cX6_pushFault 4 none) rmX6_pushFault (KB D ad cI cB en) D (wB ad cI cB) (AX 10 ad) [.ref (ad 0), .int x1, .int x2, .int x3] S (none, So) := by
  refine uM_start (by decide) rfl ?_
  intro p e s m below meth c hx hb hr hlocks hml hown hts hK hP
  have hT : ∀ w ∈ wG, w.before _ s = true := fun w h => hts w (List.mem_cons_of_mem _ h)
  have hS : va_S (AX 10 ad s.heap.size) s.heap s.heap [] := va_S.rf
  have hown : s.vm.findClass RX6 = some m.cls := hown
  have C : CallFix p m c cX6_pushFault 4 s _ wG RX6 := ⟨hx, hb, hml, hown, hT⟩
  have hl := lv_entry ([.ref (ad 0), .int x1, .int x2, .int x3]) (n := 4) (Nat.le_of_ble_eq_true rfl)
  rw [lg_entry_eq]
  generalize (lg_sl ([.ref (ad 0), .int x1, .int x2, .int x3]) ++ List.replicate (4 - (lg_sl ([.ref (ad 0), .int x1, .int x2, .int x3])).length) Slot.unset).toArray = ls at hl ⊢
  have hl : lv_has ls 4 [(0, .ref (ad 0)), (1, .int x1), (2, .int x2), (3, .int x3)] := hl
  unfold fX6_pushFault at hs
  refine lv_iload_n hx hb dX6_pushFault_0 rfl (lv_at hl 1 rfl) ?_
  refine lv_iconst (v := 3) hx hb dX6_pushFault_1 (by decide) ?_
  refine lv_icmp_ne (tgt := 38) hx hb dX6_pushFault_2 (by decide) (fun c1 => ?_) (fun c1 => ?_)
  · have hs := if_f c1 hs
    exact u_vret hx hb hr hlocks hP hS hs dX6_pushFault_38
  · have hs := if_t c1 hs
    refine lv_aload_n hx hb dX6_pushFault_5 rfl (lv_at hl 0 rfl) ?_
    refine gB_X6_access hx hb hT hown hK hP (hT _ tF_X6_28) dX6_pushFault_6 ?_
    refine gS_WORD hx hb hown hK hS (hT _ tF_X6_166) dX6_pushFault_9 ?_
    refine lv_iload_n hx hb dX6_pushFault_12 rfl (lv_at hl 2 rfl) ?_
    obtain ⟨S1, h1, hs⟩ := bv_e hs
    refine kX0_push C tM_X6_162 ⟨Nat.le_of_ble_eq_true rfl, Nat.le_of_ble_eq_true rfl⟩ ⟨Nat.le_of_ble_eq_true rfl, Nat.le_of_ble_eq_true rfl⟩ hK hP hS hl.1 (rest := []) (Nat.le_of_ble_eq_true rfl) dX6_pushFault_13 h1 (fun H locs hP hS => ?_)
    refine lv_aload_n hx hb dX6_pushFault_16 rfl (lv_at hl 0 rfl) ?_
    refine gB_X6_access hx hb hT hown hK hP (hT _ tF_X6_28) dX6_pushFault_17 ?_
    refine gS_LONG hx hb hown hK hS (hT _ tF_X6_156) dX6_pushFault_20 ?_
    refine lv_iload_n hx hb dX6_pushFault_23 rfl (lv_at hl 3 rfl) ?_
    obtain ⟨S2, h2, hs⟩ := bv_e hs
    refine kX0_push C tM_X6_162 ⟨Nat.le_of_ble_eq_true rfl, Nat.le_of_ble_eq_true rfl⟩ ⟨Nat.le_of_ble_eq_true rfl, Nat.le_of_ble_eq_true rfl⟩ hK hP hS hl.1 (rest := []) (Nat.le_of_ble_eq_true rfl) dX6_pushFault_24 h2 (fun H locs hP hS => ?_)
    refine lv_aload_n hx hb dX6_pushFault_27 rfl (lv_at hl 0 rfl) ?_
    refine gB_X6_access hx hb hT hown hK hP (hT _ tF_X6_28) dX6_pushFault_28 ?_
    refine gS_WORD hx hb hown hK hS (hT _ tF_X6_166) dX6_pushFault_31 ?_
    refine lv_iconst (v := 0) hx hb dX6_pushFault_34 (by decide) ?_
    obtain ⟨S3, h3, hs⟩ := bv_e hs
    refine kX0_push C tM_X6_162 ⟨Nat.le_of_ble_eq_true rfl, Nat.le_of_ble_eq_true rfl⟩ ⟨Nat.le_of_ble_eq_true rfl, Nat.le_of_ble_eq_true rfl⟩ hK hP hS hl.1 (rest := []) (Nat.le_of_ble_eq_true rfl) dX6_pushFault_35 h3 (fun H locs hP hS => ?_)
    exact u_vret hx hb hr hlocks hP hS hs dX6_pushFault_38
theorem kX6_pushFault {p : Program} {l : Launch} {e : Env} {R : Room} {s : State} {m : MethodId} {args : Array Value} {below : List Frame} {meth : Method} {c : Code} {H : Heap} {locs : List Loc} {cells slots : Nat} {Q : State → Prop} {cc : ByteArray} {pc nL : Nat} {ls : Array Slot} {rest : List Value} {D : va_G} {ad : Nat → Nat} {cI cB : ClassId} {en : Nat → Nat} {S : St} {own : String} {index : Nat} {x1 : Int32} {x2 : Int32} {x3 : Int32} {So : St} (C : CallFix p m c cc nL s args wG own) (hlk : Cond.methodLink own index yX6_pushFault ∈ wG) (hR : rmX6_pushFault.frames + 1 ≤ R.frames ∧ 8 + (4 + 11) + rmX6_pushFault.locals ≤ R.locals) (hc : cells ≤ R.cells ∧ slots ≤ R.slots) (hK : KB D ad cI cB en s) (hP : va_P D vwCl (wB ad cI cB S) H) (hS : va_S (AX 10 ad s.heap.size) s.heap H locs) (hls : ls.size = nL) (hrest : (rest.map fun v => v.category).sum ≤ 8) (hd : decode cc pc = .ok (.invokevirtual index, 3)) (hs : fX6_pushFault x1 x2 x3 S = some So) (k : ∀ (H : Heap) (locs : List Loc), va_P D vwCl (wB ad cI cB So) H → va_S (AX 10 ad s.heap.size) s.heap H locs → W p l e R s m args below meth c H locs cells slots Q (F0 m (pc + 3) ls (rest))) : W p l e R s m args below meth c H locs cells slots Q (F0 m pc ls (.int x3 :: .int x2 :: .int x1 :: .ref (ad 0) :: rest)) :=
  u_callV (n := 3) (mX6_pushFault l D ad cI cB en S x1 x2 x3 So hs) C uK_B (wg_V hlk tI_X6_pushFault tS_X6_pushFault tN_X6 tK_X6_pushFault) rfl rfl rfl (by decide +kernel) hR rfl (va_recv hK.1 hP (ci := 5) (q0 := 0) rfl rfl) hK hP hS hls hrest hd hc rfl k
def fX6_finish (x1 : Int32) (z2 : Bool) (S : St) : Option St :=
    (lt ((S.1 6) : Int32) fun v1 => (lt ((S.1 7) : Int32) fun v2 => (bv (fX0_forget S) fun S1 => (bd (fX6_undoes v1 S1) fun b1 S2 => (if (zI b1) = 0 then (jn (fun (S3 : St) => (if (zI z2) = 0 then (bd (fX2_stops S3) fun b2 S4 => (if (zI b2) = 0 then (some S4)
    else (lt (sI S4 1 1) fun S5 => (some S5))))
    else (bd (fX6_enter 9 S3) fun b3 S6 => (if (zI b3) = 0 then (some S6)
    else (bv (fX6_leaveFor 9 S6) fun S7 => (some S7)))))) fun K1 =>
    (if v1 = 0 then (K1 S2)
    else (bd (fX6_enter v1 S2) fun b4 S8 => (if (zI b4) = 0 then (K1 S8)
    else (bv (fX6_leaveFor v1 S8) fun S9 => (K1 S9))))))
    else (bv (fX4_bringBack S2) fun S10 => (bd (fX6_enter v1 S10) fun b5 S11 => (if (zI b5) = 0 then (some S11)
    else (bv (fX6_pushFault v1 x1 v2 S11) fun S12 => (bv (fX6_leaveFor v1 S12) fun S13 => (some S13)))))))))))
abbrev rmX6_finish : Room := { frames := 3, cells := 0, slots := 0, locals := 71 }
set_option maxRecDepth 100000 in
set_option maxHeartbeats 4000000 in
theorem mX6_finish (l : Launch) (D : va_G) (ad : Nat → Nat) (cI cB : ClassId) (en : Nat → Nat) (S : St) (x1 : Int32) (z2 : Bool) (So : St) (hs : fX6_finish x1 z2 S = some So) : uM l yX6_finish (wg yX6_finish cX6_finish 5 none) rmX6_finish (KB D ad cI cB en) D (wB ad cI cB) (AX 10 ad) [.ref (ad 0), .int x1, .int (zI z2)] S (none, So) := by
  refine uM_start (by decide) rfl ?_
  intro p e s m below meth c hx hb hr hlocks hml hown hts hK hP
  have hT : ∀ w ∈ wG, w.before _ s = true := fun w h => hts w (List.mem_cons_of_mem _ h)
  have hS : va_S (AX 10 ad s.heap.size) s.heap s.heap [] := va_S.rf
  have hown : s.vm.findClass RX6 = some m.cls := hown
  have C : CallFix p m c cX6_finish 5 s _ wG RX6 := ⟨hx, hb, hml, hown, hT⟩
  have hl := lv_entry ([.ref (ad 0), .int x1, .int (zI z2)]) (n := 5) (Nat.le_of_ble_eq_true rfl)
  rw [lg_entry_eq]
  generalize (lg_sl ([.ref (ad 0), .int x1, .int (zI z2)]) ++ List.replicate (5 - (lg_sl ([.ref (ad 0), .int x1, .int (zI z2)])).length) Slot.unset).toArray = ls at hl ⊢
  have hl : lv_has ls 5 [(0, .ref (ad 0)), (1, .int x1), (2, .int (zI z2))] := hl
  unfold fX6_finish at hs
  refine lv_aload_n hx hb dX6_finish_0 rfl (lv_at hl 0 rfl) ?_
  refine gB_X6_access hx hb hT hown hK hP (hT _ tF_X6_28) dX6_finish_1 ?_
  refine gB_X0_raised hx hb hT hown hK hP (hT _ tF_X6_121) dX6_finish_4 ?_
  obtain ⟨v1, h1, hs⟩ := lt_e hs
  refine u_top h1 ?_
  refine lv_istore_n (lv' := [(3, .int v1), (0, .ref (ad 0)), (1, .int x1), (2, .int (zI z2))]) hx hb dX6_finish_7 rfl hl (by decide) rfl (fun ls hl => ?_)
  refine lv_aload_n hx hb dX6_finish_8 rfl (lv_at hl 1 rfl) ?_
  refine gB_X6_access hx hb hT hown hK hP (hT _ tF_X6_28) dX6_finish_9 ?_
  refine gB_X0_oddAddress hx hb hT hown hK hP (hT _ tF_X6_137) dX6_finish_12 ?_
  obtain ⟨v2, h2, hs⟩ := lt_e hs
  refine u_top h2 ?_
  refine lv_istore (lv' := [(4, .int v2), (3, .int v1), (0, .ref (ad 0)), (1, .int x1), (2, .int (zI z2))]) hx hb dX6_finish_15 hl (by decide) rfl (fun ls hl => ?_)
  refine lv_aload_n hx hb dX6_finish_17 rfl (lv_at hl 2 rfl) ?_
  refine gB_X6_access hx hb hT hown hK hP (hT _ tF_X6_28) dX6_finish_18 ?_
  obtain ⟨S1, h3, hs⟩ := bv_e hs
  refine kX0_forget C tM_X6_140 ⟨Nat.le_of_ble_eq_true rfl, Nat.le_of_ble_eq_true rfl⟩ ⟨Nat.le_of_ble_eq_true rfl, Nat.le_of_ble_eq_true rfl⟩ hK hP hS hl.1 (rest := []) (Nat.le_of_ble_eq_true rfl) dX6_finish_21 h3 (fun H locs hP hS => ?_)
  refine lv_iload_n hx hb dX6_finish_24 rfl (lv_at hl 1 rfl) ?_
  obtain ⟨b1, S2, h4, hs⟩ := bd_e hs
  refine kX6_undoes C tM_X6_143 ⟨Nat.le_of_ble_eq_true rfl, Nat.le_of_ble_eq_true rfl⟩ ⟨Nat.le_of_ble_eq_true rfl, Nat.le_of_ble_eq_true rfl⟩ hK hP hS hl.1 (rest := []) (Nat.le_of_ble_eq_true rfl) dX6_finish_25 h4 (fun H locs hP hS => ?_)
  refine lv_if_eq (tgt := 60) hx hb dX6_finish_28 (by decide) (fun c1 => ?_) (fun c1 => ?_)
  · have hs := if_t c1 hs
    refine lv_iload_n hx hb dX6_finish_60 rfl (lv_at hl 1 rfl) ?_
    refine jn_e hs (fun K1 => ∀ (S3 : St) (H : Heap) (locs : List Loc) (ls : Array Slot), lv_has ls 5 [(0, .ref (ad 0)), (2, .int (zI z2))] → va_P D vwCl (wB ad cI cB S3) H → va_S (AX 10 ad s.heap.size) s.heap H locs → K1 S3 = some So → W p l e rmX6_finish s m ([.ref (ad 0), .int x1, .int (zI z2)] : List Value).toArray below meth c H locs 0 0 (MQ below (uQ D (wB ad cI cB) (none, So) (AX 10 ad s.heap.size)) ([.ref (ad 0), .int x1, .int (zI z2)] : List Value).toArray s 0 0 (AX 10 ad s.heap.size)) (F0 m 77 ls [])) ?_ (fun K1 J1 hs => ?_)
    · intro S3 H locs ls hl hP hS hs
      refine lv_iload_n hx hb dX6_finish_77 rfl (lv_at hl 1 rfl) ?_
      refine lv_if_eq (tgt := 99) hx hb dX6_finish_78 (by decide) (fun c2 => ?_) (fun c2 => ?_)
      · have hs := if_t c2 hs
        refine lv_aload_n hx hb dX6_finish_99 rfl (lv_at hl 0 rfl) ?_
        refine gB_X6_instructions hx hb hT hown hK hP (hT _ tF_X6_37) dX6_finish_100 ?_
        obtain ⟨b2, S4, h5, hs⟩ := bd_e hs
        refine kX2_stops C tM_X6_152 ⟨Nat.le_of_ble_eq_true rfl, Nat.le_of_ble_eq_true rfl⟩ ⟨Nat.le_of_ble_eq_true rfl, Nat.le_of_ble_eq_true rfl⟩ hK hP hS hl.1 (rest := []) (Nat.le_of_ble_eq_true rfl) dX6_finish_103 h5 (fun H locs hP hS => ?_)
        refine lv_if_eq (tgt := 114) hx hb dX6_finish_106 (by decide) (fun c3 => ?_) (fun c3 => ?_)
        · have hs := if_t c3 hs
          exact u_vret hx hb hr hlocks hP hS hs dX6_finish_114
        · have hs := if_f c3 hs
          refine lv_aload_n hx hb dX6_finish_109 rfl (lv_at hl 0 rfl) ?_
          refine lv_iconst (v := 1) hx hb dX6_finish_110 (by decide) ?_
          obtain ⟨S5, h6, hs⟩ := lt_e hs
          refine pB_X6_phase hx hb hT hown hK hP hS (hT _ tF_X6_49) dX6_finish_111 (v := 1) h6 (fun H locs hP hS => ?_)
          exact u_vret hx hb hr hlocks hP hS hs dX6_finish_114
      · have hs := if_f c2 hs
        refine lv_aload_n hx hb dX6_finish_81 rfl (lv_at hl 0 rfl) ?_
        refine lv_bipush (v := 9) hx hb dX6_finish_82 (by decide) ?_
        obtain ⟨b3, S6, h7, hs⟩ := bd_e hs
        refine kX6_enter C tM_X6_131 ⟨Nat.le_of_ble_eq_true rfl, Nat.le_of_ble_eq_true rfl⟩ ⟨Nat.le_of_ble_eq_true rfl, Nat.le_of_ble_eq_true rfl⟩ hK hP hS hl.1 (rest := []) (Nat.le_of_ble_eq_true rfl) dX6_finish_84 h7 (fun H locs hP hS => ?_)
        refine lv_if_eq (tgt := 114) hx hb dX6_finish_87 (by decide) (fun c4 => ?_) (fun c4 => ?_)
        · have hs := if_t c4 hs
          exact u_vret hx hb hr hlocks hP hS hs dX6_finish_114
        · have hs := if_f c4 hs
          refine lv_aload_n hx hb dX6_finish_90 rfl (lv_at hl 0 rfl) ?_
          refine lv_bipush (v := 9) hx hb dX6_finish_91 (by decide) ?_
          obtain ⟨S7, h8, hs⟩ := bv_e hs
          refine kX6_leaveFor C tM_X6_134 ⟨Nat.le_of_ble_eq_true rfl, Nat.le_of_ble_eq_true rfl⟩ ⟨Nat.le_of_ble_eq_true rfl, Nat.le_of_ble_eq_true rfl⟩ hK hP hS hl.1 (rest := []) (Nat.le_of_ble_eq_true rfl) dX6_finish_93 h8 (fun H locs hP hS => ?_)
          refine lv_goto (tgt := 114) hx hb dX6_finish_96 (by decide) ?_
          exact u_vret hx hb hr hlocks hP hS hs dX6_finish_114
    ·
      refine lv_if_eq (tgt := 77) hx hb dX6_finish_61 (by decide) (fun c5 => ?_) (fun c5 => ?_)
      · have hs := if_t c5 hs
        exact J1 S2 _ _ _ (lv_sub hl [2, 4] rfl) hP hS hs
      · have hs := if_f c5 hs
        refine lv_aload_n hx hb dX6_finish_64 rfl (lv_at hl 2 rfl) ?_
        refine lv_iload_n hx hb dX6_finish_65 rfl (lv_at hl 1 rfl) ?_
        obtain ⟨b4, S8, h9, hs⟩ := bd_e hs
        refine kX6_enter C tM_X6_131 ⟨Nat.le_of_ble_eq_true rfl, Nat.le_of_ble_eq_true rfl⟩ ⟨Nat.le_of_ble_eq_true rfl, Nat.le_of_ble_eq_true rfl⟩ hK hP hS hl.1 (rest := []) (Nat.le_of_ble_eq_true rfl) dX6_finish_66 h9 (fun H locs hP hS => ?_)
        refine lv_if_eq (tgt := 77) hx hb dX6_finish_69 (by decide) (fun c6 => ?_) (fun c6 => ?_)
        · have hs := if_t c6 hs
          exact J1 S8 _ _ _ (lv_sub hl [2, 4] rfl) hP hS hs
        · have hs := if_f c6 hs
          refine lv_aload_n hx hb dX6_finish_72 rfl (lv_at hl 2 rfl) ?_
          refine lv_iload_n hx hb dX6_finish_73 rfl (lv_at hl 1 rfl) ?_
          obtain ⟨S9, h10, hs⟩ := bv_e hs
          refine kX6_leaveFor C tM_X6_134 ⟨Nat.le_of_ble_eq_true rfl, Nat.le_of_ble_eq_true rfl⟩ ⟨Nat.le_of_ble_eq_true rfl, Nat.le_of_ble_eq_true rfl⟩ hK hP hS hl.1 (rest := []) (Nat.le_of_ble_eq_true rfl) dX6_finish_74 h10 (fun H locs hP hS => ?_)
          exact J1 S9 _ _ _ (lv_sub hl [2, 4] rfl) hP hS hs
  · have hs := if_f c1 hs
    refine lv_aload_n hx hb dX6_finish_31 rfl (lv_at hl 2 rfl) ?_
    refine gB_X6_registers hx hb hT hown hK hP (hT _ tF_X6_19) dX6_finish_32 ?_
    obtain ⟨S10, h11, hs⟩ := bv_e hs
    refine kX4_bringBack C tM_X6_146 ⟨Nat.le_of_ble_eq_true rfl, Nat.le_of_ble_eq_true rfl⟩ ⟨Nat.le_of_ble_eq_true rfl, Nat.le_of_ble_eq_true rfl⟩ hK hP hS hl.1 (rest := []) (Nat.le_of_ble_eq_true rfl) dX6_finish_35 h11 (fun H locs hP hS => ?_)
    refine lv_aload_n hx hb dX6_finish_38 rfl (lv_at hl 2 rfl) ?_
    refine lv_iload_n hx hb dX6_finish_39 rfl (lv_at hl 1 rfl) ?_
    obtain ⟨b5, S11, h12, hs⟩ := bd_e hs
    refine kX6_enter C tM_X6_131 ⟨Nat.le_of_ble_eq_true rfl, Nat.le_of_ble_eq_true rfl⟩ ⟨Nat.le_of_ble_eq_true rfl, Nat.le_of_ble_eq_true rfl⟩ hK hP hS hl.1 (rest := []) (Nat.le_of_ble_eq_true rfl) dX6_finish_40 h12 (fun H locs hP hS => ?_)
    refine lv_if_eq (tgt := 59) hx hb dX6_finish_43 (by decide) (fun c7 => ?_) (fun c7 => ?_)
    · have hs := if_t c7 hs
      exact u_vret hx hb hr hlocks hP hS hs dX6_finish_59
    · have hs := if_f c7 hs
      refine lv_aload_n hx hb dX6_finish_46 rfl (lv_at hl 2 rfl) ?_
      refine lv_iload_n hx hb dX6_finish_47 rfl (lv_at hl 1 rfl) ?_
      refine lv_iload_n hx hb dX6_finish_48 rfl (lv_at hl 3 rfl) ?_
      refine lv_iload hx hb dX6_finish_49 (lv_at hl 0 rfl) ?_
      obtain ⟨S12, h13, hs⟩ := bv_e hs
      refine kX6_pushFault C tM_X6_149 ⟨Nat.le_of_ble_eq_true rfl, Nat.le_of_ble_eq_true rfl⟩ ⟨Nat.le_of_ble_eq_true rfl, Nat.le_of_ble_eq_true rfl⟩ hK hP hS hl.1 (rest := []) (Nat.le_of_ble_eq_true rfl) dX6_finish_51 h13 (fun H locs hP hS => ?_)
      refine lv_aload_n hx hb dX6_finish_54 rfl (lv_at hl 2 rfl) ?_
      refine lv_iload_n hx hb dX6_finish_55 rfl (lv_at hl 1 rfl) ?_
      obtain ⟨S13, h14, hs⟩ := bv_e hs
      refine kX6_leaveFor C tM_X6_134 ⟨Nat.le_of_ble_eq_true rfl, Nat.le_of_ble_eq_true rfl⟩ ⟨Nat.le_of_ble_eq_true rfl, Nat.le_of_ble_eq_true rfl⟩ hK hP hS hl.1 (rest := []) (Nat.le_of_ble_eq_true rfl) dX6_finish_56 h14 (fun H locs hP hS => ?_)
      exact u_vret hx hb hr hlocks hP hS hs dX6_finish_59
theorem kX6_finish {p : Program} {l : Launch} {e : Env} {R : Room} {s : State} {m : MethodId} {args : Array Value} {below : List Frame} {meth : Method} {c : Code} {H : Heap} {locs : List Loc} {cells slots : Nat} {Q : State → Prop} {cc : ByteArray} {pc nL : Nat} {ls : Array Slot} {rest : List Value} {D : va_G} {ad : Nat → Nat} {cI cB : ClassId} {en : Nat → Nat} {S : St} {own : String} {index : Nat} {x1 : Int32} {z2 : Bool} {So : St} (C : CallFix p m c cc nL s args wG own) (hlk : Cond.methodLink own index yX6_finish ∈ wG) (hR : rmX6_finish.frames + 1 ≤ R.frames ∧ 8 + (5 + 11) + rmX6_finish.locals ≤ R.locals) (hc : cells ≤ R.cells ∧ slots ≤ R.slots) (hK : KB D ad cI cB en s) (hP : va_P D vwCl (wB ad cI cB S) H) (hS : va_S (AX 10 ad s.heap.size) s.heap H locs) (hls : ls.size = nL) (hrest : (rest.map fun v => v.category).sum ≤ 8) (hd : decode cc pc = .ok (.invokevirtual index, 3)) (hs : fX6_finish x1 z2 S = some So) (k : ∀ (H : Heap) (locs : List Loc), va_P D vwCl (wB ad cI cB So) H → va_S (AX 10 ad s.heap.size) s.heap H locs → W p l e R s m args below meth c H locs cells slots Q (F0 m (pc + 3) ls (rest))) : W p l e R s m args below meth c H locs cells slots Q (F0 m pc ls (.int (zI z2) :: .int x1 :: .ref (ad 0) :: rest)) :=
  u_callV (n := 2) (mX6_finish l D ad cI cB en S x1 z2 So hs) C uK_B (wg_V hlk tI_X6_finish tS_X6_finish tN_X6 tK_X6_finish) rfl rfl rfl (by decide +kernel) hR rfl (va_recv hK.1 hP (ci := 5) (q0 := 0) rfl rfl) hK hP hS hls hrest hd hc rfl k
def fX6_advance  (S : St) : Option (Bool × St) :=
    (if (S.1 1) = 2 then (some (false, S))
    else (if (S.1 0) = 7 then (bv (fX6_interrupt S) fun S1 => (some (true, S1)))
    else (if (S.1 0) ≤ (ush ((S.1 3) &&& 1792) 8) then (if (S.1 1) = 1 then (some (false, S))
    else (bd (fX4_has 32768 S) fun b1 S2 => (bv (fX4_keep S2) fun S3 => (bd (fX0_firstWord S3) fun r1 S4 => (jn (fun (S5 : St) => (bv (fX6_finish r1 b1 S5) fun S6 => (some (true, S6)))) fun K1 =>
    (if (S4.1 6) = 0 then (bv (fX2_obey r1 S4) fun S7 => (K1 S7))
    else (K1 S4)))))))
    else (bv (fX6_interrupt S) fun S8 => (some (true, S8))))))
abbrev rmX6_advance : Room := { frames := 6, cells := 0, slots := 0, locals := 149 }
set_option maxRecDepth 100000 in
set_option maxHeartbeats 4000000 in
theorem mX6_advance (l : Launch) (D : va_G) (ad : Nat → Nat) (cI cB : ClassId) (en : Nat → Nat) (S : St)  (ro : Bool) (So : St) (hs : fX6_advance  S = some (ro, So)) : uM l yX6_advance (wg yX6_advance cX6_advance 3 (some .boolean)) rmX6_advance (KB D ad cI cB en) D (wB ad cI cB) (AX 10 ad) [.ref (ad 0)] S (some (.int (zI ro)), So) := by
  refine uM_start (by decide) rfl ?_
  intro p e s m below meth c hx hb hr hlocks hml hown hts hK hP
  have hT : ∀ w ∈ wG, w.before _ s = true := fun w h => hts w (List.mem_cons_of_mem _ h)
  have hS : va_S (AX 10 ad s.heap.size) s.heap s.heap [] := va_S.rf
  have hown : s.vm.findClass RX6 = some m.cls := hown
  have C : CallFix p m c cX6_advance 3 s _ wG RX6 := ⟨hx, hb, hml, hown, hT⟩
  have hl := lv_entry ([.ref (ad 0)]) (n := 3) (Nat.le_of_ble_eq_true rfl)
  rw [lg_entry_eq]
  generalize (lg_sl ([.ref (ad 0)]) ++ List.replicate (3 - (lg_sl ([.ref (ad 0)])).length) Slot.unset).toArray = ls at hl ⊢
  have hl : lv_has ls 3 [(0, .ref (ad 0))] := hl
  unfold fX6_advance at hs
  refine lv_aload_n hx hb dX6_advance_0 rfl (lv_at hl 0 rfl) ?_
  refine gB_X6_phase hx hb hT hown hK hP (hT _ tF_X6_49) dX6_advance_1 ?_
  refine lv_iconst (v := 2) hx hb dX6_advance_4 (by decide) ?_
  refine lv_icmp_ne (tgt := 10) hx hb dX6_advance_5 (by decide) (fun c1 => ?_) (fun c1 => ?_)
  · have hs := if_f c1 hs
    refine lv_aload_n hx hb dX6_advance_10 rfl (lv_at hl 0 rfl) ?_
    refine gB_X6_wanted hx hb hT hown hK hP (hT _ tF_X6_45) dX6_advance_11 ?_
    refine lv_bipush (v := 7) hx hb dX6_advance_14 (by decide) ?_
    refine lv_icmp_eq (tgt := 40) hx hb dX6_advance_16 (by decide) (fun c2 => ?_) (fun c2 => ?_)
    · have hs := if_t c2 hs
      refine lv_aload_n hx hb dX6_advance_40 rfl (lv_at hl 0 rfl) ?_
      obtain ⟨S1, h1, hs⟩ := bv_e hs
      refine kX6_interrupt C tM_X6_107 ⟨Nat.le_of_ble_eq_true rfl, Nat.le_of_ble_eq_true rfl⟩ ⟨Nat.le_of_ble_eq_true rfl, Nat.le_of_ble_eq_true rfl⟩ hK hP hS hl.1 (rest := []) (Nat.le_of_ble_eq_true rfl) dX6_advance_41 h1 (fun H locs hP hS => ?_)
      refine lv_iconst (v := 1) hx hb dX6_advance_44 (by decide) ?_
      exact u_zret (v := true) hx hb hr hlocks hP hS hs dX6_advance_45
    · have hs := if_f c2 hs
      refine lv_aload_n hx hb dX6_advance_19 rfl (lv_at hl 0 rfl) ?_
      refine gB_X6_wanted hx hb hT hown hK hP (hT _ tF_X6_45) dX6_advance_20 ?_
      refine lv_aload_n hx hb dX6_advance_23 rfl (lv_at hl 0 rfl) ?_
      refine gB_X6_registers hx hb hT hown hK hP (hT _ tF_X6_19) dX6_advance_24 ?_
      refine gB_X4_sr hx hb hT hown hK hP (hT _ tF_X6_67) dX6_advance_27 ?_
      refine lv_sipush (v := 1792) hx hb dX6_advance_30 (by decide) ?_
      refine lv_iand hx hb dX6_advance_33 ?_
      refine lv_bipush (v := 8) hx hb dX6_advance_34 (by decide) ?_
      refine lv_iushr (v := (ush ((S.1 3) &&& 1792) 8)) hx hb dX6_advance_36 rfl ?_
      refine lv_icmp_le (tgt := 46) hx hb dX6_advance_37 (by decide) (fun c3 => ?_) (fun c3 => ?_)
      · have hs := if_t c3 hs
        refine lv_aload_n hx hb dX6_advance_46 rfl (lv_at hl 0 rfl) ?_
        refine gB_X6_phase hx hb hT hown hK hP (hT _ tF_X6_49) dX6_advance_47 ?_
        refine lv_iconst (v := 1) hx hb dX6_advance_50 (by decide) ?_
        refine lv_icmp_ne (tgt := 56) hx hb dX6_advance_51 (by decide) (fun c4 => ?_) (fun c4 => ?_)
        · have hs := if_f c4 hs
          refine lv_aload_n hx hb dX6_advance_56 rfl (lv_at hl 0 rfl) ?_
          refine gB_X6_registers hx hb hT hown hK hP (hT _ tF_X6_19) dX6_advance_57 ?_
          refine lv_ldc (v := 32768) hx hb hown (hT _ tC_X6_110) dX6_advance_60 ?_
          obtain ⟨b1, S2, h2, hs⟩ := bd_e hs
          refine kX4_has C tM_X6_111 ⟨Nat.le_of_ble_eq_true rfl, Nat.le_of_ble_eq_true rfl⟩ ⟨Nat.le_of_ble_eq_true rfl, Nat.le_of_ble_eq_true rfl⟩ hK hP hS hl.1 (rest := []) (Nat.le_of_ble_eq_true rfl) dX6_advance_62 h2 (fun H locs hP hS => ?_)
          refine lv_istore_n (lv' := [(1, .int (zI b1)), (0, .ref (ad 0))]) hx hb dX6_advance_65 rfl hl (by decide) rfl (fun ls hl => ?_)
          refine lv_aload_n hx hb dX6_advance_66 rfl (lv_at hl 1 rfl) ?_
          refine gB_X6_registers hx hb hT hown hK hP (hT _ tF_X6_19) dX6_advance_67 ?_
          obtain ⟨S3, h3, hs⟩ := bv_e hs
          refine kX4_keep C tM_X6_115 ⟨Nat.le_of_ble_eq_true rfl, Nat.le_of_ble_eq_true rfl⟩ ⟨Nat.le_of_ble_eq_true rfl, Nat.le_of_ble_eq_true rfl⟩ hK hP hS hl.1 (rest := []) (Nat.le_of_ble_eq_true rfl) dX6_advance_70 h3 (fun H locs hP hS => ?_)
          refine lv_aload_n hx hb dX6_advance_73 rfl (lv_at hl 1 rfl) ?_
          refine gB_X6_access hx hb hT hown hK hP (hT _ tF_X6_28) dX6_advance_74 ?_
          obtain ⟨r1, S4, h4, hs⟩ := bd_e hs
          refine kX0_firstWord C tM_X6_118 ⟨Nat.le_of_ble_eq_true rfl, Nat.le_of_ble_eq_true rfl⟩ ⟨Nat.le_of_ble_eq_true rfl, Nat.le_of_ble_eq_true rfl⟩ hK hP hS hl.1 (rest := []) (Nat.le_of_ble_eq_true rfl) dX6_advance_77 h4 (fun H locs hP hS => ?_)
          refine lv_istore_n (lv' := [(2, .int r1), (1, .int (zI b1)), (0, .ref (ad 0))]) hx hb dX6_advance_80 rfl hl (by decide) rfl (fun ls hl => ?_)
          refine lv_aload_n hx hb dX6_advance_81 rfl (lv_at hl 2 rfl) ?_
          refine gB_X6_access hx hb hT hown hK hP (hT _ tF_X6_28) dX6_advance_82 ?_
          refine gB_X0_raised hx hb hT hown hK hP (hT _ tF_X6_121) dX6_advance_85 ?_
          refine jn_e hs (fun K1 => ∀ (S5 : St) (H : Heap) (locs : List Loc) (ls : Array Slot), lv_has ls 3 [(2, .int r1), (1, .int (zI b1)), (0, .ref (ad 0))] → va_P D vwCl (wB ad cI cB S5) H → va_S (AX 10 ad s.heap.size) s.heap H locs → K1 S5 = some (ro, So) → W p l e rmX6_advance s m ([.ref (ad 0)] : List Value).toArray below meth c H locs 0 0 (MQ below (uQ D (wB ad cI cB) (some (.int (zI ro)), So) (AX 10 ad s.heap.size)) ([.ref (ad 0)] : List Value).toArray s 0 0 (AX 10 ad s.heap.size)) (F0 m 99 ls [])) ?_ (fun K1 J1 hs => ?_)
          · intro S5 H locs ls hl hP hS hs
            refine lv_aload_n hx hb dX6_advance_99 rfl (lv_at hl 2 rfl) ?_
            refine lv_iload_n hx hb dX6_advance_100 rfl (lv_at hl 0 rfl) ?_
            refine lv_iload_n hx hb dX6_advance_101 rfl (lv_at hl 1 rfl) ?_
            obtain ⟨S6, h5, hs⟩ := bv_e hs
            refine kX6_finish C tM_X6_127 ⟨Nat.le_of_ble_eq_true rfl, Nat.le_of_ble_eq_true rfl⟩ ⟨Nat.le_of_ble_eq_true rfl, Nat.le_of_ble_eq_true rfl⟩ hK hP hS hl.1 (rest := []) (Nat.le_of_ble_eq_true rfl) dX6_advance_102 h5 (fun H locs hP hS => ?_)
            refine lv_iconst (v := 1) hx hb dX6_advance_105 (by decide) ?_
            exact u_zret (v := true) hx hb hr hlocks hP hS hs dX6_advance_106
          ·
            refine lv_if_ne (tgt := 99) hx hb dX6_advance_88 (by decide) (fun c5 => ?_) (fun c5 => ?_)
            · have hs := if_f c5 hs
              exact J1 S4 _ _ _ (lv_sub hl [0, 1, 2] rfl) hP hS hs
            · have hs := if_t c5 hs
              refine lv_aload_n hx hb dX6_advance_91 rfl (lv_at hl 2 rfl) ?_
              refine gB_X6_instructions hx hb hT hown hK hP (hT _ tF_X6_37) dX6_advance_92 ?_
              refine lv_iload_n hx hb dX6_advance_95 rfl (lv_at hl 0 rfl) ?_
              obtain ⟨S7, h6, hs⟩ := bv_e hs
              refine kX2_obey C tM_X6_124 ⟨Nat.le_of_ble_eq_true rfl, Nat.le_of_ble_eq_true rfl⟩ ⟨Nat.le_of_ble_eq_true rfl, Nat.le_of_ble_eq_true rfl⟩ hK hP hS hl.1 (rest := []) (Nat.le_of_ble_eq_true rfl) dX6_advance_96 h6 (fun H locs hP hS => ?_)
              exact J1 S7 _ _ _ (lv_sub hl [0, 1, 2] rfl) hP hS hs
        · have hs := if_t c4 hs
          refine lv_iconst (v := 0) hx hb dX6_advance_54 (by decide) ?_
          exact u_zret (v := false) hx hb hr hlocks hP hS hs dX6_advance_55
      · have hs := if_f c3 hs
        refine lv_aload_n hx hb dX6_advance_40 rfl (lv_at hl 0 rfl) ?_
        obtain ⟨S8, h7, hs⟩ := bv_e hs
        refine kX6_interrupt C tM_X6_107 ⟨Nat.le_of_ble_eq_true rfl, Nat.le_of_ble_eq_true rfl⟩ ⟨Nat.le_of_ble_eq_true rfl, Nat.le_of_ble_eq_true rfl⟩ hK hP hS hl.1 (rest := []) (Nat.le_of_ble_eq_true rfl) dX6_advance_41 h7 (fun H locs hP hS => ?_)
        refine lv_iconst (v := 1) hx hb dX6_advance_44 (by decide) ?_
        exact u_zret (v := true) hx hb hr hlocks hP hS hs dX6_advance_45
  · have hs := if_t c1 hs
    refine lv_iconst (v := 0) hx hb dX6_advance_8 (by decide) ?_
    exact u_zret (v := false) hx hb hr hlocks hP hS hs dX6_advance_9
theorem kX6_advance {p : Program} {l : Launch} {e : Env} {R : Room} {s : State} {m : MethodId} {args : Array Value} {below : List Frame} {meth : Method} {c : Code} {H : Heap} {locs : List Loc} {cells slots : Nat} {Q : State → Prop} {cc : ByteArray} {pc nL : Nat} {ls : Array Slot} {rest : List Value} {D : va_G} {ad : Nat → Nat} {cI cB : ClassId} {en : Nat → Nat} {S : St} {own : String} {index : Nat}  {ro : Bool} {So : St} (C : CallFix p m c cc nL s args wG own) (hlk : Cond.methodLink own index yX6_advance ∈ wG) (hR : rmX6_advance.frames + 1 ≤ R.frames ∧ 8 + (3 + 11) + rmX6_advance.locals ≤ R.locals) (hc : cells ≤ R.cells ∧ slots ≤ R.slots) (hK : KB D ad cI cB en s) (hP : va_P D vwCl (wB ad cI cB S) H) (hS : va_S (AX 10 ad s.heap.size) s.heap H locs) (hls : ls.size = nL) (hrest : (rest.map fun v => v.category).sum ≤ 8) (hd : decode cc pc = .ok (.invokevirtual index, 3)) (hs : fX6_advance  S = some (ro, So)) (k : ∀ (H : Heap) (locs : List Loc), va_P D vwCl (wB ad cI cB So) H → va_S (AX 10 ad s.heap.size) s.heap H locs → W p l e R s m args below meth c H locs cells slots Q (F0 m (pc + 3) ls (.int (zI ro) :: rest))) : W p l e R s m args below meth c H locs cells slots Q (F0 m pc ls (.ref (ad 0) :: rest)) :=
  u_callV (n := 0) (mX6_advance l D ad cI cB en S  ro So hs) C uK_B (wg_V hlk tI_X6_advance tS_X6_advance tN_X6 tK_X6_advance) rfl rfl rfl (by decide +kernel) hR rfl (va_recv hK.1 hP (ci := 5) (q0 := 0) rfl rfl) hK hP hS hls hrest hd hc rfl k
def fX6_step_b1 (x1 : Int32) (k1 : Int32 → St → Option (Int32 × St)) (v1 : Int32) (S1 : St) : Option (Int32 × St) :=
    (if x1 ≤ v1 then (some (v1, S1))
    else (bd (fX6_advance S1) fun b1 S2 => (if (zI b1) = 0 then (some (v1, S2))
    else (lt (v1 + 1) fun v2 => (k1 v2 S2)))))
def fX6_step_l1 (x1 : Int32) : Nat → Int32 → St → Option (Int32 × St)
  | 0 => fun _ _ => none
  | n + 1 => fX6_step_b1 x1 (fX6_step_l1 x1 n)
def fX6_step (x1 : Int32) (S : St) : Option (Int32 × St) :=
    (if x1 < 0 then none
    else (if x1 ≤ 3000 then (fX6_step_l1 x1 3001 0 S)
    else none))
abbrev rmX6_step : Room := { frames := 7, cells := 0, slots := 0, locals := 171 }
set_option maxRecDepth 100000 in
set_option maxHeartbeats 4000000 in
theorem mX6_step (l : Launch) (D : va_G) (ad : Nat → Nat) (cI cB : ClassId) (en : Nat → Nat) (S : St) (x1 : Int32) (ro : Int32) (So : St) (hs : fX6_step x1 S = some (ro, So)) : uM l yX6_step (wg yX6_step cX6_step 3 (some .int)) rmX6_step (KB D ad cI cB en) D (wB ad cI cB) (AX 10 ad) [.ref (ad 0), .int x1] S (some (.int ro), So) := by
  refine uM_start (by decide) rfl ?_
  intro p e s m below meth c hx hb hr hlocks hml hown hts hK hP
  have hT : ∀ w ∈ wG, w.before _ s = true := fun w h => hts w (List.mem_cons_of_mem _ h)
  have hS : va_S (AX 10 ad s.heap.size) s.heap s.heap [] := va_S.rf
  have hown : s.vm.findClass RX6 = some m.cls := hown
  have C : CallFix p m c cX6_step 3 s _ wG RX6 := ⟨hx, hb, hml, hown, hT⟩
  have hl := lv_entry ([.ref (ad 0), .int x1]) (n := 3) (Nat.le_of_ble_eq_true rfl)
  rw [lg_entry_eq]
  generalize (lg_sl ([.ref (ad 0), .int x1]) ++ List.replicate (3 - (lg_sl ([.ref (ad 0), .int x1])).length) Slot.unset).toArray = ls at hl ⊢
  have hl : lv_has ls 3 [(0, .ref (ad 0)), (1, .int x1)] := hl
  unfold fX6_step at hs
  refine lv_iload_n hx hb dX6_step_0 rfl (lv_at hl 1 rfl) ?_
  refine lv_if_lt (tgt := 11) hx hb dX6_step_1 (by decide) (fun c1 => ?_) (fun c1 => ?_)
  · have hs := if_t c1 hs
    cases hs
  · have hs := if_f c1 hs
    refine lv_iload_n hx hb dX6_step_4 rfl (lv_at hl 1 rfl) ?_
    refine lv_sipush (v := 3000) hx hb dX6_step_5 (by decide) ?_
    refine lv_icmp_le (tgt := 19) hx hb dX6_step_8 (by decide) (fun c2 => ?_) (fun c2 => ?_)
    · have hs := if_t c2 hs
      refine lv_iconst (v := 0) hx hb dX6_step_19 (by decide) ?_
      refine lv_istore_n (lv' := [(2, .int 0), (0, .ref (ad 0)), (1, .int x1)]) hx hb dX6_step_20 rfl hl (by decide) rfl (fun ls hl => ?_)
      have L1 : ∀ (n : Nat) (v1 : Int32) (S1 : St) (H : Heap) (locs : List Loc) (ls : Array Slot), lv_has ls 3 [(2, .int v1), (0, .ref (ad 0)), (1, .int x1)] → va_P D vwCl (wB ad cI cB S1) H → va_S (AX 10 ad s.heap.size) s.heap H locs → fX6_step_l1 x1 n v1 S1 = some (ro, So) → W p l e rmX6_step s m ([.ref (ad 0), .int x1] : List Value).toArray below meth c H locs 0 0 (MQ below (uQ D (wB ad cI cB) (some (.int ro), So) (AX 10 ad s.heap.size)) ([.ref (ad 0), .int x1] : List Value).toArray s 0 0 (AX 10 ad s.heap.size)) (F0 m 21 ls []) := by
        intro n
        induction n with
        | zero => intro v1 S1 H locs ls hl hP hS hs; cases hs
        | succ n ih =>
          intro v1 S1 H locs ls hl hP hS hs
          have hs : fX6_step_b1 x1 (fX6_step_l1 x1 n) v1 S1 = some (ro, So) := hs
          unfold fX6_step_b1 at hs
          refine lv_iload_n hx hb dX6_step_21 rfl (lv_at hl 0 rfl) ?_
          refine lv_iload_n hx hb dX6_step_22 rfl (lv_at hl 2 rfl) ?_
          refine lv_icmp_ge (tgt := 39) hx hb dX6_step_23 (by decide) (fun c3 => ?_) (fun c3 => ?_)
          · have hs := if_t c3 hs
            refine lv_iload_n hx hb dX6_step_39 rfl (lv_at hl 0 rfl) ?_
            exact u_iret hx hb hr hlocks hP hS hs dX6_step_40
          · have hs := if_f c3 hs
            refine lv_aload_n hx hb dX6_step_26 rfl (lv_at hl 1 rfl) ?_
            obtain ⟨b1, S2, h1, hs⟩ := bd_e hs
            refine kX6_advance C tM_X6_99 ⟨Nat.le_of_ble_eq_true rfl, Nat.le_of_ble_eq_true rfl⟩ ⟨Nat.le_of_ble_eq_true rfl, Nat.le_of_ble_eq_true rfl⟩ hK hP hS hl.1 (rest := []) (Nat.le_of_ble_eq_true rfl) dX6_step_27 h1 (fun H locs hP hS => ?_)
            refine lv_if_eq (tgt := 39) hx hb dX6_step_30 (by decide) (fun c4 => ?_) (fun c4 => ?_)
            · have hs := if_t c4 hs
              refine lv_iload_n hx hb dX6_step_39 rfl (lv_at hl 0 rfl) ?_
              exact u_iret hx hb hr hlocks hP hS hs dX6_step_40
            · have hs := if_f c4 hs
              obtain ⟨v2, h2, hs⟩ := lt_e hs
              refine lv_iinc (v := v2) (lv' := [(2, .int v2), (0, .ref (ad 0)), (1, .int x1)]) hx hb dX6_step_33 hl (k := 0) rfl (by rw [h2]; rfl) (by decide) rfl (fun ls hl => ?_)
              refine lv_goto (tgt := 21) hx hb dX6_step_36 (by decide) ?_
              exact ih v2 S2 _ _ _ (lv_sub hl [0, 1, 2] rfl) hP hS hs
      exact L1 3001 0 S _ _ _ (lv_sub hl [0, 1, 2] rfl) hP hS hs
    · have hs := if_f c2 hs
      cases hs
theorem kX6_step {p : Program} {l : Launch} {e : Env} {R : Room} {s : State} {m : MethodId} {args : Array Value} {below : List Frame} {meth : Method} {c : Code} {H : Heap} {locs : List Loc} {cells slots : Nat} {Q : State → Prop} {cc : ByteArray} {pc nL : Nat} {ls : Array Slot} {rest : List Value} {D : va_G} {ad : Nat → Nat} {cI cB : ClassId} {en : Nat → Nat} {S : St} {own : String} {index : Nat} {x1 : Int32} {ro : Int32} {So : St} (C : CallFix p m c cc nL s args wG own) (hlk : Cond.methodLink own index yX6_step ∈ wG) (hR : rmX6_step.frames + 1 ≤ R.frames ∧ 8 + (3 + 11) + rmX6_step.locals ≤ R.locals) (hc : cells ≤ R.cells ∧ slots ≤ R.slots) (hK : KB D ad cI cB en s) (hP : va_P D vwCl (wB ad cI cB S) H) (hS : va_S (AX 10 ad s.heap.size) s.heap H locs) (hls : ls.size = nL) (hrest : (rest.map fun v => v.category).sum ≤ 8) (hd : decode cc pc = .ok (.invokevirtual index, 3)) (hs : fX6_step x1 S = some (ro, So)) (k : ∀ (H : Heap) (locs : List Loc), va_P D vwCl (wB ad cI cB So) H → va_S (AX 10 ad s.heap.size) s.heap H locs → W p l e R s m args below meth c H locs cells slots Q (F0 m (pc + 3) ls (.int ro :: rest))) : W p l e R s m args below meth c H locs cells slots Q (F0 m pc ls (.int x1 :: .ref (ad 0) :: rest)) :=
  u_callV (n := 1) (mX6_step l D ad cI cB en S x1 ro So hs) C uK_B (wg_V hlk tI_X6_step tS_X6_step tN_X6 tK_X6_step) rfl rfl rfl (by decide +kernel) hR rfl (va_recv hK.1 hP (ci := 5) (q0 := 0) rfl rfl) hK hP hS hls hrest hd hc rfl k
def fX6_state  (S : St) : Option (Int32 × St) :=
    (some ((S.1 1), S))
abbrev rmX6_state : Room := { frames := 0, cells := 0, slots := 0, locals := 0 }
set_option maxRecDepth 100000 in
set_option maxHeartbeats 4000000 in
theorem mX6_state (l : Launch) (D : va_G) (ad : Nat → Nat) (cI cB : ClassId) (en : Nat → Nat) (S : St)  (ro : Int32) (So : St) (hs : fX6_state  S = some (ro, So)) : uM l yX6_state (wg yX6_state cX6_state 1 (some .int)) rmX6_state (KB D ad cI cB en) D (wB ad cI cB) (AX 10 ad) [.ref (ad 0)] S (some (.int ro), So) := by
  refine uM_start (by decide) rfl ?_
  intro p e s m below meth c hx hb hr hlocks hml hown hts hK hP
  have hT : ∀ w ∈ wG, w.before _ s = true := fun w h => hts w (List.mem_cons_of_mem _ h)
  have hS : va_S (AX 10 ad s.heap.size) s.heap s.heap [] := va_S.rf
  have hown : s.vm.findClass RX6 = some m.cls := hown
  have C : CallFix p m c cX6_state 1 s _ wG RX6 := ⟨hx, hb, hml, hown, hT⟩
  have hl := lv_entry ([.ref (ad 0)]) (n := 1) (Nat.le_of_ble_eq_true rfl)
  rw [lg_entry_eq]
  generalize (lg_sl ([.ref (ad 0)]) ++ List.replicate (1 - (lg_sl ([.ref (ad 0)])).length) Slot.unset).toArray = ls at hl ⊢
  have hl : lv_has ls 1 [(0, .ref (ad 0))] := hl
  unfold fX6_state at hs
  refine lv_aload_n hx hb dX6_state_0 rfl (lv_at hl 0 rfl) ?_
  refine gB_X6_phase hx hb hT hown hK hP (hT _ tF_X6_49) dX6_state_1 ?_
  exact u_iret hx hb hr hlocks hP hS hs dX6_state_4
theorem kX6_state {p : Program} {l : Launch} {e : Env} {R : Room} {s : State} {m : MethodId} {args : Array Value} {below : List Frame} {meth : Method} {c : Code} {H : Heap} {locs : List Loc} {cells slots : Nat} {Q : State → Prop} {cc : ByteArray} {pc nL : Nat} {ls : Array Slot} {rest : List Value} {D : va_G} {ad : Nat → Nat} {cI cB : ClassId} {en : Nat → Nat} {S : St} {own : String} {index : Nat}  {ro : Int32} {So : St} (C : CallFix p m c cc nL s args wG own) (hlk : Cond.methodLink own index yX6_state ∈ wG) (hR : rmX6_state.frames + 1 ≤ R.frames ∧ 8 + (1 + 11) + rmX6_state.locals ≤ R.locals) (hc : cells ≤ R.cells ∧ slots ≤ R.slots) (hK : KB D ad cI cB en s) (hP : va_P D vwCl (wB ad cI cB S) H) (hS : va_S (AX 10 ad s.heap.size) s.heap H locs) (hls : ls.size = nL) (hrest : (rest.map fun v => v.category).sum ≤ 8) (hd : decode cc pc = .ok (.invokevirtual index, 3)) (hs : fX6_state  S = some (ro, So)) (k : ∀ (H : Heap) (locs : List Loc), va_P D vwCl (wB ad cI cB So) H → va_S (AX 10 ad s.heap.size) s.heap H locs → W p l e R s m args below meth c H locs cells slots Q (F0 m (pc + 3) ls (.int ro :: rest))) : W p l e R s m args below meth c H locs cells slots Q (F0 m pc ls (.ref (ad 0) :: rest)) :=
  u_callV (n := 0) (mX6_state l D ad cI cB en S  ro So hs) C uK_B (wg_V hlk tI_X6_state tS_X6_state tN_X6 tK_X6_state) rfl rfl rfl (by decide +kernel) hR rfl (va_recv hK.1 hP (ci := 5) (q0 := 0) rfl rfl) hK hP hS hls hrest hd hc rfl k
def fX6_exceptions (x1 : Int32) (S : St) : Option (Int32 × St) :=
    (if x1 < 0 then none
    else (if x1 < 64 then (gd (ixo x1 64 = true) (some ((S.2.2 3 x1.toNatClampNeg), S)))
    else none))
abbrev rmX6_exceptions : Room := { frames := 0, cells := 0, slots := 0, locals := 0 }
set_option maxRecDepth 100000 in
set_option maxHeartbeats 4000000 in
theorem mX6_exceptions (l : Launch) (D : va_G) (ad : Nat → Nat) (cI cB : ClassId) (en : Nat → Nat) (S : St) (x1 : Int32) (ro : Int32) (So : St) (hs : fX6_exceptions x1 S = some (ro, So)) : uM l yX6_exceptions (wg yX6_exceptions cX6_exceptions 2 (some .int)) rmX6_exceptions (KB D ad cI cB en) D (wB ad cI cB) (AX 10 ad) [.ref (ad 0), .int x1] S (some (.int ro), So) := by
  refine uM_start (by decide) rfl ?_
  intro p e s m below meth c hx hb hr hlocks hml hown hts hK hP
  have hT : ∀ w ∈ wG, w.before _ s = true := fun w h => hts w (List.mem_cons_of_mem _ h)
  have hS : va_S (AX 10 ad s.heap.size) s.heap s.heap [] := va_S.rf
  have hown : s.vm.findClass RX6 = some m.cls := hown
  have C : CallFix p m c cX6_exceptions 2 s _ wG RX6 := ⟨hx, hb, hml, hown, hT⟩
  have hl := lv_entry ([.ref (ad 0), .int x1]) (n := 2) (Nat.le_of_ble_eq_true rfl)
  rw [lg_entry_eq]
  generalize (lg_sl ([.ref (ad 0), .int x1]) ++ List.replicate (2 - (lg_sl ([.ref (ad 0), .int x1])).length) Slot.unset).toArray = ls at hl ⊢
  have hl : lv_has ls 2 [(0, .ref (ad 0)), (1, .int x1)] := hl
  unfold fX6_exceptions at hs
  refine lv_iload_n hx hb dX6_exceptions_0 rfl (lv_at hl 1 rfl) ?_
  refine lv_if_lt (tgt := 10) hx hb dX6_exceptions_1 (by decide) (fun c1 => ?_) (fun c1 => ?_)
  · have hs := if_t c1 hs
    cases hs
  · have hs := if_f c1 hs
    refine lv_iload_n hx hb dX6_exceptions_4 rfl (lv_at hl 1 rfl) ?_
    refine lv_bipush (v := 64) hx hb dX6_exceptions_5 (by decide) ?_
    refine lv_icmp_lt (tgt := 18) hx hb dX6_exceptions_7 (by decide) (fun c2 => ?_) (fun c2 => ?_)
    · have hs := if_t c2 hs
      refine lv_aload_n hx hb dX6_exceptions_18 rfl (lv_at hl 0 rfl) ?_
      refine gB_X6_counts hx hb hT hown hK hP (hT _ tF_X6_41) dX6_exceptions_19 ?_
      refine lv_iload_n hx hb dX6_exceptions_22 rfl (lv_at hl 1 rfl) ?_
      obtain ⟨h1, hs⟩ := gd_e hs
      refine lB_counts hx hb hK hP (ixo_in h1) dX6_exceptions_23 ?_
      exact u_iret hx hb hr hlocks hP hS hs dX6_exceptions_24
    · have hs := if_f c2 hs
      cases hs
theorem kX6_exceptions {p : Program} {l : Launch} {e : Env} {R : Room} {s : State} {m : MethodId} {args : Array Value} {below : List Frame} {meth : Method} {c : Code} {H : Heap} {locs : List Loc} {cells slots : Nat} {Q : State → Prop} {cc : ByteArray} {pc nL : Nat} {ls : Array Slot} {rest : List Value} {D : va_G} {ad : Nat → Nat} {cI cB : ClassId} {en : Nat → Nat} {S : St} {own : String} {index : Nat} {x1 : Int32} {ro : Int32} {So : St} (C : CallFix p m c cc nL s args wG own) (hlk : Cond.methodLink own index yX6_exceptions ∈ wG) (hR : rmX6_exceptions.frames + 1 ≤ R.frames ∧ 8 + (2 + 11) + rmX6_exceptions.locals ≤ R.locals) (hc : cells ≤ R.cells ∧ slots ≤ R.slots) (hK : KB D ad cI cB en s) (hP : va_P D vwCl (wB ad cI cB S) H) (hS : va_S (AX 10 ad s.heap.size) s.heap H locs) (hls : ls.size = nL) (hrest : (rest.map fun v => v.category).sum ≤ 8) (hd : decode cc pc = .ok (.invokevirtual index, 3)) (hs : fX6_exceptions x1 S = some (ro, So)) (k : ∀ (H : Heap) (locs : List Loc), va_P D vwCl (wB ad cI cB So) H → va_S (AX 10 ad s.heap.size) s.heap H locs → W p l e R s m args below meth c H locs cells slots Q (F0 m (pc + 3) ls (.int ro :: rest))) : W p l e R s m args below meth c H locs cells slots Q (F0 m pc ls (.int x1 :: .ref (ad 0) :: rest)) :=
  u_callV (n := 1) (mX6_exceptions l D ad cI cB en S x1 ro So hs) C uK_B (wg_V hlk tI_X6_exceptions tS_X6_exceptions tN_X6 tK_X6_exceptions) rfl rfl rfl (by decide +kernel) hR rfl (va_recv hK.1 hP (ci := 5) (q0 := 0) rfl rfl) hK hP hS hls hrest hd hc rfl k
def fX6_sum  (S : St) : Option (Int32 × St) :=
    (bd (fX3_weighted S) fun r1 S1 => (some (r1, S1)))
abbrev rmX6_sum : Room := { frames := 1, cells := 0, slots := 0, locals := 22 }
set_option maxRecDepth 100000 in
set_option maxHeartbeats 4000000 in
theorem mX6_sum (l : Launch) (D : va_G) (ad : Nat → Nat) (cI cB : ClassId) (en : Nat → Nat) (S : St)  (ro : Int32) (So : St) (hs : fX6_sum  S = some (ro, So)) : uM l yX6_sum (wg yX6_sum cX6_sum 1 (some .int)) rmX6_sum (KB D ad cI cB en) D (wB ad cI cB) (AX 10 ad) [.ref (ad 0)] S (some (.int ro), So) := by
  refine uM_start (by decide) rfl ?_
  intro p e s m below meth c hx hb hr hlocks hml hown hts hK hP
  have hT : ∀ w ∈ wG, w.before _ s = true := fun w h => hts w (List.mem_cons_of_mem _ h)
  have hS : va_S (AX 10 ad s.heap.size) s.heap s.heap [] := va_S.rf
  have hown : s.vm.findClass RX6 = some m.cls := hown
  have C : CallFix p m c cX6_sum 1 s _ wG RX6 := ⟨hx, hb, hml, hown, hT⟩
  have hl := lv_entry ([.ref (ad 0)]) (n := 1) (Nat.le_of_ble_eq_true rfl)
  rw [lg_entry_eq]
  generalize (lg_sl ([.ref (ad 0)]) ++ List.replicate (1 - (lg_sl ([.ref (ad 0)])).length) Slot.unset).toArray = ls at hl ⊢
  have hl : lv_has ls 1 [(0, .ref (ad 0))] := hl
  unfold fX6_sum at hs
  refine lv_aload_n hx hb dX6_sum_0 rfl (lv_at hl 0 rfl) ?_
  refine gB_X6_memory hx hb hT hown hK hP (hT _ tF_X6_12) dX6_sum_1 ?_
  obtain ⟨r1, S1, h1, hs⟩ := bd_e hs
  refine kX3_weighted C tM_X6_103 ⟨Nat.le_of_ble_eq_true rfl, Nat.le_of_ble_eq_true rfl⟩ ⟨Nat.le_of_ble_eq_true rfl, Nat.le_of_ble_eq_true rfl⟩ hK hP hS hl.1 (rest := []) (Nat.le_of_ble_eq_true rfl) dX6_sum_4 h1 (fun H locs hP hS => ?_)
  exact u_iret hx hb hr hlocks hP hS hs dX6_sum_7
theorem kX6_sum {p : Program} {l : Launch} {e : Env} {R : Room} {s : State} {m : MethodId} {args : Array Value} {below : List Frame} {meth : Method} {c : Code} {H : Heap} {locs : List Loc} {cells slots : Nat} {Q : State → Prop} {cc : ByteArray} {pc nL : Nat} {ls : Array Slot} {rest : List Value} {D : va_G} {ad : Nat → Nat} {cI cB : ClassId} {en : Nat → Nat} {S : St} {own : String} {index : Nat}  {ro : Int32} {So : St} (C : CallFix p m c cc nL s args wG own) (hlk : Cond.methodLink own index yX6_sum ∈ wG) (hR : rmX6_sum.frames + 1 ≤ R.frames ∧ 8 + (1 + 11) + rmX6_sum.locals ≤ R.locals) (hc : cells ≤ R.cells ∧ slots ≤ R.slots) (hK : KB D ad cI cB en s) (hP : va_P D vwCl (wB ad cI cB S) H) (hS : va_S (AX 10 ad s.heap.size) s.heap H locs) (hls : ls.size = nL) (hrest : (rest.map fun v => v.category).sum ≤ 8) (hd : decode cc pc = .ok (.invokevirtual index, 3)) (hs : fX6_sum  S = some (ro, So)) (k : ∀ (H : Heap) (locs : List Loc), va_P D vwCl (wB ad cI cB So) H → va_S (AX 10 ad s.heap.size) s.heap H locs → W p l e R s m args below meth c H locs cells slots Q (F0 m (pc + 3) ls (.int ro :: rest))) : W p l e R s m args below meth c H locs cells slots Q (F0 m pc ls (.ref (ad 0) :: rest)) :=
  u_callV (n := 0) (mX6_sum l D ad cI cB en S  ro So hs) C uK_B (wg_V hlk tI_X6_sum tS_X6_sum tN_X6 tK_X6_sum) rfl rfl rfl (by decide +kernel) hR rfl (va_recv hK.1 hP (ci := 5) (q0 := 0) rfl rfl) hK hP hS hls hrest hd hc rfl k
