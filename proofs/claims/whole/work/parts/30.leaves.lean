def fJ7_fill7_b1 (x1 : Int32) (k1 : Int32 → St → Option St) (v1 : Int32) (S1 : St) : Option St :=
    (if 17 ≤ v1 then (some S1)
    else (gd (ixo v1 17 = true) (lt (sA S1 1 v1.toNatClampNeg x1) fun S2 => (lt (v1 + 1) fun v2 => (k1 v2 S2)))))
def fJ7_fill7_l1 (x1 : Int32) : Nat → Int32 → St → Option St
  | 0 => fun _ _ => none
  | n + 1 => fJ7_fill7_b1 x1 (fJ7_fill7_l1 x1 n)
def fJ7_fill7 (x1 : Int32) (S : St) : Option St :=
    (fJ7_fill7_l1 x1 18 0 S)
abbrev rmJ7_fill7 : Room := { frames := 0, cells := 0, slots := 0, locals := 0 }
set_option maxRecDepth 100000 in
set_option maxHeartbeats 4000000 in
theorem mJ7_fill7 (l : Launch) (D : va_G) (ad : Nat → Nat) (cI cB : ClassId) (en : Nat → Nat) (S : St) (x1 : Int32) (So : St) (hs : fJ7_fill7 x1 S = some So) : uM l yJ7_fill_53178 (wg yJ7_fill_53178 cJ7_fill_53178 4 none) rmJ7_fill7 (KB D ad cI cB en) D (wB ad cI cB) (AX 10 ad) [.ref (ad 7), .int x1] S (none, So) := by
  refine uM_start (by decide) rfl ?_
  intro p e s m below meth c hx hb hr hlocks hml hown hts hK hP
  have hT : ∀ w ∈ wG, w.before _ s = true := fun w h => hts w (List.mem_cons_of_mem _ h)
  have hS : va_S (AX 10 ad s.heap.size) s.heap s.heap [] := va_S.rf
  have hown : s.vm.findClass RJ7 = some m.cls := hown
  have C : CallFix p m c cJ7_fill_53178 4 s _ wG RJ7 := ⟨hx, hb, hml, hown, hT⟩
  have hl := lv_entry ([.ref (ad 7), .int x1]) (n := 4) (Nat.le_of_ble_eq_true rfl)
  rw [lg_entry_eq]
  generalize (lg_sl ([.ref (ad 7), .int x1]) ++ List.replicate (4 - (lg_sl ([.ref (ad 7), .int x1])).length) Slot.unset).toArray = ls at hl ⊢
  have hl : lv_has ls 4 [(0, .ref (ad 7)), (1, .int x1)] := hl
  unfold fJ7_fill7 at hs
  refine lv_iconst (v := 0) hx hb dJ7_fill_53178_0 (by decide) ?_
  refine lv_istore_n (lv' := [(2, .int 0), (0, .ref (ad 7)), (1, .int x1)]) hx hb dJ7_fill_53178_1 rfl hl (by decide) rfl (fun ls hl => ?_)
  refine lv_aload_n hx hb dJ7_fill_53178_2 rfl (lv_at hl 1 rfl) ?_
  refine va_alen hx hb hK.1 hP 7 0 rfl rfl (v := 17) rfl dJ7_fill_53178_3 ?_
  refine lv_istore_n (lv' := [(3, .int 17), (2, .int 0), (0, .ref (ad 7)), (1, .int x1)]) hx hb dJ7_fill_53178_4 rfl hl (by decide) rfl (fun ls hl => ?_)
  have L1 : ∀ (n : Nat) (v1 : Int32) (S1 : St) (H : Heap) (locs : List Loc) (ls : Array Slot), lv_has ls 4 [(3, .int 17), (2, .int v1), (0, .ref (ad 7)), (1, .int x1)] → va_P D vwCl (wB ad cI cB S1) H → va_S (AX 10 ad s.heap.size) s.heap H locs → fJ7_fill7_l1 x1 n v1 S1 = some So → W p l e rmJ7_fill7 s m ([.ref (ad 7), .int x1] : List Value).toArray below meth c H locs 0 0 (MQ below (uQ D (wB ad cI cB) (none, So) (AX 10 ad s.heap.size)) ([.ref (ad 7), .int x1] : List Value).toArray s 0 0 (AX 10 ad s.heap.size)) (F0 m 5 ls []) := by
    intro n
    induction n with
    | zero => intro v1 S1 H locs ls hl hP hS hs; cases hs
    | succ n ih =>
      intro v1 S1 H locs ls hl hP hS hs
      have hs : fJ7_fill7_b1 x1 (fJ7_fill7_l1 x1 n) v1 S1 = some So := hs
      unfold fJ7_fill7_b1 at hs
      refine lv_iload_n hx hb dJ7_fill_53178_5 rfl (lv_at hl 1 rfl) ?_
      refine lv_iload_n hx hb dJ7_fill_53178_6 rfl (lv_at hl 0 rfl) ?_
      refine lv_icmp_ge (tgt := 20) hx hb dJ7_fill_53178_7 (by decide) (fun c1 => ?_) (fun c1 => ?_)
      · have hs := if_t c1 hs
        exact u_vret hx hb hr hlocks hP hS hs dJ7_fill_53178_20
      · have hs := if_f c1 hs
        refine lv_aload_n hx hb dJ7_fill_53178_10 rfl (lv_at hl 2 rfl) ?_
        refine lv_iload_n hx hb dJ7_fill_53178_11 rfl (lv_at hl 1 rfl) ?_
        refine lv_iload_n hx hb dJ7_fill_53178_12 rfl (lv_at hl 3 rfl) ?_
        obtain ⟨h1, hs⟩ := gd_e hs
        obtain ⟨S2, h2, hs⟩ := lt_e hs
        refine sB_now hx hb hK hP hS (v := x1) (ixo_in h1) dJ7_fill_53178_13 h2 (fun H locs hP hS => ?_)
        obtain ⟨v2, h3, hs⟩ := lt_e hs
        refine lv_iinc (v := v2) (lv' := [(2, .int v2), (3, .int 17), (0, .ref (ad 7)), (1, .int x1)]) hx hb dJ7_fill_53178_14 hl (k := 1) rfl (by rw [h3]; rfl) (by decide) rfl (fun ls hl => ?_)
        refine lv_goto (tgt := 5) hx hb dJ7_fill_53178_17 (by decide) ?_
        exact ih v2 S2 _ _ _ (lv_sub hl [1, 0, 2, 3] rfl) hP hS hs
  exact L1 18 0 S _ _ _ (lv_sub hl [0, 1, 2, 3] rfl) hP hS hs
theorem kJ7_fill7 {p : Program} {l : Launch} {e : Env} {R : Room} {s : State} {m : MethodId} {args : Array Value} {below : List Frame} {meth : Method} {c : Code} {H : Heap} {locs : List Loc} {cells slots : Nat} {Q : State → Prop} {cc : ByteArray} {pc nL : Nat} {ls : Array Slot} {rest : List Value} {D : va_G} {ad : Nat → Nat} {cI cB : ClassId} {en : Nat → Nat} {S : St} {own : String} {index : Nat} {x1 : Int32} {So : St} (C : CallFix p m c cc nL s args wG own) (hlk : Cond.methodLink own index yJ7_fill_53178 ∈ wG) (hR : rmJ7_fill7.frames + 1 ≤ R.frames ∧ 8 + (4 + 11) + rmJ7_fill7.locals ≤ R.locals) (hc : cells ≤ R.cells ∧ slots ≤ R.slots) (hK : KB D ad cI cB en s) (hP : va_P D vwCl (wB ad cI cB S) H) (hS : va_S (AX 10 ad s.heap.size) s.heap H locs) (hls : ls.size = nL) (hrest : (rest.map fun v => v.category).sum ≤ 8) (hd : decode cc pc = .ok (.invokestatic index, 3)) (hs : fJ7_fill7 x1 S = some So) (k : ∀ (H : Heap) (locs : List Loc), va_P D vwCl (wB ad cI cB So) H → va_S (AX 10 ad s.heap.size) s.heap H locs → W p l e R s m args below meth c H locs cells slots Q (F0 m (pc + 3) ls (rest))) : W p l e R s m args below meth c H locs cells slots Q (F0 m pc ls (.int x1 :: .ref (ad 7) :: rest)) :=
  u_callS (n := 2) (mJ7_fill7 l D ad cI cB en S x1 So hs) C uK_B (wg_S hlk tI_J7_fill7 tN_J7 tK_J7_fill7) rfl rfl rfl (by decide +kernel) hR rfl hK hP hS hls hrest hd hc rfl k
def fJ7_fill9_b1 (x1 : Int32) (k1 : Int32 → St → Option St) (v1 : Int32) (S1 : St) : Option St :=
    (if 64 ≤ v1 then (some S1)
    else (gd (ixo v1 64 = true) (lt (sA S1 3 v1.toNatClampNeg x1) fun S2 => (lt (v1 + 1) fun v2 => (k1 v2 S2)))))
def fJ7_fill9_l1 (x1 : Int32) : Nat → Int32 → St → Option St
  | 0 => fun _ _ => none
  | n + 1 => fJ7_fill9_b1 x1 (fJ7_fill9_l1 x1 n)
def fJ7_fill9 (x1 : Int32) (S : St) : Option St :=
    (fJ7_fill9_l1 x1 65 0 S)
abbrev rmJ7_fill9 : Room := { frames := 0, cells := 0, slots := 0, locals := 0 }
set_option maxRecDepth 100000 in
set_option maxHeartbeats 4000000 in
theorem mJ7_fill9 (l : Launch) (D : va_G) (ad : Nat → Nat) (cI cB : ClassId) (en : Nat → Nat) (S : St) (x1 : Int32) (So : St) (hs : fJ7_fill9 x1 S = some So) : uM l yJ7_fill_53178 (wg yJ7_fill_53178 cJ7_fill_53178 4 none) rmJ7_fill9 (KB D ad cI cB en) D (wB ad cI cB) (AX 10 ad) [.ref (ad 9), .int x1] S (none, So) := by
  refine uM_start (by decide) rfl ?_
  intro p e s m below meth c hx hb hr hlocks hml hown hts hK hP
  have hT : ∀ w ∈ wG, w.before _ s = true := fun w h => hts w (List.mem_cons_of_mem _ h)
  have hS : va_S (AX 10 ad s.heap.size) s.heap s.heap [] := va_S.rf
  have hown : s.vm.findClass RJ7 = some m.cls := hown
  have C : CallFix p m c cJ7_fill_53178 4 s _ wG RJ7 := ⟨hx, hb, hml, hown, hT⟩
  have hl := lv_entry ([.ref (ad 9), .int x1]) (n := 4) (Nat.le_of_ble_eq_true rfl)
  rw [lg_entry_eq]
  generalize (lg_sl ([.ref (ad 9), .int x1]) ++ List.replicate (4 - (lg_sl ([.ref (ad 9), .int x1])).length) Slot.unset).toArray = ls at hl ⊢
  have hl : lv_has ls 4 [(0, .ref (ad 9)), (1, .int x1)] := hl
  unfold fJ7_fill9 at hs
  refine lv_iconst (v := 0) hx hb dJ7_fill_53178_0 (by decide) ?_
  refine lv_istore_n (lv' := [(2, .int 0), (0, .ref (ad 9)), (1, .int x1)]) hx hb dJ7_fill_53178_1 rfl hl (by decide) rfl (fun ls hl => ?_)
  refine lv_aload_n hx hb dJ7_fill_53178_2 rfl (lv_at hl 1 rfl) ?_
  refine va_alen hx hb hK.1 hP 9 0 rfl rfl (v := 64) rfl dJ7_fill_53178_3 ?_
  refine lv_istore_n (lv' := [(3, .int 64), (2, .int 0), (0, .ref (ad 9)), (1, .int x1)]) hx hb dJ7_fill_53178_4 rfl hl (by decide) rfl (fun ls hl => ?_)
  have L1 : ∀ (n : Nat) (v1 : Int32) (S1 : St) (H : Heap) (locs : List Loc) (ls : Array Slot), lv_has ls 4 [(3, .int 64), (2, .int v1), (0, .ref (ad 9)), (1, .int x1)] → va_P D vwCl (wB ad cI cB S1) H → va_S (AX 10 ad s.heap.size) s.heap H locs → fJ7_fill9_l1 x1 n v1 S1 = some So → W p l e rmJ7_fill9 s m ([.ref (ad 9), .int x1] : List Value).toArray below meth c H locs 0 0 (MQ below (uQ D (wB ad cI cB) (none, So) (AX 10 ad s.heap.size)) ([.ref (ad 9), .int x1] : List Value).toArray s 0 0 (AX 10 ad s.heap.size)) (F0 m 5 ls []) := by
    intro n
    induction n with
    | zero => intro v1 S1 H locs ls hl hP hS hs; cases hs
    | succ n ih =>
      intro v1 S1 H locs ls hl hP hS hs
      have hs : fJ7_fill9_b1 x1 (fJ7_fill9_l1 x1 n) v1 S1 = some So := hs
      unfold fJ7_fill9_b1 at hs
      refine lv_iload_n hx hb dJ7_fill_53178_5 rfl (lv_at hl 1 rfl) ?_
      refine lv_iload_n hx hb dJ7_fill_53178_6 rfl (lv_at hl 0 rfl) ?_
      refine lv_icmp_ge (tgt := 20) hx hb dJ7_fill_53178_7 (by decide) (fun c1 => ?_) (fun c1 => ?_)
      · have hs := if_t c1 hs
        exact u_vret hx hb hr hlocks hP hS hs dJ7_fill_53178_20
      · have hs := if_f c1 hs
        refine lv_aload_n hx hb dJ7_fill_53178_10 rfl (lv_at hl 2 rfl) ?_
        refine lv_iload_n hx hb dJ7_fill_53178_11 rfl (lv_at hl 1 rfl) ?_
        refine lv_iload_n hx hb dJ7_fill_53178_12 rfl (lv_at hl 3 rfl) ?_
        obtain ⟨h1, hs⟩ := gd_e hs
        obtain ⟨S2, h2, hs⟩ := lt_e hs
        refine sB_counts hx hb hK hP hS (v := x1) (ixo_in h1) dJ7_fill_53178_13 h2 (fun H locs hP hS => ?_)
        obtain ⟨v2, h3, hs⟩ := lt_e hs
        refine lv_iinc (v := v2) (lv' := [(2, .int v2), (3, .int 64), (0, .ref (ad 9)), (1, .int x1)]) hx hb dJ7_fill_53178_14 hl (k := 1) rfl (by rw [h3]; rfl) (by decide) rfl (fun ls hl => ?_)
        refine lv_goto (tgt := 5) hx hb dJ7_fill_53178_17 (by decide) ?_
        exact ih v2 S2 _ _ _ (lv_sub hl [1, 0, 2, 3] rfl) hP hS hs
  exact L1 65 0 S _ _ _ (lv_sub hl [0, 1, 2, 3] rfl) hP hS hs
theorem kJ7_fill9 {p : Program} {l : Launch} {e : Env} {R : Room} {s : State} {m : MethodId} {args : Array Value} {below : List Frame} {meth : Method} {c : Code} {H : Heap} {locs : List Loc} {cells slots : Nat} {Q : State → Prop} {cc : ByteArray} {pc nL : Nat} {ls : Array Slot} {rest : List Value} {D : va_G} {ad : Nat → Nat} {cI cB : ClassId} {en : Nat → Nat} {S : St} {own : String} {index : Nat} {x1 : Int32} {So : St} (C : CallFix p m c cc nL s args wG own) (hlk : Cond.methodLink own index yJ7_fill_53178 ∈ wG) (hR : rmJ7_fill9.frames + 1 ≤ R.frames ∧ 8 + (4 + 11) + rmJ7_fill9.locals ≤ R.locals) (hc : cells ≤ R.cells ∧ slots ≤ R.slots) (hK : KB D ad cI cB en s) (hP : va_P D vwCl (wB ad cI cB S) H) (hS : va_S (AX 10 ad s.heap.size) s.heap H locs) (hls : ls.size = nL) (hrest : (rest.map fun v => v.category).sum ≤ 8) (hd : decode cc pc = .ok (.invokestatic index, 3)) (hs : fJ7_fill9 x1 S = some So) (k : ∀ (H : Heap) (locs : List Loc), va_P D vwCl (wB ad cI cB So) H → va_S (AX 10 ad s.heap.size) s.heap H locs → W p l e R s m args below meth c H locs cells slots Q (F0 m (pc + 3) ls (rest))) : W p l e R s m args below meth c H locs cells slots Q (F0 m pc ls (.int x1 :: .ref (ad 9) :: rest)) :=
  u_callS (n := 2) (mJ7_fill9 l D ad cI cB en S x1 So hs) C uK_B (wg_S hlk tI_J7_fill9 tN_J7 tK_J7_fill9) rfl rfl rfl (by decide +kernel) hR rfl hK hP hS hls hrest hd hc rfl k
def fX4_clear  (S : St) : Option St :=
    (bv (fJ7_fill7 0 S) fun S1 => (gd (ixo 15 17 = true) (lt (sA S1 1 (15 : Int32).toNatClampNeg 1024) fun S2 => (lt (sI S2 2 1024) fun S3 => (lt (sI S3 3 8192) fun S4 => (some S4))))))
abbrev rmX4_clear : Room := { frames := 1, cells := 0, slots := 0, locals := 23 }
set_option maxRecDepth 100000 in
set_option maxHeartbeats 4000000 in
theorem mX4_clear (l : Launch) (D : va_G) (ad : Nat → Nat) (cI cB : ClassId) (en : Nat → Nat) (S : St)  (So : St) (hs : fX4_clear  S = some So) : uM l yX4_clear (wg yX4_clear cX4_clear 1 none) rmX4_clear (KB D ad cI cB en) D (wB ad cI cB) (AX 10 ad) [.ref (ad 2)] S (none, So) := by
  refine uM_start (by decide) rfl ?_
  intro p e s m below meth c hx hb hr hlocks hml hown hts hK hP
  have hT : ∀ w ∈ wG, w.before _ s = true := fun w h => hts w (List.mem_cons_of_mem _ h)
  have hS : va_S (AX 10 ad s.heap.size) s.heap s.heap [] := va_S.rf
  have hown : s.vm.findClass RX4 = some m.cls := hown
  have C : CallFix p m c cX4_clear 1 s _ wG RX4 := ⟨hx, hb, hml, hown, hT⟩
  have hl := lv_entry ([.ref (ad 2)]) (n := 1) (Nat.le_of_ble_eq_true rfl)
  rw [lg_entry_eq]
  generalize (lg_sl ([.ref (ad 2)]) ++ List.replicate (1 - (lg_sl ([.ref (ad 2)])).length) Slot.unset).toArray = ls at hl ⊢
  have hl : lv_has ls 1 [(0, .ref (ad 2))] := hl
  unfold fX4_clear at hs
  refine lv_aload_n hx hb dX4_clear_0 rfl (lv_at hl 0 rfl) ?_
  refine gB_X4_now hx hb hT hown hK hP (hT _ tF_X4_9) dX4_clear_1 ?_
  refine lv_iconst (v := 0) hx hb dX4_clear_4 (by decide) ?_
  obtain ⟨S1, h1, hs⟩ := bv_e hs
  refine kJ7_fill7 C tM_X4_25 ⟨Nat.le_of_ble_eq_true rfl, Nat.le_of_ble_eq_true rfl⟩ ⟨Nat.le_of_ble_eq_true rfl, Nat.le_of_ble_eq_true rfl⟩ hK hP hS hl.1 (rest := []) (Nat.le_of_ble_eq_true rfl) dX4_clear_5 h1 (fun H locs hP hS => ?_)
  refine lv_aload_n hx hb dX4_clear_8 rfl (lv_at hl 0 rfl) ?_
  refine gB_X4_now hx hb hT hown hK hP (hT _ tF_X4_9) dX4_clear_9 ?_
  refine lv_bipush (v := 15) hx hb dX4_clear_12 (by decide) ?_
  refine lv_sipush (v := 1024) hx hb dX4_clear_14 (by decide) ?_
  obtain ⟨h2, hs⟩ := gd_e hs
  obtain ⟨S2, h3, hs⟩ := lt_e hs
  refine sB_now hx hb hK hP hS (v := 1024) (ixo_in h2) dX4_clear_17 h3 (fun H locs hP hS => ?_)
  refine lv_aload_n hx hb dX4_clear_18 rfl (lv_at hl 0 rfl) ?_
  refine lv_sipush (v := 1024) hx hb dX4_clear_19 (by decide) ?_
  obtain ⟨S3, h4, hs⟩ := lt_e hs
  refine pB_X4_pc hx hb hT hown hK hP hS (hT _ tF_X4_18) dX4_clear_22 (v := 1024) h4 (fun H locs hP hS => ?_)
  refine lv_aload_n hx hb dX4_clear_25 rfl (lv_at hl 0 rfl) ?_
  refine lv_sipush (v := 8192) hx hb dX4_clear_26 (by decide) ?_
  obtain ⟨S4, h5, hs⟩ := lt_e hs
  refine pB_X4_sr hx hb hT hown hK hP hS (hT _ tF_X4_22) dX4_clear_29 (v := 8192) h5 (fun H locs hP hS => ?_)
  exact u_vret hx hb hr hlocks hP hS hs dX4_clear_32
theorem kX4_clear {p : Program} {l : Launch} {e : Env} {R : Room} {s : State} {m : MethodId} {args : Array Value} {below : List Frame} {meth : Method} {c : Code} {H : Heap} {locs : List Loc} {cells slots : Nat} {Q : State → Prop} {cc : ByteArray} {pc nL : Nat} {ls : Array Slot} {rest : List Value} {D : va_G} {ad : Nat → Nat} {cI cB : ClassId} {en : Nat → Nat} {S : St} {own : String} {index : Nat}  {So : St} (C : CallFix p m c cc nL s args wG own) (hlk : Cond.methodLink own index yX4_clear ∈ wG) (hR : rmX4_clear.frames + 1 ≤ R.frames ∧ 8 + (1 + 11) + rmX4_clear.locals ≤ R.locals) (hc : cells ≤ R.cells ∧ slots ≤ R.slots) (hK : KB D ad cI cB en s) (hP : va_P D vwCl (wB ad cI cB S) H) (hS : va_S (AX 10 ad s.heap.size) s.heap H locs) (hls : ls.size = nL) (hrest : (rest.map fun v => v.category).sum ≤ 8) (hd : decode cc pc = .ok (.invokevirtual index, 3)) (hs : fX4_clear  S = some So) (k : ∀ (H : Heap) (locs : List Loc), va_P D vwCl (wB ad cI cB So) H → va_S (AX 10 ad s.heap.size) s.heap H locs → W p l e R s m args below meth c H locs cells slots Q (F0 m (pc + 3) ls (rest))) : W p l e R s m args below meth c H locs cells slots Q (F0 m pc ls (.ref (ad 2) :: rest)) :=
  u_callV (n := 0) (mX4_clear l D ad cI cB en S  So hs) C uK_B (wg_V hlk tI_X4_clear tS_X4_clear tN_X4 tK_X4_clear) rfl rfl rfl (by decide +kernel) hR rfl (va_recv hK.1 hP (ci := 4) (q0 := 2) rfl rfl) hK hP hS hls hrest hd hc rfl k
def fX4_stackOf (x1 : Int32) (S : St) : Option (Int32 × St) :=
    (if ((S.1 3) &&& 8192) = x1 then (gd (ixo 15 17 = true) (some ((S.2.2 1 (15 : Int32).toNatClampNeg), S)))
    else (gd (ixo 16 17 = true) (some ((S.2.2 1 (16 : Int32).toNatClampNeg), S))))
abbrev rmX4_stackOf : Room := { frames := 0, cells := 0, slots := 0, locals := 0 }
set_option maxRecDepth 100000 in
set_option maxHeartbeats 4000000 in
theorem mX4_stackOf (l : Launch) (D : va_G) (ad : Nat → Nat) (cI cB : ClassId) (en : Nat → Nat) (S : St) (x1 : Int32) (ro : Int32) (So : St) (hs : fX4_stackOf x1 S = some (ro, So)) : uM l yX4_stackOf (wg yX4_stackOf cX4_stackOf 2 (some .int)) rmX4_stackOf (KB D ad cI cB en) D (wB ad cI cB) (AX 10 ad) [.ref (ad 2), .int x1] S (some (.int ro), So) := by
  refine uM_start (by decide) rfl ?_
  intro p e s m below meth c hx hb hr hlocks hml hown hts hK hP
  have hT : ∀ w ∈ wG, w.before _ s = true := fun w h => hts w (List.mem_cons_of_mem _ h)
  have hS : va_S (AX 10 ad s.heap.size) s.heap s.heap [] := va_S.rf
  have hown : s.vm.findClass RX4 = some m.cls := hown
  have C : CallFix p m c cX4_stackOf 2 s _ wG RX4 := ⟨hx, hb, hml, hown, hT⟩
  have hl := lv_entry ([.ref (ad 2), .int x1]) (n := 2) (Nat.le_of_ble_eq_true rfl)
  rw [lg_entry_eq]
  generalize (lg_sl ([.ref (ad 2), .int x1]) ++ List.replicate (2 - (lg_sl ([.ref (ad 2), .int x1])).length) Slot.unset).toArray = ls at hl ⊢
  have hl : lv_has ls 2 [(0, .ref (ad 2)), (1, .int x1)] := hl
  unfold fX4_stackOf at hs
  refine lv_aload_n hx hb dX4_stackOf_0 rfl (lv_at hl 0 rfl) ?_
  refine gB_X4_now hx hb hT hown hK hP (hT _ tF_X4_9) dX4_stackOf_1 ?_
  refine lv_aload_n hx hb dX4_stackOf_4 rfl (lv_at hl 0 rfl) ?_
  refine gB_X4_sr hx hb hT hown hK hP (hT _ tF_X4_22) dX4_stackOf_5 ?_
  refine lv_sipush (v := 8192) hx hb dX4_stackOf_8 (by decide) ?_
  refine lv_iand hx hb dX4_stackOf_11 ?_
  refine lv_iload_n hx hb dX4_stackOf_12 rfl (lv_at hl 1 rfl) ?_
  refine lv_icmp_ne (tgt := 21) hx hb dX4_stackOf_13 (by decide) (fun c1 => ?_) (fun c1 => ?_)
  · have hs := if_f c1 hs
    refine lv_bipush (v := 16) hx hb dX4_stackOf_21 (by decide) ?_
    obtain ⟨h1, hs⟩ := gd_e hs
    refine lB_now hx hb hK hP (ixo_in h1) dX4_stackOf_23 ?_
    exact u_iret hx hb hr hlocks hP hS hs dX4_stackOf_24
  · have hs := if_t c1 hs
    refine lv_bipush (v := 15) hx hb dX4_stackOf_16 (by decide) ?_
    refine lv_goto (tgt := 23) hx hb dX4_stackOf_18 (by decide) ?_
    obtain ⟨h2, hs⟩ := gd_e hs
    refine lB_now hx hb hK hP (ixo_in h2) dX4_stackOf_23 ?_
    exact u_iret hx hb hr hlocks hP hS hs dX4_stackOf_24
theorem kX4_stackOf {p : Program} {l : Launch} {e : Env} {R : Room} {s : State} {m : MethodId} {args : Array Value} {below : List Frame} {meth : Method} {c : Code} {H : Heap} {locs : List Loc} {cells slots : Nat} {Q : State → Prop} {cc : ByteArray} {pc nL : Nat} {ls : Array Slot} {rest : List Value} {D : va_G} {ad : Nat → Nat} {cI cB : ClassId} {en : Nat → Nat} {S : St} {own : String} {index : Nat} {x1 : Int32} {ro : Int32} {So : St} (C : CallFix p m c cc nL s args wG own) (hlk : Cond.methodLink own index yX4_stackOf ∈ wG) (hR : rmX4_stackOf.frames + 1 ≤ R.frames ∧ 8 + (2 + 11) + rmX4_stackOf.locals ≤ R.locals) (hc : cells ≤ R.cells ∧ slots ≤ R.slots) (hK : KB D ad cI cB en s) (hP : va_P D vwCl (wB ad cI cB S) H) (hS : va_S (AX 10 ad s.heap.size) s.heap H locs) (hls : ls.size = nL) (hrest : (rest.map fun v => v.category).sum ≤ 8) (hd : decode cc pc = .ok (.invokevirtual index, 3)) (hs : fX4_stackOf x1 S = some (ro, So)) (k : ∀ (H : Heap) (locs : List Loc), va_P D vwCl (wB ad cI cB So) H → va_S (AX 10 ad s.heap.size) s.heap H locs → W p l e R s m args below meth c H locs cells slots Q (F0 m (pc + 3) ls (.int ro :: rest))) : W p l e R s m args below meth c H locs cells slots Q (F0 m pc ls (.int x1 :: .ref (ad 2) :: rest)) :=
  u_callV (n := 1) (mX4_stackOf l D ad cI cB en S x1 ro So hs) C uK_B (wg_V hlk tI_X4_stackOf tS_X4_stackOf tN_X4 tK_X4_stackOf) rfl rfl rfl (by decide +kernel) hR rfl (va_recv hK.1 hP (ci := 4) (q0 := 2) rfl rfl) hK hP hS hls hrest hd hc rfl k
def fX4_get (x1 : Int32) (S : St) : Option (Int32 × St) :=
    (gd (ixo (x1 &&& 15) 17 = true) (some ((S.2.2 1 (x1 &&& 15).toNatClampNeg), S)))
abbrev rmX4_get : Room := { frames := 0, cells := 0, slots := 0, locals := 0 }
set_option maxRecDepth 100000 in
set_option maxHeartbeats 4000000 in
theorem mX4_get (l : Launch) (D : va_G) (ad : Nat → Nat) (cI cB : ClassId) (en : Nat → Nat) (S : St) (x1 : Int32) (ro : Int32) (So : St) (hs : fX4_get x1 S = some (ro, So)) : uM l yX4_get (wg yX4_get cX4_get 2 (some .int)) rmX4_get (KB D ad cI cB en) D (wB ad cI cB) (AX 10 ad) [.ref (ad 2), .int x1] S (some (.int ro), So) := by
  refine uM_start (by decide) rfl ?_
  intro p e s m below meth c hx hb hr hlocks hml hown hts hK hP
  have hT : ∀ w ∈ wG, w.before _ s = true := fun w h => hts w (List.mem_cons_of_mem _ h)
  have hS : va_S (AX 10 ad s.heap.size) s.heap s.heap [] := va_S.rf
  have hown : s.vm.findClass RX4 = some m.cls := hown
  have C : CallFix p m c cX4_get 2 s _ wG RX4 := ⟨hx, hb, hml, hown, hT⟩
  have hl := lv_entry ([.ref (ad 2), .int x1]) (n := 2) (Nat.le_of_ble_eq_true rfl)
  rw [lg_entry_eq]
  generalize (lg_sl ([.ref (ad 2), .int x1]) ++ List.replicate (2 - (lg_sl ([.ref (ad 2), .int x1])).length) Slot.unset).toArray = ls at hl ⊢
  have hl : lv_has ls 2 [(0, .ref (ad 2)), (1, .int x1)] := hl
  unfold fX4_get at hs
  refine lv_aload_n hx hb dX4_get_0 rfl (lv_at hl 0 rfl) ?_
  refine gB_X4_now hx hb hT hown hK hP (hT _ tF_X4_9) dX4_get_1 ?_
  refine lv_iload_n hx hb dX4_get_4 rfl (lv_at hl 1 rfl) ?_
  refine lv_bipush (v := 15) hx hb dX4_get_5 (by decide) ?_
  refine lv_iand hx hb dX4_get_7 ?_
  obtain ⟨h1, hs⟩ := gd_e hs
  refine lB_now hx hb hK hP (ixo_in h1) dX4_get_8 ?_
  exact u_iret hx hb hr hlocks hP hS hs dX4_get_9
theorem kX4_get {p : Program} {l : Launch} {e : Env} {R : Room} {s : State} {m : MethodId} {args : Array Value} {below : List Frame} {meth : Method} {c : Code} {H : Heap} {locs : List Loc} {cells slots : Nat} {Q : State → Prop} {cc : ByteArray} {pc nL : Nat} {ls : Array Slot} {rest : List Value} {D : va_G} {ad : Nat → Nat} {cI cB : ClassId} {en : Nat → Nat} {S : St} {own : String} {index : Nat} {x1 : Int32} {ro : Int32} {So : St} (C : CallFix p m c cc nL s args wG own) (hlk : Cond.methodLink own index yX4_get ∈ wG) (hR : rmX4_get.frames + 1 ≤ R.frames ∧ 8 + (2 + 11) + rmX4_get.locals ≤ R.locals) (hc : cells ≤ R.cells ∧ slots ≤ R.slots) (hK : KB D ad cI cB en s) (hP : va_P D vwCl (wB ad cI cB S) H) (hS : va_S (AX 10 ad s.heap.size) s.heap H locs) (hls : ls.size = nL) (hrest : (rest.map fun v => v.category).sum ≤ 8) (hd : decode cc pc = .ok (.invokevirtual index, 3)) (hs : fX4_get x1 S = some (ro, So)) (k : ∀ (H : Heap) (locs : List Loc), va_P D vwCl (wB ad cI cB So) H → va_S (AX 10 ad s.heap.size) s.heap H locs → W p l e R s m args below meth c H locs cells slots Q (F0 m (pc + 3) ls (.int ro :: rest))) : W p l e R s m args below meth c H locs cells slots Q (F0 m pc ls (.int x1 :: .ref (ad 2) :: rest)) :=
  u_callV (n := 1) (mX4_get l D ad cI cB en S x1 ro So hs) C uK_B (wg_V hlk tI_X4_get tS_X4_get tN_X4 tK_X4_get) rfl rfl rfl (by decide +kernel) hR rfl (va_recv hK.1 hP (ci := 4) (q0 := 2) rfl rfl) hK hP hS hls hrest hd hc rfl k
def fX4_setStatus (x1 : Int32) (S : St) : Option St :=
    (jn (fun (S1 : St) => (lt (sI S1 3 (x1 &&& 42783)) fun S2 => (some S2))) fun K1 =>
    (if ((x1 ^^^ (S.1 3)) &&& 8192) = 0 then (K1 S)
    else (gd (ixo 16 17 = true) (lt ((S.2.2 1 (16 : Int32).toNatClampNeg) : Int32) fun v1 => (gd (ixo 15 17 = true) (gd (ixo 16 17 = true) (lt (sA S 1 (16 : Int32).toNatClampNeg (S.2.2 1 (15 : Int32).toNatClampNeg)) fun S3 => (gd (ixo 15 17 = true) (lt (sA S3 1 (15 : Int32).toNatClampNeg v1) fun S4 => (K1 S4))))))))))
abbrev rmX4_setStatus : Room := { frames := 0, cells := 0, slots := 0, locals := 0 }
set_option maxRecDepth 100000 in
set_option maxHeartbeats 4000000 in
theorem mX4_setStatus (l : Launch) (D : va_G) (ad : Nat → Nat) (cI cB : ClassId) (en : Nat → Nat) (S : St) (x1 : Int32) (So : St) (hs : fX4_setStatus x1 S = some So) : uM l yX4_setStatus (wg yX4_setStatus cX4_setStatus 3 none) rmX4_setStatus (KB D ad cI cB en) D (wB ad cI cB) (AX 10 ad) [.ref (ad 2), .int x1] S (none, So) := by
  refine uM_start (by decide) rfl ?_
  intro p e s m below meth c hx hb hr hlocks hml hown hts hK hP
  have hT : ∀ w ∈ wG, w.before _ s = true := fun w h => hts w (List.mem_cons_of_mem _ h)
  have hS : va_S (AX 10 ad s.heap.size) s.heap s.heap [] := va_S.rf
  have hown : s.vm.findClass RX4 = some m.cls := hown
  have C : CallFix p m c cX4_setStatus 3 s _ wG RX4 := ⟨hx, hb, hml, hown, hT⟩
  have hl := lv_entry ([.ref (ad 2), .int x1]) (n := 3) (Nat.le_of_ble_eq_true rfl)
  rw [lg_entry_eq]
  generalize (lg_sl ([.ref (ad 2), .int x1]) ++ List.replicate (3 - (lg_sl ([.ref (ad 2), .int x1])).length) Slot.unset).toArray = ls at hl ⊢
  have hl : lv_has ls 3 [(0, .ref (ad 2)), (1, .int x1)] := hl
  unfold fX4_setStatus at hs
  refine lv_iload_n hx hb dX4_setStatus_0 rfl (lv_at hl 1 rfl) ?_
  refine lv_aload_n hx hb dX4_setStatus_1 rfl (lv_at hl 0 rfl) ?_
  refine gB_X4_sr hx hb hT hown hK hP (hT _ tF_X4_22) dX4_setStatus_2 ?_
  refine lv_ixor hx hb dX4_setStatus_5 ?_
  refine lv_sipush (v := 8192) hx hb dX4_setStatus_6 (by decide) ?_
  refine lv_iand hx hb dX4_setStatus_9 ?_
  refine jn_e hs (fun K1 => ∀ (S1 : St) (H : Heap) (locs : List Loc) (ls : Array Slot), lv_has ls 3 [(0, .ref (ad 2)), (1, .int x1)] → va_P D vwCl (wB ad cI cB S1) H → va_S (AX 10 ad s.heap.size) s.heap H locs → K1 S1 = some So → W p l e rmX4_setStatus s m ([.ref (ad 2), .int x1] : List Value).toArray below meth c H locs 0 0 (MQ below (uQ D (wB ad cI cB) (none, So) (AX 10 ad s.heap.size)) ([.ref (ad 2), .int x1] : List Value).toArray s 0 0 (AX 10 ad s.heap.size)) (F0 m 43 ls [])) ?_ (fun K1 J1 hs => ?_)
  · intro S1 H locs ls hl hP hS hs
    refine lv_aload_n hx hb dX4_setStatus_43 rfl (lv_at hl 0 rfl) ?_
    refine lv_iload_n hx hb dX4_setStatus_44 rfl (lv_at hl 1 rfl) ?_
    refine lv_ldc (v := 42783) hx hb hown (hT _ tC_X4_43) dX4_setStatus_45 ?_
    refine lv_iand hx hb dX4_setStatus_47 ?_
    obtain ⟨S2, h1, hs⟩ := lt_e hs
    refine pB_X4_sr hx hb hT hown hK hP hS (hT _ tF_X4_22) dX4_setStatus_48 (v := (x1 &&& 42783)) h1 (fun H locs hP hS => ?_)
    exact u_vret hx hb hr hlocks hP hS hs dX4_setStatus_51
  ·
    refine lv_if_eq (tgt := 43) hx hb dX4_setStatus_10 (by decide) (fun c1 => ?_) (fun c1 => ?_)
    · have hs := if_t c1 hs
      exact J1 S _ _ _ (lv_sub hl [0, 1] rfl) hP hS hs
    · have hs := if_f c1 hs
      refine lv_aload_n hx hb dX4_setStatus_13 rfl (lv_at hl 0 rfl) ?_
      refine gB_X4_now hx hb hT hown hK hP (hT _ tF_X4_9) dX4_setStatus_14 ?_
      refine lv_bipush (v := 16) hx hb dX4_setStatus_17 (by decide) ?_
      obtain ⟨h2, hs⟩ := gd_e hs
      refine lB_now hx hb hK hP (ixo_in h2) dX4_setStatus_19 ?_
      obtain ⟨v1, h3, hs⟩ := lt_e hs
      refine u_top h3 ?_
      refine lv_istore_n (lv' := [(2, .int v1), (0, .ref (ad 2)), (1, .int x1)]) hx hb dX4_setStatus_20 rfl hl (by decide) rfl (fun ls hl => ?_)
      refine lv_aload_n hx hb dX4_setStatus_21 rfl (lv_at hl 1 rfl) ?_
      refine gB_X4_now hx hb hT hown hK hP (hT _ tF_X4_9) dX4_setStatus_22 ?_
      refine lv_bipush (v := 16) hx hb dX4_setStatus_25 (by decide) ?_
      refine lv_aload_n hx hb dX4_setStatus_27 rfl (lv_at hl 1 rfl) ?_
      refine gB_X4_now hx hb hT hown hK hP (hT _ tF_X4_9) dX4_setStatus_28 ?_
      refine lv_bipush (v := 15) hx hb dX4_setStatus_31 (by decide) ?_
      obtain ⟨h4, hs⟩ := gd_e hs
      refine lB_now hx hb hK hP (ixo_in h4) dX4_setStatus_33 ?_
      obtain ⟨h5, hs⟩ := gd_e hs
      obtain ⟨S3, h6, hs⟩ := lt_e hs
      refine sB_now hx hb hK hP hS (v := (S.2.2 1 (15 : Int32).toNatClampNeg)) (ixo_in h5) dX4_setStatus_34 h6 (fun H locs hP hS => ?_)
      refine lv_aload_n hx hb dX4_setStatus_35 rfl (lv_at hl 1 rfl) ?_
      refine gB_X4_now hx hb hT hown hK hP (hT _ tF_X4_9) dX4_setStatus_36 ?_
      refine lv_bipush (v := 15) hx hb dX4_setStatus_39 (by decide) ?_
      refine lv_iload_n hx hb dX4_setStatus_41 rfl (lv_at hl 0 rfl) ?_
      obtain ⟨h7, hs⟩ := gd_e hs
      obtain ⟨S4, h8, hs⟩ := lt_e hs
      refine sB_now hx hb hK hP hS (v := v1) (ixo_in h7) dX4_setStatus_42 h8 (fun H locs hP hS => ?_)
      exact J1 S4 _ _ _ (lv_sub hl [1, 2] rfl) hP hS hs
theorem kX4_setStatus {p : Program} {l : Launch} {e : Env} {R : Room} {s : State} {m : MethodId} {args : Array Value} {below : List Frame} {meth : Method} {c : Code} {H : Heap} {locs : List Loc} {cells slots : Nat} {Q : State → Prop} {cc : ByteArray} {pc nL : Nat} {ls : Array Slot} {rest : List Value} {D : va_G} {ad : Nat → Nat} {cI cB : ClassId} {en : Nat → Nat} {S : St} {own : String} {index : Nat} {x1 : Int32} {So : St} (C : CallFix p m c cc nL s args wG own) (hlk : Cond.methodLink own index yX4_setStatus ∈ wG) (hR : rmX4_setStatus.frames + 1 ≤ R.frames ∧ 8 + (3 + 11) + rmX4_setStatus.locals ≤ R.locals) (hc : cells ≤ R.cells ∧ slots ≤ R.slots) (hK : KB D ad cI cB en s) (hP : va_P D vwCl (wB ad cI cB S) H) (hS : va_S (AX 10 ad s.heap.size) s.heap H locs) (hls : ls.size = nL) (hrest : (rest.map fun v => v.category).sum ≤ 8) (hd : decode cc pc = .ok (.invokevirtual index, 3)) (hs : fX4_setStatus x1 S = some So) (k : ∀ (H : Heap) (locs : List Loc), va_P D vwCl (wB ad cI cB So) H → va_S (AX 10 ad s.heap.size) s.heap H locs → W p l e R s m args below meth c H locs cells slots Q (F0 m (pc + 3) ls (rest))) : W p l e R s m args below meth c H locs cells slots Q (F0 m pc ls (.int x1 :: .ref (ad 2) :: rest)) :=
  u_callV (n := 1) (mX4_setStatus l D ad cI cB en S x1 So hs) C uK_B (wg_V hlk tI_X4_setStatus tS_X4_setStatus tN_X4 tK_X4_setStatus) rfl rfl rfl (by decide +kernel) hR rfl (va_recv hK.1 hP (ci := 4) (q0 := 2) rfl rfl) hK hP hS hls hrest hd hc rfl k
def fX4_setStackOf (x1 : Int32) (x2 : Int32) (S : St) : Option St :=
    (if ((S.1 3) &&& 8192) = x1 then (gd (ixo 15 17 = true) (lt (sA S 1 (15 : Int32).toNatClampNeg x2) fun S2 => (some S2)))
    else (gd (ixo 16 17 = true) (lt (sA S 1 (16 : Int32).toNatClampNeg x2) fun S1 => (some S1))))
abbrev rmX4_setStackOf : Room := { frames := 0, cells := 0, slots := 0, locals := 0 }
set_option maxRecDepth 100000 in
set_option maxHeartbeats 4000000 in
theorem mX4_setStackOf (l : Launch) (D : va_G) (ad : Nat → Nat) (cI cB : ClassId) (en : Nat → Nat) (S : St) (x1 : Int32) (x2 : Int32) (So : St) (hs : fX4_setStackOf x1 x2 S = some So) : uM l yX4_setStackOf (wg yX4_setStackOf cX4_setStackOf 3 none) rmX4_setStackOf (KB D ad cI cB en) D (wB ad cI cB) (AX 10 ad) [.ref (ad 2), .int x1, .int x2] S (none, So) := by
  refine uM_start (by decide) rfl ?_
  intro p e s m below meth c hx hb hr hlocks hml hown hts hK hP
  have hT : ∀ w ∈ wG, w.before _ s = true := fun w h => hts w (List.mem_cons_of_mem _ h)
  have hS : va_S (AX 10 ad s.heap.size) s.heap s.heap [] := va_S.rf
  have hown : s.vm.findClass RX4 = some m.cls := hown
  have C : CallFix p m c cX4_setStackOf 3 s _ wG RX4 := ⟨hx, hb, hml, hown, hT⟩
  have hl := lv_entry ([.ref (ad 2), .int x1, .int x2]) (n := 3) (Nat.le_of_ble_eq_true rfl)
  rw [lg_entry_eq]
  generalize (lg_sl ([.ref (ad 2), .int x1, .int x2]) ++ List.replicate (3 - (lg_sl ([.ref (ad 2), .int x1, .int x2])).length) Slot.unset).toArray = ls at hl ⊢
  have hl : lv_has ls 3 [(0, .ref (ad 2)), (1, .int x1), (2, .int x2)] := hl
  unfold fX4_setStackOf at hs
  refine lv_aload_n hx hb dX4_setStackOf_0 rfl (lv_at hl 0 rfl) ?_
  refine gB_X4_now hx hb hT hown hK hP (hT _ tF_X4_9) dX4_setStackOf_1 ?_
  refine lv_aload_n hx hb dX4_setStackOf_4 rfl (lv_at hl 0 rfl) ?_
  refine gB_X4_sr hx hb hT hown hK hP (hT _ tF_X4_22) dX4_setStackOf_5 ?_
  refine lv_sipush (v := 8192) hx hb dX4_setStackOf_8 (by decide) ?_
  refine lv_iand hx hb dX4_setStackOf_11 ?_
  refine lv_iload_n hx hb dX4_setStackOf_12 rfl (lv_at hl 1 rfl) ?_
  refine lv_icmp_ne (tgt := 21) hx hb dX4_setStackOf_13 (by decide) (fun c1 => ?_) (fun c1 => ?_)
  · have hs := if_f c1 hs
    refine lv_bipush (v := 16) hx hb dX4_setStackOf_21 (by decide) ?_
    refine lv_iload_n hx hb dX4_setStackOf_23 rfl (lv_at hl 2 rfl) ?_
    obtain ⟨h1, hs⟩ := gd_e hs
    obtain ⟨S1, h2, hs⟩ := lt_e hs
    refine sB_now hx hb hK hP hS (v := x2) (ixo_in h1) dX4_setStackOf_24 h2 (fun H locs hP hS => ?_)
    exact u_vret hx hb hr hlocks hP hS hs dX4_setStackOf_25
  · have hs := if_t c1 hs
    refine lv_bipush (v := 15) hx hb dX4_setStackOf_16 (by decide) ?_
    refine lv_goto (tgt := 23) hx hb dX4_setStackOf_18 (by decide) ?_
    refine lv_iload_n hx hb dX4_setStackOf_23 rfl (lv_at hl 2 rfl) ?_
    obtain ⟨h3, hs⟩ := gd_e hs
    obtain ⟨S2, h4, hs⟩ := lt_e hs
    refine sB_now hx hb hK hP hS (v := x2) (ixo_in h3) dX4_setStackOf_24 h4 (fun H locs hP hS => ?_)
    exact u_vret hx hb hr hlocks hP hS hs dX4_setStackOf_25
theorem kX4_setStackOf {p : Program} {l : Launch} {e : Env} {R : Room} {s : State} {m : MethodId} {args : Array Value} {below : List Frame} {meth : Method} {c : Code} {H : Heap} {locs : List Loc} {cells slots : Nat} {Q : State → Prop} {cc : ByteArray} {pc nL : Nat} {ls : Array Slot} {rest : List Value} {D : va_G} {ad : Nat → Nat} {cI cB : ClassId} {en : Nat → Nat} {S : St} {own : String} {index : Nat} {x1 : Int32} {x2 : Int32} {So : St} (C : CallFix p m c cc nL s args wG own) (hlk : Cond.methodLink own index yX4_setStackOf ∈ wG) (hR : rmX4_setStackOf.frames + 1 ≤ R.frames ∧ 8 + (3 + 11) + rmX4_setStackOf.locals ≤ R.locals) (hc : cells ≤ R.cells ∧ slots ≤ R.slots) (hK : KB D ad cI cB en s) (hP : va_P D vwCl (wB ad cI cB S) H) (hS : va_S (AX 10 ad s.heap.size) s.heap H locs) (hls : ls.size = nL) (hrest : (rest.map fun v => v.category).sum ≤ 8) (hd : decode cc pc = .ok (.invokevirtual index, 3)) (hs : fX4_setStackOf x1 x2 S = some So) (k : ∀ (H : Heap) (locs : List Loc), va_P D vwCl (wB ad cI cB So) H → va_S (AX 10 ad s.heap.size) s.heap H locs → W p l e R s m args below meth c H locs cells slots Q (F0 m (pc + 3) ls (rest))) : W p l e R s m args below meth c H locs cells slots Q (F0 m pc ls (.int x2 :: .int x1 :: .ref (ad 2) :: rest)) :=
  u_callV (n := 2) (mX4_setStackOf l D ad cI cB en S x1 x2 So hs) C uK_B (wg_V hlk tI_X4_setStackOf tS_X4_setStackOf tN_X4 tK_X4_setStackOf) rfl rfl rfl (by decide +kernel) hR rfl (va_recv hK.1 hP (ci := 4) (q0 := 2) rfl rfl) hK hP hS hls hrest hd hc rfl k
def fX4_set (x1 : Int32) (x2 : Int32) (S : St) : Option St :=
    (gd (ixo (x1 &&& 15) 17 = true) (lt (sA S 1 (x1 &&& 15).toNatClampNeg x2) fun S1 => (some S1)))
abbrev rmX4_set : Room := { frames := 0, cells := 0, slots := 0, locals := 0 }
set_option maxRecDepth 100000 in
set_option maxHeartbeats 4000000 in
theorem mX4_set (l : Launch) (D : va_G) (ad : Nat → Nat) (cI cB : ClassId) (en : Nat → Nat) (S : St) (x1 : Int32) (x2 : Int32) (So : St) (hs : fX4_set x1 x2 S = some So) : uM l yX4_set (wg yX4_set cX4_set 3 none) rmX4_set (KB D ad cI cB en) D (wB ad cI cB) (AX 10 ad) [.ref (ad 2), .int x1, .int x2] S (none, So) := by
  refine uM_start (by decide) rfl ?_
  intro p e s m below meth c hx hb hr hlocks hml hown hts hK hP
  have hT : ∀ w ∈ wG, w.before _ s = true := fun w h => hts w (List.mem_cons_of_mem _ h)
  have hS : va_S (AX 10 ad s.heap.size) s.heap s.heap [] := va_S.rf
  have hown : s.vm.findClass RX4 = some m.cls := hown
  have C : CallFix p m c cX4_set 3 s _ wG RX4 := ⟨hx, hb, hml, hown, hT⟩
  have hl := lv_entry ([.ref (ad 2), .int x1, .int x2]) (n := 3) (Nat.le_of_ble_eq_true rfl)
  rw [lg_entry_eq]
  generalize (lg_sl ([.ref (ad 2), .int x1, .int x2]) ++ List.replicate (3 - (lg_sl ([.ref (ad 2), .int x1, .int x2])).length) Slot.unset).toArray = ls at hl ⊢
  have hl : lv_has ls 3 [(0, .ref (ad 2)), (1, .int x1), (2, .int x2)] := hl
  unfold fX4_set at hs
  refine lv_aload_n hx hb dX4_set_0 rfl (lv_at hl 0 rfl) ?_
  refine gB_X4_now hx hb hT hown hK hP (hT _ tF_X4_9) dX4_set_1 ?_
  refine lv_iload_n hx hb dX4_set_4 rfl (lv_at hl 1 rfl) ?_
  refine lv_bipush (v := 15) hx hb dX4_set_5 (by decide) ?_
  refine lv_iand hx hb dX4_set_7 ?_
  refine lv_iload_n hx hb dX4_set_8 rfl (lv_at hl 2 rfl) ?_
  obtain ⟨h1, hs⟩ := gd_e hs
  obtain ⟨S1, h2, hs⟩ := lt_e hs
  refine sB_now hx hb hK hP hS (v := x2) (ixo_in h1) dX4_set_9 h2 (fun H locs hP hS => ?_)
  exact u_vret hx hb hr hlocks hP hS hs dX4_set_10
theorem kX4_set {p : Program} {l : Launch} {e : Env} {R : Room} {s : State} {m : MethodId} {args : Array Value} {below : List Frame} {meth : Method} {c : Code} {H : Heap} {locs : List Loc} {cells slots : Nat} {Q : State → Prop} {cc : ByteArray} {pc nL : Nat} {ls : Array Slot} {rest : List Value} {D : va_G} {ad : Nat → Nat} {cI cB : ClassId} {en : Nat → Nat} {S : St} {own : String} {index : Nat} {x1 : Int32} {x2 : Int32} {So : St} (C : CallFix p m c cc nL s args wG own) (hlk : Cond.methodLink own index yX4_set ∈ wG) (hR : rmX4_set.frames + 1 ≤ R.frames ∧ 8 + (3 + 11) + rmX4_set.locals ≤ R.locals) (hc : cells ≤ R.cells ∧ slots ≤ R.slots) (hK : KB D ad cI cB en s) (hP : va_P D vwCl (wB ad cI cB S) H) (hS : va_S (AX 10 ad s.heap.size) s.heap H locs) (hls : ls.size = nL) (hrest : (rest.map fun v => v.category).sum ≤ 8) (hd : decode cc pc = .ok (.invokevirtual index, 3)) (hs : fX4_set x1 x2 S = some So) (k : ∀ (H : Heap) (locs : List Loc), va_P D vwCl (wB ad cI cB So) H → va_S (AX 10 ad s.heap.size) s.heap H locs → W p l e R s m args below meth c H locs cells slots Q (F0 m (pc + 3) ls (rest))) : W p l e R s m args below meth c H locs cells slots Q (F0 m pc ls (.int x2 :: .int x1 :: .ref (ad 2) :: rest)) :=
  u_callV (n := 2) (mX4_set l D ad cI cB en S x1 x2 So hs) C uK_B (wg_V hlk tI_X4_set tS_X4_set tN_X4 tK_X4_set) rfl rfl rfl (by decide +kernel) hR rfl (va_recv hK.1 hP (ci := 4) (q0 := 2) rfl rfl) hK hP hS hls hrest hd hc rfl k
def fX3_store_b1 (x1 : Int32) (k1 : Int32 → Int32 → St → Option St) (v2 : Int32) (v3 : Int32) (S1 : St) : Option St :=
    (if v2 < 0 then (some S1)
    else (gd (ixo ((x1 + v2) &&& 4095) 4096 = true) (lt (sA S1 0 ((x1 + v2) &&& 4095).toNatClampNeg ((v3.toInt8.toInt32).toInt8.toInt32)) fun S2 => (lt ((ush v3 8) : Int32) fun v4 => (lt (v2 + (-1)) fun v5 => (k1 v5 v4 S2))))))
def fX3_store_l1 (x1 : Int32) : Nat → Int32 → Int32 → St → Option St
  | 0 => fun _ _ _ => none
  | n + 1 => fX3_store_b1 x1 (fX3_store_l1 x1 n)
def fX3_store (x1 : Int32) (x2 : Int32) (x3 : Int32) (S : St) : Option St :=
    (lt ((x3 - 1) : Int32) fun v1 => (fX3_store_l1 x1 5 v1 x2 S))
abbrev rmX3_store : Room := { frames := 0, cells := 0, slots := 0, locals := 0 }
set_option maxRecDepth 100000 in
set_option maxHeartbeats 4000000 in
theorem mX3_store (l : Launch) (D : va_G) (ad : Nat → Nat) (cI cB : ClassId) (en : Nat → Nat) (S : St) (x1 : Int32) (x2 : Int32) (x3 : Int32) (So : St) (hs : fX3_store x1 x2 x3 S = some So) : uM l yX3_store (wg yX3_store cX3_store 6 none) rmX3_store (KB D ad cI cB en) D (wB ad cI cB) (AX 10 ad) [.ref (ad 1), .int x1, .int x2, .int x3] S (none, So) := by
  refine uM_start (by decide) rfl ?_
  intro p e s m below meth c hx hb hr hlocks hml hown hts hK hP
  have hT : ∀ w ∈ wG, w.before _ s = true := fun w h => hts w (List.mem_cons_of_mem _ h)
  have hS : va_S (AX 10 ad s.heap.size) s.heap s.heap [] := va_S.rf
  have hown : s.vm.findClass RX3 = some m.cls := hown
  have C : CallFix p m c cX3_store 6 s _ wG RX3 := ⟨hx, hb, hml, hown, hT⟩
  have hl := lv_entry ([.ref (ad 1), .int x1, .int x2, .int x3]) (n := 6) (Nat.le_of_ble_eq_true rfl)
  rw [lg_entry_eq]
  generalize (lg_sl ([.ref (ad 1), .int x1, .int x2, .int x3]) ++ List.replicate (6 - (lg_sl ([.ref (ad 1), .int x1, .int x2, .int x3])).length) Slot.unset).toArray = ls at hl ⊢
  have hl : lv_has ls 6 [(0, .ref (ad 1)), (1, .int x1), (2, .int x2), (3, .int x3)] := hl
  unfold fX3_store at hs
  refine lv_iload_n hx hb dX3_store_0 rfl (lv_at hl 2 rfl) ?_
  refine lv_istore (lv' := [(4, .int x2), (0, .ref (ad 1)), (1, .int x1), (2, .int x2), (3, .int x3)]) hx hb dX3_store_1 hl (by decide) rfl (fun ls hl => ?_)
  refine lv_iload_n hx hb dX3_store_3 rfl (lv_at hl 4 rfl) ?_
  refine lv_iconst (v := 1) hx hb dX3_store_4 (by decide) ?_
  refine lv_isub hx hb dX3_store_5 ?_
  obtain ⟨v1, h1, hs⟩ := lt_e hs
  refine u_top h1 ?_
  refine lv_istore (lv' := [(5, .int v1), (4, .int x2), (0, .ref (ad 1)), (1, .int x1), (2, .int x2), (3, .int x3)]) hx hb dX3_store_6 hl (by decide) rfl (fun ls hl => ?_)
  have L1 : ∀ (n : Nat) (v2 : Int32) (v3 : Int32) (S1 : St) (H : Heap) (locs : List Loc) (ls : Array Slot), lv_has ls 6 [(5, .int v2), (4, .int v3), (0, .ref (ad 1)), (1, .int x1)] → va_P D vwCl (wB ad cI cB S1) H → va_S (AX 10 ad s.heap.size) s.heap H locs → fX3_store_l1 x1 n v2 v3 S1 = some So → W p l e rmX3_store s m ([.ref (ad 1), .int x1, .int x2, .int x3] : List Value).toArray below meth c H locs 0 0 (MQ below (uQ D (wB ad cI cB) (none, So) (AX 10 ad s.heap.size)) ([.ref (ad 1), .int x1, .int x2, .int x3] : List Value).toArray s 0 0 (AX 10 ad s.heap.size)) (F0 m 8 ls []) := by
    intro n
    induction n with
    | zero => intro v2 v3 S1 H locs ls hl hP hS hs; cases hs
    | succ n ih =>
      intro v2 v3 S1 H locs ls hl hP hS hs
      have hs : fX3_store_b1 x1 (fX3_store_l1 x1 n) v2 v3 S1 = some So := hs
      unfold fX3_store_b1 at hs
      refine lv_iload hx hb dX3_store_8 (lv_at hl 0 rfl) ?_
      refine lv_if_lt (tgt := 42) hx hb dX3_store_10 (by decide) (fun c1 => ?_) (fun c1 => ?_)
      · have hs := if_t c1 hs
        exact u_vret hx hb hr hlocks hP hS hs dX3_store_42
      · have hs := if_f c1 hs
        refine lv_aload_n hx hb dX3_store_13 rfl (lv_at hl 2 rfl) ?_
        refine gB_X3_cells hx hb hT hown hK hP (hT _ tF_X3_9) dX3_store_14 ?_
        refine lv_iload_n hx hb dX3_store_17 rfl (lv_at hl 3 rfl) ?_
        refine lv_iload hx hb dX3_store_18 (lv_at hl 0 rfl) ?_
        refine lv_iadd hx hb dX3_store_20 ?_
        refine lv_sipush (v := 4095) hx hb dX3_store_21 (by decide) ?_
        refine lv_iand hx hb dX3_store_24 ?_
        refine lv_iload hx hb dX3_store_25 (lv_at hl 1 rfl) ?_
        refine lv_i2b (v := (v3.toInt8.toInt32)) hx hb dX3_store_27 rfl ?_
        obtain ⟨h2, hs⟩ := gd_e hs
        obtain ⟨S2, h3, hs⟩ := lt_e hs
        refine sB_cells hx hb hK hP hS (v := (v3.toInt8.toInt32)) (ixo_in h2) dX3_store_28 h3 (fun H locs hP hS => ?_)
        refine lv_iload hx hb dX3_store_29 (lv_at hl 1 rfl) ?_
        refine lv_bipush (v := 8) hx hb dX3_store_31 (by decide) ?_
        refine lv_iushr (v := (ush v3 8)) hx hb dX3_store_33 rfl ?_
        obtain ⟨v4, h4, hs⟩ := lt_e hs
        refine u_top h4 ?_
        refine lv_istore (lv' := [(4, .int v4), (5, .int v2), (0, .ref (ad 1)), (1, .int x1)]) hx hb dX3_store_34 hl (by decide) rfl (fun ls hl => ?_)
        obtain ⟨v5, h5, hs⟩ := lt_e hs
        refine lv_iinc (v := v5) (lv' := [(5, .int v5), (4, .int v4), (0, .ref (ad 1)), (1, .int x1)]) hx hb dX3_store_36 hl (k := 1) rfl (by rw [h5]; rfl) (by decide) rfl (fun ls hl => ?_)
        refine lv_goto (tgt := 8) hx hb dX3_store_39 (by decide) ?_
        exact ih v5 v4 S2 _ _ _ (lv_sub hl [0, 1, 2, 3] rfl) hP hS hs
  exact L1 5 v1 x2 S _ _ _ (lv_sub hl [0, 1, 2, 3] rfl) hP hS hs
theorem kX3_store {p : Program} {l : Launch} {e : Env} {R : Room} {s : State} {m : MethodId} {args : Array Value} {below : List Frame} {meth : Method} {c : Code} {H : Heap} {locs : List Loc} {cells slots : Nat} {Q : State → Prop} {cc : ByteArray} {pc nL : Nat} {ls : Array Slot} {rest : List Value} {D : va_G} {ad : Nat → Nat} {cI cB : ClassId} {en : Nat → Nat} {S : St} {own : String} {index : Nat} {x1 : Int32} {x2 : Int32} {x3 : Int32} {So : St} (C : CallFix p m c cc nL s args wG own) (hlk : Cond.methodLink own index yX3_store ∈ wG) (hR : rmX3_store.frames + 1 ≤ R.frames ∧ 8 + (6 + 11) + rmX3_store.locals ≤ R.locals) (hc : cells ≤ R.cells ∧ slots ≤ R.slots) (hK : KB D ad cI cB en s) (hP : va_P D vwCl (wB ad cI cB S) H) (hS : va_S (AX 10 ad s.heap.size) s.heap H locs) (hls : ls.size = nL) (hrest : (rest.map fun v => v.category).sum ≤ 8) (hd : decode cc pc = .ok (.invokevirtual index, 3)) (hs : fX3_store x1 x2 x3 S = some So) (k : ∀ (H : Heap) (locs : List Loc), va_P D vwCl (wB ad cI cB So) H → va_S (AX 10 ad s.heap.size) s.heap H locs → W p l e R s m args below meth c H locs cells slots Q (F0 m (pc + 3) ls (rest))) : W p l e R s m args below meth c H locs cells slots Q (F0 m pc ls (.int x3 :: .int x2 :: .int x1 :: .ref (ad 1) :: rest)) :=
  u_callV (n := 3) (mX3_store l D ad cI cB en S x1 x2 x3 So hs) C uK_B (wg_V hlk tI_X3_store tS_X3_store tN_X3 tK_X3_store) rfl rfl rfl (by decide +kernel) hR rfl (va_recv hK.1 hP (ci := 3) (q0 := 1) rfl rfl) hK hP hS hls hrest hd hc rfl k
def fX3_load_b1 (x1 : Int32) (x2 : Int32) (k1 : Int32 → Int32 → St → Option (Int32 × St)) (v1 : Int32) (v2 : Int32) (S1 : St) : Option (Int32 × St) :=
    (if x2 ≤ v1 then (some (v2, S1))
    else (gd (ixo ((x1 + v1) &&& 4095) 4096 = true) (lt (((v2 <<< ((8 : Int32) &&& 31)) ||| ((S1.2.2 0 ((x1 + v1) &&& 4095).toNatClampNeg) &&& 255)) : Int32) fun v3 => (lt (v1 + 1) fun v4 => (k1 v4 v3 S1)))))
def fX3_load_l1 (x1 : Int32) (x2 : Int32) : Nat → Int32 → Int32 → St → Option (Int32 × St)
  | 0 => fun _ _ _ => none
  | n + 1 => fX3_load_b1 x1 x2 (fX3_load_l1 x1 x2 n)
def fX3_load (x1 : Int32) (x2 : Int32) (S : St) : Option (Int32 × St) :=
    (fX3_load_l1 x1 x2 5 0 0 S)
abbrev rmX3_load : Room := { frames := 0, cells := 0, slots := 0, locals := 0 }
set_option maxRecDepth 100000 in
set_option maxHeartbeats 4000000 in
theorem mX3_load (l : Launch) (D : va_G) (ad : Nat → Nat) (cI cB : ClassId) (en : Nat → Nat) (S : St) (x1 : Int32) (x2 : Int32) (ro : Int32) (So : St) (hs : fX3_load x1 x2 S = some (ro, So)) : uM l yX3_load (wg yX3_load cX3_load 5 (some .int)) rmX3_load (KB D ad cI cB en) D (wB ad cI cB) (AX 10 ad) [.ref (ad 1), .int x1, .int x2] S (some (.int ro), So) := by
  refine uM_start (by decide) rfl ?_
  intro p e s m below meth c hx hb hr hlocks hml hown hts hK hP
  have hT : ∀ w ∈ wG, w.before _ s = true := fun w h => hts w (List.mem_cons_of_mem _ h)
  have hS : va_S (AX 10 ad s.heap.size) s.heap s.heap [] := va_S.rf
  have hown : s.vm.findClass RX3 = some m.cls := hown
  have C : CallFix p m c cX3_load 5 s _ wG RX3 := ⟨hx, hb, hml, hown, hT⟩
  have hl := lv_entry ([.ref (ad 1), .int x1, .int x2]) (n := 5) (Nat.le_of_ble_eq_true rfl)
  rw [lg_entry_eq]
  generalize (lg_sl ([.ref (ad 1), .int x1, .int x2]) ++ List.replicate (5 - (lg_sl ([.ref (ad 1), .int x1, .int x2])).length) Slot.unset).toArray = ls at hl ⊢
  have hl : lv_has ls 5 [(0, .ref (ad 1)), (1, .int x1), (2, .int x2)] := hl
  unfold fX3_load at hs
  refine lv_iconst (v := 0) hx hb dX3_load_0 (by decide) ?_
  refine lv_istore_n (lv' := [(3, .int 0), (0, .ref (ad 1)), (1, .int x1), (2, .int x2)]) hx hb dX3_load_1 rfl hl (by decide) rfl (fun ls hl => ?_)
  refine lv_iconst (v := 0) hx hb dX3_load_2 (by decide) ?_
  refine lv_istore (lv' := [(4, .int 0), (3, .int 0), (0, .ref (ad 1)), (1, .int x1), (2, .int x2)]) hx hb dX3_load_3 hl (by decide) rfl (fun ls hl => ?_)
  have L1 : ∀ (n : Nat) (v1 : Int32) (v2 : Int32) (S1 : St) (H : Heap) (locs : List Loc) (ls : Array Slot), lv_has ls 5 [(4, .int v1), (3, .int v2), (0, .ref (ad 1)), (1, .int x1), (2, .int x2)] → va_P D vwCl (wB ad cI cB S1) H → va_S (AX 10 ad s.heap.size) s.heap H locs → fX3_load_l1 x1 x2 n v1 v2 S1 = some (ro, So) → W p l e rmX3_load s m ([.ref (ad 1), .int x1, .int x2] : List Value).toArray below meth c H locs 0 0 (MQ below (uQ D (wB ad cI cB) (some (.int ro), So) (AX 10 ad s.heap.size)) ([.ref (ad 1), .int x1, .int x2] : List Value).toArray s 0 0 (AX 10 ad s.heap.size)) (F0 m 5 ls []) := by
    intro n
    induction n with
    | zero => intro v1 v2 S1 H locs ls hl hP hS hs; cases hs
    | succ n ih =>
      intro v1 v2 S1 H locs ls hl hP hS hs
      have hs : fX3_load_b1 x1 x2 (fX3_load_l1 x1 x2 n) v1 v2 S1 = some (ro, So) := hs
      unfold fX3_load_b1 at hs
      refine lv_iload hx hb dX3_load_5 (lv_at hl 0 rfl) ?_
      refine lv_iload_n hx hb dX3_load_7 rfl (lv_at hl 4 rfl) ?_
      refine lv_icmp_ge (tgt := 40) hx hb dX3_load_8 (by decide) (fun c1 => ?_) (fun c1 => ?_)
      · have hs := if_t c1 hs
        refine lv_iload_n hx hb dX3_load_40 rfl (lv_at hl 1 rfl) ?_
        exact u_iret hx hb hr hlocks hP hS hs dX3_load_41
      · have hs := if_f c1 hs
        refine lv_iload_n hx hb dX3_load_11 rfl (lv_at hl 1 rfl) ?_
        refine lv_bipush (v := 8) hx hb dX3_load_12 (by decide) ?_
        refine lv_ishl hx hb dX3_load_14 ?_
        refine lv_aload_n hx hb dX3_load_15 rfl (lv_at hl 2 rfl) ?_
        refine gB_X3_cells hx hb hT hown hK hP (hT _ tF_X3_9) dX3_load_16 ?_
        refine lv_iload_n hx hb dX3_load_19 rfl (lv_at hl 3 rfl) ?_
        refine lv_iload hx hb dX3_load_20 (lv_at hl 0 rfl) ?_
        refine lv_iadd hx hb dX3_load_22 ?_
        refine lv_sipush (v := 4095) hx hb dX3_load_23 (by decide) ?_
        refine lv_iand hx hb dX3_load_26 ?_
        obtain ⟨h1, hs⟩ := gd_e hs
        refine lB_cells hx hb hK hP (ixo_in h1) dX3_load_27 ?_
        refine lv_sipush (v := 255) hx hb dX3_load_28 (by decide) ?_
        refine lv_iand hx hb dX3_load_31 ?_
        refine lv_ior hx hb dX3_load_32 ?_
        obtain ⟨v3, h2, hs⟩ := lt_e hs
        refine u_top h2 ?_
        refine lv_istore_n (lv' := [(3, .int v3), (4, .int v1), (0, .ref (ad 1)), (1, .int x1), (2, .int x2)]) hx hb dX3_load_33 rfl hl (by decide) rfl (fun ls hl => ?_)
        obtain ⟨v4, h3, hs⟩ := lt_e hs
        refine lv_iinc (v := v4) (lv' := [(4, .int v4), (3, .int v3), (0, .ref (ad 1)), (1, .int x1), (2, .int x2)]) hx hb dX3_load_34 hl (k := 1) rfl (by rw [h3]; rfl) (by decide) rfl (fun ls hl => ?_)
        refine lv_goto (tgt := 5) hx hb dX3_load_37 (by decide) ?_
        exact ih v4 v3 S1 _ _ _ (lv_sub hl [0, 1, 2, 3, 4] rfl) hP hS hs
  exact L1 5 0 0 S _ _ _ (lv_sub hl [0, 1, 2, 3, 4] rfl) hP hS hs
theorem kX3_load {p : Program} {l : Launch} {e : Env} {R : Room} {s : State} {m : MethodId} {args : Array Value} {below : List Frame} {meth : Method} {c : Code} {H : Heap} {locs : List Loc} {cells slots : Nat} {Q : State → Prop} {cc : ByteArray} {pc nL : Nat} {ls : Array Slot} {rest : List Value} {D : va_G} {ad : Nat → Nat} {cI cB : ClassId} {en : Nat → Nat} {S : St} {own : String} {index : Nat} {x1 : Int32} {x2 : Int32} {ro : Int32} {So : St} (C : CallFix p m c cc nL s args wG own) (hlk : Cond.methodLink own index yX3_load ∈ wG) (hR : rmX3_load.frames + 1 ≤ R.frames ∧ 8 + (5 + 11) + rmX3_load.locals ≤ R.locals) (hc : cells ≤ R.cells ∧ slots ≤ R.slots) (hK : KB D ad cI cB en s) (hP : va_P D vwCl (wB ad cI cB S) H) (hS : va_S (AX 10 ad s.heap.size) s.heap H locs) (hls : ls.size = nL) (hrest : (rest.map fun v => v.category).sum ≤ 8) (hd : decode cc pc = .ok (.invokevirtual index, 3)) (hs : fX3_load x1 x2 S = some (ro, So)) (k : ∀ (H : Heap) (locs : List Loc), va_P D vwCl (wB ad cI cB So) H → va_S (AX 10 ad s.heap.size) s.heap H locs → W p l e R s m args below meth c H locs cells slots Q (F0 m (pc + 3) ls (.int ro :: rest))) : W p l e R s m args below meth c H locs cells slots Q (F0 m pc ls (.int x2 :: .int x1 :: .ref (ad 1) :: rest)) :=
  u_callV (n := 2) (mX3_load l D ad cI cB en S x1 x2 ro So hs) C uK_B (wg_V hlk tI_X3_load tS_X3_load tN_X3 tK_X3_load) rfl rfl rfl (by decide +kernel) hR rfl (va_recv hK.1 hP (ci := 3) (q0 := 1) rfl rfl) hK hP hS hls hrest hd hc rfl k
def fX4_has (x1 : Int32) (S : St) : Option (Bool × St) :=
    (if ((S.1 3) &&& x1) = 0 then (some (false, S))
    else (some (true, S)))
abbrev rmX4_has : Room := { frames := 0, cells := 0, slots := 0, locals := 0 }
set_option maxRecDepth 100000 in
set_option maxHeartbeats 4000000 in
theorem mX4_has (l : Launch) (D : va_G) (ad : Nat → Nat) (cI cB : ClassId) (en : Nat → Nat) (S : St) (x1 : Int32) (ro : Bool) (So : St) (hs : fX4_has x1 S = some (ro, So)) : uM l yX4_has (wg yX4_has cX4_has 2 (some .boolean)) rmX4_has (KB D ad cI cB en) D (wB ad cI cB) (AX 10 ad) [.ref (ad 2), .int x1] S (some (.int (zI ro)), So) := by
  refine uM_start (by decide) rfl ?_
  intro p e s m below meth c hx hb hr hlocks hml hown hts hK hP
  have hT : ∀ w ∈ wG, w.before _ s = true := fun w h => hts w (List.mem_cons_of_mem _ h)
  have hS : va_S (AX 10 ad s.heap.size) s.heap s.heap [] := va_S.rf
  have hown : s.vm.findClass RX4 = some m.cls := hown
  have C : CallFix p m c cX4_has 2 s _ wG RX4 := ⟨hx, hb, hml, hown, hT⟩
  have hl := lv_entry ([.ref (ad 2), .int x1]) (n := 2) (Nat.le_of_ble_eq_true rfl)
  rw [lg_entry_eq]
  generalize (lg_sl ([.ref (ad 2), .int x1]) ++ List.replicate (2 - (lg_sl ([.ref (ad 2), .int x1])).length) Slot.unset).toArray = ls at hl ⊢
  have hl : lv_has ls 2 [(0, .ref (ad 2)), (1, .int x1)] := hl
  unfold fX4_has at hs
  refine lv_aload_n hx hb dX4_has_0 rfl (lv_at hl 0 rfl) ?_
  refine gB_X4_sr hx hb hT hown hK hP (hT _ tF_X4_22) dX4_has_1 ?_
  refine lv_iload_n hx hb dX4_has_4 rfl (lv_at hl 1 rfl) ?_
  refine lv_iand hx hb dX4_has_5 ?_
  refine lv_if_eq (tgt := 13) hx hb dX4_has_6 (by decide) (fun c1 => ?_) (fun c1 => ?_)
  · have hs := if_t c1 hs
    refine lv_iconst (v := 0) hx hb dX4_has_13 (by decide) ?_
    exact u_zret (v := false) hx hb hr hlocks hP hS hs dX4_has_14
  · have hs := if_f c1 hs
    refine lv_iconst (v := 1) hx hb dX4_has_9 (by decide) ?_
    refine lv_goto (tgt := 14) hx hb dX4_has_10 (by decide) ?_
    exact u_zret (v := true) hx hb hr hlocks hP hS hs dX4_has_14
theorem kX4_has {p : Program} {l : Launch} {e : Env} {R : Room} {s : State} {m : MethodId} {args : Array Value} {below : List Frame} {meth : Method} {c : Code} {H : Heap} {locs : List Loc} {cells slots : Nat} {Q : State → Prop} {cc : ByteArray} {pc nL : Nat} {ls : Array Slot} {rest : List Value} {D : va_G} {ad : Nat → Nat} {cI cB : ClassId} {en : Nat → Nat} {S : St} {own : String} {index : Nat} {x1 : Int32} {ro : Bool} {So : St} (C : CallFix p m c cc nL s args wG own) (hlk : Cond.methodLink own index yX4_has ∈ wG) (hR : rmX4_has.frames + 1 ≤ R.frames ∧ 8 + (2 + 11) + rmX4_has.locals ≤ R.locals) (hc : cells ≤ R.cells ∧ slots ≤ R.slots) (hK : KB D ad cI cB en s) (hP : va_P D vwCl (wB ad cI cB S) H) (hS : va_S (AX 10 ad s.heap.size) s.heap H locs) (hls : ls.size = nL) (hrest : (rest.map fun v => v.category).sum ≤ 8) (hd : decode cc pc = .ok (.invokevirtual index, 3)) (hs : fX4_has x1 S = some (ro, So)) (k : ∀ (H : Heap) (locs : List Loc), va_P D vwCl (wB ad cI cB So) H → va_S (AX 10 ad s.heap.size) s.heap H locs → W p l e R s m args below meth c H locs cells slots Q (F0 m (pc + 3) ls (.int (zI ro) :: rest))) : W p l e R s m args below meth c H locs cells slots Q (F0 m pc ls (.int x1 :: .ref (ad 2) :: rest)) :=
  u_callV (n := 1) (mX4_has l D ad cI cB en S x1 ro So hs) C uK_B (wg_V hlk tI_X4_has tS_X4_has tN_X4 tK_X4_has) rfl rfl rfl (by decide +kernel) hR rfl (va_recv hK.1 hP (ci := 4) (q0 := 2) rfl rfl) hK hP hS hls hrest hd hc rfl k
def fX4_keep  (S : St) : Option St :=
    (lt (sR S 2 (va_cpy (S.2.2 1) (S.2.2 2) (0 : Int32).toNatClampNeg (0 : Int32).toNatClampNeg (17 : Int32).toNatClampNeg)) fun S1 => (lt (sI S1 4 (S1.1 2)) fun S2 => (lt (sI S2 5 (S2.1 3)) fun S3 => (some S3))))
abbrev rmX4_keep : Room := { frames := 1, cells := 0, slots := 0, locals := 18 }
set_option maxRecDepth 100000 in
set_option maxHeartbeats 4000000 in
theorem mX4_keep (l : Launch) (D : va_G) (ad : Nat → Nat) (cI cB : ClassId) (en : Nat → Nat) (S : St)  (So : St) (hs : fX4_keep  S = some So) : uM l yX4_keep (wg yX4_keep cX4_keep 1 none) rmX4_keep (KB D ad cI cB en) D (wB ad cI cB) (AX 10 ad) [.ref (ad 2)] S (none, So) := by
  refine uM_start (by decide) rfl ?_
  intro p e s m below meth c hx hb hr hlocks hml hown hts hK hP
  have hT : ∀ w ∈ wG, w.before _ s = true := fun w h => hts w (List.mem_cons_of_mem _ h)
  have hS : va_S (AX 10 ad s.heap.size) s.heap s.heap [] := va_S.rf
  have hown : s.vm.findClass RX4 = some m.cls := hown
  have C : CallFix p m c cX4_keep 1 s _ wG RX4 := ⟨hx, hb, hml, hown, hT⟩
  have hl := lv_entry ([.ref (ad 2)]) (n := 1) (Nat.le_of_ble_eq_true rfl)
  rw [lg_entry_eq]
  generalize (lg_sl ([.ref (ad 2)]) ++ List.replicate (1 - (lg_sl ([.ref (ad 2)])).length) Slot.unset).toArray = ls at hl ⊢
  have hl : lv_has ls 1 [(0, .ref (ad 2))] := hl
  unfold fX4_keep at hs
  refine lv_aload_n hx hb dX4_keep_0 rfl (lv_at hl 0 rfl) ?_
  refine gB_X4_now hx hb hT hown hK hP (hT _ tF_X4_9) dX4_keep_1 ?_
  refine lv_iconst (v := 0) hx hb dX4_keep_4 (by decide) ?_
  refine lv_aload_n hx hb dX4_keep_5 rfl (lv_at hl 0 rfl) ?_
  refine gB_X4_kept hx hb hT hown hK hP (hT _ tF_X4_15) dX4_keep_6 ?_
  refine lv_iconst (v := 0) hx hb dX4_keep_9 (by decide) ?_
  refine lv_bipush (v := 17) hx hb dX4_keep_10 (by decide) ?_
  obtain ⟨S1, h1, hs⟩ := lt_e hs
  refine va_copyi hx hb (hml.trans hl.1.symm) hown (hT _ tM_X4_31) (hT _ tNat_copy) (hT _ tSt_copy) (hT _ tN_System) hK.1 hP (wB_D hK s.heap.size S) hS 7 8 0 0 rfl rfl rfl rfl rfl (by decide) (by decide) (by decide) (by decide) (by decide) (fun _ _ => rfl) (Nat.le_of_ble_eq_true rfl) (Nat.le_of_ble_eq_true rfl) dX4_keep_12 (fun H locs hP _ hS => ?_)
  have hP : va_P D vwCl (wB ad cI cB S1) H := by subst h1; exact hP
  refine lv_aload_n hx hb dX4_keep_15 rfl (lv_at hl 0 rfl) ?_
  refine lv_aload_n hx hb dX4_keep_16 rfl (lv_at hl 0 rfl) ?_
  refine gB_X4_pc hx hb hT hown hK hP (hT _ tF_X4_18) dX4_keep_17 ?_
  obtain ⟨S2, h2, hs⟩ := lt_e hs
  refine pB_X4_keptPc hx hb hT hown hK hP hS (hT _ tF_X4_37) dX4_keep_20 (v := (S1.1 2)) h2 (fun H locs hP hS => ?_)
  refine lv_aload_n hx hb dX4_keep_23 rfl (lv_at hl 0 rfl) ?_
  refine lv_aload_n hx hb dX4_keep_24 rfl (lv_at hl 0 rfl) ?_
  refine gB_X4_sr hx hb hT hown hK hP (hT _ tF_X4_22) dX4_keep_25 ?_
  obtain ⟨S3, h3, hs⟩ := lt_e hs
  refine pB_X4_keptSr hx hb hT hown hK hP hS (hT _ tF_X4_40) dX4_keep_28 (v := (S2.1 3)) h3 (fun H locs hP hS => ?_)
  exact u_vret hx hb hr hlocks hP hS hs dX4_keep_31
theorem kX4_keep {p : Program} {l : Launch} {e : Env} {R : Room} {s : State} {m : MethodId} {args : Array Value} {below : List Frame} {meth : Method} {c : Code} {H : Heap} {locs : List Loc} {cells slots : Nat} {Q : State → Prop} {cc : ByteArray} {pc nL : Nat} {ls : Array Slot} {rest : List Value} {D : va_G} {ad : Nat → Nat} {cI cB : ClassId} {en : Nat → Nat} {S : St} {own : String} {index : Nat}  {So : St} (C : CallFix p m c cc nL s args wG own) (hlk : Cond.methodLink own index yX4_keep ∈ wG) (hR : rmX4_keep.frames + 1 ≤ R.frames ∧ 8 + (1 + 11) + rmX4_keep.locals ≤ R.locals) (hc : cells ≤ R.cells ∧ slots ≤ R.slots) (hK : KB D ad cI cB en s) (hP : va_P D vwCl (wB ad cI cB S) H) (hS : va_S (AX 10 ad s.heap.size) s.heap H locs) (hls : ls.size = nL) (hrest : (rest.map fun v => v.category).sum ≤ 8) (hd : decode cc pc = .ok (.invokevirtual index, 3)) (hs : fX4_keep  S = some So) (k : ∀ (H : Heap) (locs : List Loc), va_P D vwCl (wB ad cI cB So) H → va_S (AX 10 ad s.heap.size) s.heap H locs → W p l e R s m args below meth c H locs cells slots Q (F0 m (pc + 3) ls (rest))) : W p l e R s m args below meth c H locs cells slots Q (F0 m pc ls (.ref (ad 2) :: rest)) :=
  u_callV (n := 0) (mX4_keep l D ad cI cB en S  So hs) C uK_B (wg_V hlk tI_X4_keep tS_X4_keep tN_X4 tK_X4_keep) rfl rfl rfl (by decide +kernel) hR rfl (va_recv hK.1 hP (ci := 4) (q0 := 2) rfl rfl) hK hP hS hls hrest hd hc rfl k
def fX4_mark (x1 : Int32) (z2 : Bool) (S : St) : Option St :=
    (if (zI z2) = 0 then (lt (sI S 3 ((S.1 3) &&& (x1 ^^^ (-1 : Int32)))) fun S1 => (some S1))
    else (lt (sI S 3 ((S.1 3) ||| x1)) fun S2 => (some S2)))
abbrev rmX4_mark : Room := { frames := 0, cells := 0, slots := 0, locals := 0 }
set_option maxRecDepth 100000 in
set_option maxHeartbeats 4000000 in
theorem mX4_mark (l : Launch) (D : va_G) (ad : Nat → Nat) (cI cB : ClassId) (en : Nat → Nat) (S : St) (x1 : Int32) (z2 : Bool) (So : St) (hs : fX4_mark x1 z2 S = some So) : uM l yX4_mark (wg yX4_mark cX4_mark 3 none) rmX4_mark (KB D ad cI cB en) D (wB ad cI cB) (AX 10 ad) [.ref (ad 2), .int x1, .int (zI z2)] S (none, So) := by
  refine uM_start (by decide) rfl ?_
  intro p e s m below meth c hx hb hr hlocks hml hown hts hK hP
  have hT : ∀ w ∈ wG, w.before _ s = true := fun w h => hts w (List.mem_cons_of_mem _ h)
  have hS : va_S (AX 10 ad s.heap.size) s.heap s.heap [] := va_S.rf
  have hown : s.vm.findClass RX4 = some m.cls := hown
  have C : CallFix p m c cX4_mark 3 s _ wG RX4 := ⟨hx, hb, hml, hown, hT⟩
  have hl := lv_entry ([.ref (ad 2), .int x1, .int (zI z2)]) (n := 3) (Nat.le_of_ble_eq_true rfl)
  rw [lg_entry_eq]
  generalize (lg_sl ([.ref (ad 2), .int x1, .int (zI z2)]) ++ List.replicate (3 - (lg_sl ([.ref (ad 2), .int x1, .int (zI z2)])).length) Slot.unset).toArray = ls at hl ⊢
  have hl : lv_has ls 3 [(0, .ref (ad 2)), (1, .int x1), (2, .int (zI z2))] := hl
  unfold fX4_mark at hs
  refine lv_aload_n hx hb dX4_mark_0 rfl (lv_at hl 0 rfl) ?_
  refine lv_iload_n hx hb dX4_mark_1 rfl (lv_at hl 2 rfl) ?_
  refine lv_if_eq (tgt := 14) hx hb dX4_mark_2 (by decide) (fun c1 => ?_) (fun c1 => ?_)
  · have hs := if_t c1 hs
    refine lv_aload_n hx hb dX4_mark_14 rfl (lv_at hl 0 rfl) ?_
    refine gB_X4_sr hx hb hT hown hK hP (hT _ tF_X4_22) dX4_mark_15 ?_
    refine lv_iload_n hx hb dX4_mark_18 rfl (lv_at hl 1 rfl) ?_
    refine lv_iconst (v := (-1 : Int32)) hx hb dX4_mark_19 (by decide) ?_
    refine lv_ixor hx hb dX4_mark_20 ?_
    refine lv_iand hx hb dX4_mark_21 ?_
    obtain ⟨S1, h1, hs⟩ := lt_e hs
    refine pB_X4_sr hx hb hT hown hK hP hS (hT _ tF_X4_22) dX4_mark_22 (v := ((S.1 3) &&& (x1 ^^^ (-1 : Int32)))) h1 (fun H locs hP hS => ?_)
    exact u_vret hx hb hr hlocks hP hS hs dX4_mark_25
  · have hs := if_f c1 hs
    refine lv_aload_n hx hb dX4_mark_5 rfl (lv_at hl 0 rfl) ?_
    refine gB_X4_sr hx hb hT hown hK hP (hT _ tF_X4_22) dX4_mark_6 ?_
    refine lv_iload_n hx hb dX4_mark_9 rfl (lv_at hl 1 rfl) ?_
    refine lv_ior hx hb dX4_mark_10 ?_
    refine lv_goto (tgt := 22) hx hb dX4_mark_11 (by decide) ?_
    obtain ⟨S2, h2, hs⟩ := lt_e hs
    refine pB_X4_sr hx hb hT hown hK hP hS (hT _ tF_X4_22) dX4_mark_22 (v := ((S.1 3) ||| x1)) h2 (fun H locs hP hS => ?_)
    exact u_vret hx hb hr hlocks hP hS hs dX4_mark_25
theorem kX4_mark {p : Program} {l : Launch} {e : Env} {R : Room} {s : State} {m : MethodId} {args : Array Value} {below : List Frame} {meth : Method} {c : Code} {H : Heap} {locs : List Loc} {cells slots : Nat} {Q : State → Prop} {cc : ByteArray} {pc nL : Nat} {ls : Array Slot} {rest : List Value} {D : va_G} {ad : Nat → Nat} {cI cB : ClassId} {en : Nat → Nat} {S : St} {own : String} {index : Nat} {x1 : Int32} {z2 : Bool} {So : St} (C : CallFix p m c cc nL s args wG own) (hlk : Cond.methodLink own index yX4_mark ∈ wG) (hR : rmX4_mark.frames + 1 ≤ R.frames ∧ 8 + (3 + 11) + rmX4_mark.locals ≤ R.locals) (hc : cells ≤ R.cells ∧ slots ≤ R.slots) (hK : KB D ad cI cB en s) (hP : va_P D vwCl (wB ad cI cB S) H) (hS : va_S (AX 10 ad s.heap.size) s.heap H locs) (hls : ls.size = nL) (hrest : (rest.map fun v => v.category).sum ≤ 8) (hd : decode cc pc = .ok (.invokevirtual index, 3)) (hs : fX4_mark x1 z2 S = some So) (k : ∀ (H : Heap) (locs : List Loc), va_P D vwCl (wB ad cI cB So) H → va_S (AX 10 ad s.heap.size) s.heap H locs → W p l e R s m args below meth c H locs cells slots Q (F0 m (pc + 3) ls (rest))) : W p l e R s m args below meth c H locs cells slots Q (F0 m pc ls (.int (zI z2) :: .int x1 :: .ref (ad 2) :: rest)) :=
  u_callV (n := 2) (mX4_mark l D ad cI cB en S x1 z2 So hs) C uK_B (wg_V hlk tI_X4_mark tS_X4_mark tN_X4 tK_X4_mark) rfl rfl rfl (by decide +kernel) hR rfl (va_recv hK.1 hP (ci := 4) (q0 := 2) rfl rfl) hK hP hS hls hrest hd hc rfl k
def fX4_setFlags (x1 : Int32) (S : St) : Option St :=
    (lt (sI S 3 (((S.1 3) &&& (-32 : Int32)) ||| (x1 &&& 31))) fun S1 => (some S1))
abbrev rmX4_setFlags : Room := { frames := 0, cells := 0, slots := 0, locals := 0 }
set_option maxRecDepth 100000 in
set_option maxHeartbeats 4000000 in
theorem mX4_setFlags (l : Launch) (D : va_G) (ad : Nat → Nat) (cI cB : ClassId) (en : Nat → Nat) (S : St) (x1 : Int32) (So : St) (hs : fX4_setFlags x1 S = some So) : uM l yX4_setFlags (wg yX4_setFlags cX4_setFlags 2 none) rmX4_setFlags (KB D ad cI cB en) D (wB ad cI cB) (AX 10 ad) [.ref (ad 2), .int x1] S (none, So) := by
  refine uM_start (by decide) rfl ?_
  intro p e s m below meth c hx hb hr hlocks hml hown hts hK hP
  have hT : ∀ w ∈ wG, w.before _ s = true := fun w h => hts w (List.mem_cons_of_mem _ h)
  have hS : va_S (AX 10 ad s.heap.size) s.heap s.heap [] := va_S.rf
  have hown : s.vm.findClass RX4 = some m.cls := hown
  have C : CallFix p m c cX4_setFlags 2 s _ wG RX4 := ⟨hx, hb, hml, hown, hT⟩
  have hl := lv_entry ([.ref (ad 2), .int x1]) (n := 2) (Nat.le_of_ble_eq_true rfl)
  rw [lg_entry_eq]
  generalize (lg_sl ([.ref (ad 2), .int x1]) ++ List.replicate (2 - (lg_sl ([.ref (ad 2), .int x1])).length) Slot.unset).toArray = ls at hl ⊢
  have hl : lv_has ls 2 [(0, .ref (ad 2)), (1, .int x1)] := hl
  unfold fX4_setFlags at hs
  refine lv_aload_n hx hb dX4_setFlags_0 rfl (lv_at hl 0 rfl) ?_
  refine lv_aload_n hx hb dX4_setFlags_1 rfl (lv_at hl 0 rfl) ?_
  refine gB_X4_sr hx hb hT hown hK hP (hT _ tF_X4_22) dX4_setFlags_2 ?_
  refine lv_bipush (v := (-32 : Int32)) hx hb dX4_setFlags_5 (by decide) ?_
  refine lv_iand hx hb dX4_setFlags_7 ?_
  refine lv_iload_n hx hb dX4_setFlags_8 rfl (lv_at hl 1 rfl) ?_
  refine lv_bipush (v := 31) hx hb dX4_setFlags_9 (by decide) ?_
  refine lv_iand hx hb dX4_setFlags_11 ?_
  refine lv_ior hx hb dX4_setFlags_12 ?_
  obtain ⟨S1, h1, hs⟩ := lt_e hs
  refine pB_X4_sr hx hb hT hown hK hP hS (hT _ tF_X4_22) dX4_setFlags_13 (v := (((S.1 3) &&& (-32 : Int32)) ||| (x1 &&& 31))) h1 (fun H locs hP hS => ?_)
  exact u_vret hx hb hr hlocks hP hS hs dX4_setFlags_16
theorem kX4_setFlags {p : Program} {l : Launch} {e : Env} {R : Room} {s : State} {m : MethodId} {args : Array Value} {below : List Frame} {meth : Method} {c : Code} {H : Heap} {locs : List Loc} {cells slots : Nat} {Q : State → Prop} {cc : ByteArray} {pc nL : Nat} {ls : Array Slot} {rest : List Value} {D : va_G} {ad : Nat → Nat} {cI cB : ClassId} {en : Nat → Nat} {S : St} {own : String} {index : Nat} {x1 : Int32} {So : St} (C : CallFix p m c cc nL s args wG own) (hlk : Cond.methodLink own index yX4_setFlags ∈ wG) (hR : rmX4_setFlags.frames + 1 ≤ R.frames ∧ 8 + (2 + 11) + rmX4_setFlags.locals ≤ R.locals) (hc : cells ≤ R.cells ∧ slots ≤ R.slots) (hK : KB D ad cI cB en s) (hP : va_P D vwCl (wB ad cI cB S) H) (hS : va_S (AX 10 ad s.heap.size) s.heap H locs) (hls : ls.size = nL) (hrest : (rest.map fun v => v.category).sum ≤ 8) (hd : decode cc pc = .ok (.invokevirtual index, 3)) (hs : fX4_setFlags x1 S = some So) (k : ∀ (H : Heap) (locs : List Loc), va_P D vwCl (wB ad cI cB So) H → va_S (AX 10 ad s.heap.size) s.heap H locs → W p l e R s m args below meth c H locs cells slots Q (F0 m (pc + 3) ls (rest))) : W p l e R s m args below meth c H locs cells slots Q (F0 m pc ls (.int x1 :: .ref (ad 2) :: rest)) :=
  u_callV (n := 1) (mX4_setFlags l D ad cI cB en S x1 So hs) C uK_B (wg_V hlk tI_X4_setFlags tS_X4_setFlags tN_X4 tK_X4_setFlags) rfl rfl rfl (by decide +kernel) hR rfl (va_recv hK.1 hP (ci := 4) (q0 := 2) rfl rfl) hK hP hS hls hrest hd hc rfl k
def fX5_of (x0 : Int32) (S : St) : Option (Nat × St) :=
    (if x0 = 0 then (some (0, S))
    else (if x0 = 1 then (some (1, S))
    else (some (2, S))))
abbrev rmX5_of : Room := { frames := 0, cells := 0, slots := 0, locals := 0 }
set_option maxRecDepth 100000 in
set_option maxHeartbeats 4000000 in
theorem mX5_of (l : Launch) (D : va_G) (ad : Nat → Nat) (cI cB : ClassId) (en : Nat → Nat) (S : St) (x0 : Int32) (ro : Nat) (So : St) (hs : fX5_of x0 S = some (ro, So)) : uM l yX5_of (wg yX5_of cX5_of 1 (some (.object "BoardCore$Size"))) rmX5_of (KB D ad cI cB en) D (wB ad cI cB) (AX 10 ad) [.int x0] S (some (.ref (en ro)), So) := by
  refine uM_start (by decide) rfl ?_
  intro p e s m below meth c hx hb hr hlocks hml hown hts hK hP
  have hT : ∀ w ∈ wG, w.before _ s = true := fun w h => hts w (List.mem_cons_of_mem _ h)
  have hS : va_S (AX 10 ad s.heap.size) s.heap s.heap [] := va_S.rf
  have hown : s.vm.findClass RX5 = some m.cls := hown
  have C : CallFix p m c cX5_of 1 s _ wG RX5 := ⟨hx, hb, hml, hown, hT⟩
  have hl := lv_entry ([.int x0]) (n := 1) (Nat.le_of_ble_eq_true rfl)
  rw [lg_entry_eq]
  generalize (lg_sl ([.int x0]) ++ List.replicate (1 - (lg_sl ([.int x0])).length) Slot.unset).toArray = ls at hl ⊢
  have hl : lv_has ls 1 [(0, .int x0)] := hl
  unfold fX5_of at hs
  refine lv_iload_n hx hb dX5_of_0 rfl (lv_at hl 0 rfl) ?_
  refine lv_if_ne (tgt := 8) hx hb dX5_of_1 (by decide) (fun c1 => ?_) (fun c1 => ?_)
  · have hs := if_f c1 hs
    refine lv_iload_n hx hb dX5_of_8 rfl (lv_at hl 0 rfl) ?_
    refine lv_iconst (v := 1) hx hb dX5_of_9 (by decide) ?_
    refine lv_icmp_ne (tgt := 19) hx hb dX5_of_10 (by decide) (fun c2 => ?_) (fun c2 => ?_)
    · have hs := if_f c2 hs
      refine gS_LONG hx hb hown hK hS (hT _ tF_X5_10) dX5_of_19 ?_
      exact u_eret hx hb hr hlocks hP hS hs dX5_of_22
    · have hs := if_t c2 hs
      refine gS_WORD hx hb hown hK hS (hT _ tF_X5_7) dX5_of_13 ?_
      refine lv_goto (tgt := 22) hx hb dX5_of_16 (by decide) ?_
      exact u_eret hx hb hr hlocks hP hS hs dX5_of_22
  · have hs := if_t c1 hs
    refine gS_BYTE hx hb hown hK hS (hT _ tF_X5_3) dX5_of_4 ?_
    exact u_eret hx hb hr hlocks hP hS hs dX5_of_7
theorem kX5_of {p : Program} {l : Launch} {e : Env} {R : Room} {s : State} {m : MethodId} {args : Array Value} {below : List Frame} {meth : Method} {c : Code} {H : Heap} {locs : List Loc} {cells slots : Nat} {Q : State → Prop} {cc : ByteArray} {pc nL : Nat} {ls : Array Slot} {rest : List Value} {D : va_G} {ad : Nat → Nat} {cI cB : ClassId} {en : Nat → Nat} {S : St} {own : String} {index : Nat} {x0 : Int32} {ro : Nat} {So : St} (C : CallFix p m c cc nL s args wG own) (hlk : Cond.methodLink own index yX5_of ∈ wG) (hR : rmX5_of.frames + 1 ≤ R.frames ∧ 8 + (1 + 11) + rmX5_of.locals ≤ R.locals) (hc : cells ≤ R.cells ∧ slots ≤ R.slots) (hK : KB D ad cI cB en s) (hP : va_P D vwCl (wB ad cI cB S) H) (hS : va_S (AX 10 ad s.heap.size) s.heap H locs) (hls : ls.size = nL) (hrest : (rest.map fun v => v.category).sum ≤ 8) (hd : decode cc pc = .ok (.invokestatic index, 3)) (hs : fX5_of x0 S = some (ro, So)) (k : ∀ (H : Heap) (locs : List Loc), va_P D vwCl (wB ad cI cB So) H → va_S (AX 10 ad s.heap.size) s.heap H locs → W p l e R s m args below meth c H locs cells slots Q (F0 m (pc + 3) ls (.ref (en ro) :: rest))) : W p l e R s m args below meth c H locs cells slots Q (F0 m pc ls (.int x0 :: rest)) :=
  u_callS (n := 1) (mX5_of l D ad cI cB en S x0 ro So hs) C uK_B (wg_S hlk tI_X5_of tN_X5 tK_X5_of) rfl rfl rfl (by decide +kernel) hR rfl hK hP hS hls hrest hd hc rfl k
def fX5_unsigned (e0 : Nat) (x1 : Int32) (S : St) : Option (Int64 × St) :=
    (gd (e0 < 3) (some ((((x1 &&& (szM e0)).toInt64) &&& 4294967295), S)))
abbrev rmX5_unsigned : Room := { frames := 0, cells := 0, slots := 0, locals := 0 }
set_option maxRecDepth 100000 in
set_option maxHeartbeats 4000000 in
theorem mX5_unsigned (l : Launch) (D : va_G) (ad : Nat → Nat) (cI cB : ClassId) (en : Nat → Nat) (S : St) (e0 : Nat) (x1 : Int32) (ro : Int64) (So : St) (hs : fX5_unsigned e0 x1 S = some (ro, So)) : uM l yX5_unsigned (wg yX5_unsigned cX5_unsigned 2 (some .long)) rmX5_unsigned (KB D ad cI cB en) D (wB ad cI cB) (AX 10 ad) [.ref (en e0), .int x1] S (some (.long ro), So) := by
  refine uM_start (by decide) rfl ?_
  intro p e s m below meth c hx hb hr hlocks hml hown hts hK hP
  have hT : ∀ w ∈ wG, w.before _ s = true := fun w h => hts w (List.mem_cons_of_mem _ h)
  have hS : va_S (AX 10 ad s.heap.size) s.heap s.heap [] := va_S.rf
  have hown : s.vm.findClass RX5 = some m.cls := hown
  have C : CallFix p m c cX5_unsigned 2 s _ wG RX5 := ⟨hx, hb, hml, hown, hT⟩
  have hl := lv_entry ([.ref (en e0), .int x1]) (n := 2) (Nat.le_of_ble_eq_true rfl)
  rw [lg_entry_eq]
  generalize (lg_sl ([.ref (en e0), .int x1]) ++ List.replicate (2 - (lg_sl ([.ref (en e0), .int x1])).length) Slot.unset).toArray = ls at hl ⊢
  have hl : lv_has ls 2 [(0, .ref (en e0)), (1, .int x1)] := hl
  unfold fX5_unsigned at hs
  obtain ⟨he0, hs⟩ := gd_e hs
  refine lv_iload_n hx hb dX5_unsigned_0 rfl (lv_at hl 1 rfl) ?_
  refine lv_aload_n hx hb dX5_unsigned_1 rfl (lv_at hl 0 rfl) ?_
  refine gE_mask hx hb hown hK hS he0 (hT _ tF_X5_36) dX5_unsigned_2 ?_
  refine lv_iand hx hb dX5_unsigned_5 ?_
  refine lv_i2l (v := ((x1 &&& (szM e0)).toInt64)) hx hb dX5_unsigned_6 rfl ?_
  refine lv_ldc2 (v := 4294967295) hx hb hown (hT _ tC_X5_42) dX5_unsigned_7 ?_
  refine lv_land hx hb dX5_unsigned_10 ?_
  exact u_lret hx hb hr hlocks hP hS hs dX5_unsigned_11
theorem kX5_unsigned {p : Program} {l : Launch} {e : Env} {R : Room} {s : State} {m : MethodId} {args : Array Value} {below : List Frame} {meth : Method} {c : Code} {H : Heap} {locs : List Loc} {cells slots : Nat} {Q : State → Prop} {cc : ByteArray} {pc nL : Nat} {ls : Array Slot} {rest : List Value} {D : va_G} {ad : Nat → Nat} {cI cB : ClassId} {en : Nat → Nat} {S : St} {own : String} {index : Nat} {e0 : Nat} {x1 : Int32} {ro : Int64} {So : St} (C : CallFix p m c cc nL s args wG own) (hlk : Cond.methodLink own index yX5_unsigned ∈ wG) (hR : rmX5_unsigned.frames + 1 ≤ R.frames ∧ 8 + (2 + 11) + rmX5_unsigned.locals ≤ R.locals) (hc : cells ≤ R.cells ∧ slots ≤ R.slots) (hK : KB D ad cI cB en s) (hP : va_P D vwCl (wB ad cI cB S) H) (hS : va_S (AX 10 ad s.heap.size) s.heap H locs) (hls : ls.size = nL) (hrest : (rest.map fun v => v.category).sum ≤ 8) (hd : decode cc pc = .ok (.invokevirtual index, 3)) (hs : fX5_unsigned e0 x1 S = some (ro, So)) (k : ∀ (H : Heap) (locs : List Loc), va_P D vwCl (wB ad cI cB So) H → va_S (AX 10 ad s.heap.size) s.heap H locs → W p l e R s m args below meth c H locs cells slots Q (F0 m (pc + 3) ls (.long ro :: rest))) : W p l e R s m args below meth c H locs cells slots Q (F0 m pc ls (.int x1 :: .ref (en e0) :: rest)) :=
  u_callV (n := 1) (mX5_unsigned l D ad cI cB en S e0 x1 ro So hs) C uK_B (wg_V hlk tI_X5_unsigned tS_X5_unsigned tN_X5 tK_X5_unsigned) rfl rfl rfl (by decide +kernel) hR rfl (va_recvE hK.2.2 (show e0 < szN.length from (gd_e hs).1) hS) hK hP hS hls hrest hd hc rfl k
def fX5_extend (e0 : Nat) (x1 : Int32) (S : St) : Option (Int32 × St) :=
    (gd (e0 < 3) (if e0 = 0 then (some ((x1.toInt8.toInt32), S))
    else (if e0 = 1 then (some ((x1.toInt16.toInt32), S))
    else (some (x1, S)))))
abbrev rmX5_extend : Room := { frames := 0, cells := 0, slots := 0, locals := 0 }
set_option maxRecDepth 100000 in
set_option maxHeartbeats 4000000 in
theorem mX5_extend (l : Launch) (D : va_G) (ad : Nat → Nat) (cI cB : ClassId) (en : Nat → Nat) (S : St) (e0 : Nat) (x1 : Int32) (ro : Int32) (So : St) (hs : fX5_extend e0 x1 S = some (ro, So)) : uM l yX5_extend (wg yX5_extend cX5_extend 2 (some .int)) rmX5_extend (KB D ad cI cB en) D (wB ad cI cB) (AX 10 ad) [.ref (en e0), .int x1] S (some (.int ro), So) := by
  refine uM_start (by decide) rfl ?_
  intro p e s m below meth c hx hb hr hlocks hml hown hts hK hP
  have hT : ∀ w ∈ wG, w.before _ s = true := fun w h => hts w (List.mem_cons_of_mem _ h)
  have hS : va_S (AX 10 ad s.heap.size) s.heap s.heap [] := va_S.rf
  have hown : s.vm.findClass RX5 = some m.cls := hown
  have C : CallFix p m c cX5_extend 2 s _ wG RX5 := ⟨hx, hb, hml, hown, hT⟩
  have hl := lv_entry ([.ref (en e0), .int x1]) (n := 2) (Nat.le_of_ble_eq_true rfl)
  rw [lg_entry_eq]
  generalize (lg_sl ([.ref (en e0), .int x1]) ++ List.replicate (2 - (lg_sl ([.ref (en e0), .int x1])).length) Slot.unset).toArray = ls at hl ⊢
  have hl : lv_has ls 2 [(0, .ref (en e0)), (1, .int x1)] := hl
  unfold fX5_extend at hs
  obtain ⟨he0, hs⟩ := gd_e hs
  refine lv_aload_n hx hb dX5_extend_0 rfl (lv_at hl 0 rfl) ?_
  refine gS_BYTE hx hb hown hK hS (hT _ tF_X5_3) dX5_extend_1 ?_
  refine u_acmp_ne (tgt := 10) hx hb hK he0 (by decide) dX5_extend_4 (by decide) (fun c1 => ?_) (fun c1 => ?_)
  · have hs := if_f c1 hs
    refine lv_aload_n hx hb dX5_extend_10 rfl (lv_at hl 0 rfl) ?_
    refine gS_WORD hx hb hown hK hS (hT _ tF_X5_7) dX5_extend_11 ?_
    refine u_acmp_ne (tgt := 22) hx hb hK he0 (by decide) dX5_extend_14 (by decide) (fun c2 => ?_) (fun c2 => ?_)
    · have hs := if_f c2 hs
      refine lv_iload_n hx hb dX5_extend_22 rfl (lv_at hl 1 rfl) ?_
      exact u_iret hx hb hr hlocks hP hS hs dX5_extend_23
    · have hs := if_t c2 hs
      refine lv_iload_n hx hb dX5_extend_17 rfl (lv_at hl 1 rfl) ?_
      refine lv_i2s (v := (x1.toInt16.toInt32)) hx hb dX5_extend_18 rfl ?_
      refine lv_goto (tgt := 23) hx hb dX5_extend_19 (by decide) ?_
      exact u_iret hx hb hr hlocks hP hS hs dX5_extend_23
  · have hs := if_t c1 hs
    refine lv_iload_n hx hb dX5_extend_7 rfl (lv_at hl 1 rfl) ?_
    refine lv_i2b (v := (x1.toInt8.toInt32)) hx hb dX5_extend_8 rfl ?_
    exact u_iret hx hb hr hlocks hP hS hs dX5_extend_9
theorem kX5_extend {p : Program} {l : Launch} {e : Env} {R : Room} {s : State} {m : MethodId} {args : Array Value} {below : List Frame} {meth : Method} {c : Code} {H : Heap} {locs : List Loc} {cells slots : Nat} {Q : State → Prop} {cc : ByteArray} {pc nL : Nat} {ls : Array Slot} {rest : List Value} {D : va_G} {ad : Nat → Nat} {cI cB : ClassId} {en : Nat → Nat} {S : St} {own : String} {index : Nat} {e0 : Nat} {x1 : Int32} {ro : Int32} {So : St} (C : CallFix p m c cc nL s args wG own) (hlk : Cond.methodLink own index yX5_extend ∈ wG) (hR : rmX5_extend.frames + 1 ≤ R.frames ∧ 8 + (2 + 11) + rmX5_extend.locals ≤ R.locals) (hc : cells ≤ R.cells ∧ slots ≤ R.slots) (hK : KB D ad cI cB en s) (hP : va_P D vwCl (wB ad cI cB S) H) (hS : va_S (AX 10 ad s.heap.size) s.heap H locs) (hls : ls.size = nL) (hrest : (rest.map fun v => v.category).sum ≤ 8) (hd : decode cc pc = .ok (.invokevirtual index, 3)) (hs : fX5_extend e0 x1 S = some (ro, So)) (k : ∀ (H : Heap) (locs : List Loc), va_P D vwCl (wB ad cI cB So) H → va_S (AX 10 ad s.heap.size) s.heap H locs → W p l e R s m args below meth c H locs cells slots Q (F0 m (pc + 3) ls (.int ro :: rest))) : W p l e R s m args below meth c H locs cells slots Q (F0 m pc ls (.int x1 :: .ref (en e0) :: rest)) :=
  u_callV (n := 1) (mX5_extend l D ad cI cB en S e0 x1 ro So hs) C uK_B (wg_V hlk tI_X5_extend tS_X5_extend tN_X5 tK_X5_extend) rfl rfl rfl (by decide +kernel) hR rfl (va_recvE hK.2.2 (show e0 < szN.length from (gd_e hs).1) hS) hK hP hS hls hrest hd hc rfl k
def fX4_holds (x1 : Int32) (S : St) : Option (Bool × St) :=
    (jn (fun (b1 : Bool) => (if ((ush x1 1) &&& 7) = 0 then (some (b1, S))
    else (if ((ush x1 1) &&& 7) = 1 then (jn (fun (b2 : Bool) => (if (zI b1) = (zI b2) then (some (true, S))
    else (some (false, S)))) fun K2 =>
    (if ((S.1 3) &&& 5) = 0 then (K2 true)
    else (K2 false)))
    else (if ((ush x1 1) &&& 7) = 2 then (bd (fX4_has 1 S) fun b3 S1 => (jn (fun (b4 : Bool) => (if (zI b1) = (zI b4) then (some (true, S1))
    else (some (false, S1)))) fun K3 =>
    (if (zI b3) = 0 then (K3 true)
    else (K3 false))))
    else (if ((ush x1 1) &&& 7) = 3 then (bd (fX4_has 4 S) fun b5 S2 => (jn (fun (b6 : Bool) => (if (zI b1) = (zI b6) then (some (true, S2))
    else (some (false, S2)))) fun K4 =>
    (if (zI b5) = 0 then (K4 true)
    else (K4 false))))
    else (if ((ush x1 1) &&& 7) = 4 then (bd (fX4_has 2 S) fun b7 S3 => (jn (fun (b8 : Bool) => (if (zI b1) = (zI b8) then (some (true, S3))
    else (some (false, S3)))) fun K5 =>
    (if (zI b7) = 0 then (K5 true)
    else (K5 false))))
    else (if ((ush x1 1) &&& 7) = 5 then (bd (fX4_has 8 S) fun b9 S4 => (jn (fun (b10 : Bool) => (if (zI b1) = (zI b10) then (some (true, S4))
    else (some (false, S4)))) fun K6 =>
    (if (zI b9) = 0 then (K6 true)
    else (K6 false))))
    else (if ((ush x1 1) &&& 7) = 6 then (bd (fX4_has 8 S) fun b11 S5 => (bd (fX4_has 2 S5) fun b12 S6 => (jn (fun (b13 : Bool) => (if (zI b1) = (zI b13) then (some (true, S6))
    else (some (false, S6)))) fun K7 =>
    (if (zI b11) = (zI b12) then (K7 true)
    else (K7 false)))))
    else (bd (fX4_has 4 S) fun b14 S7 => (jn (fun (b15 : Bool) (S8 : St) => (if (zI b1) = (zI b15) then (some (true, S8))
    else (some (false, S8)))) fun K8 =>
    (if (zI b14) = 0 then (bd (fX4_has 8 S7) fun b16 S9 => (bd (fX4_has 2 S9) fun b17 S10 => (if (zI b16) = (zI b17) then (K8 true S10)
    else (K8 false S10))))
    else (K8 false S7)))))))))))) fun K1 =>
    (if (x1 &&& 1) = 0 then (K1 true)
    else (K1 false)))
abbrev rmX4_holds : Room := { frames := 1, cells := 0, slots := 0, locals := 21 }
set_option maxRecDepth 100000 in
set_option maxHeartbeats 4000000 in
theorem mX4_holds (l : Launch) (D : va_G) (ad : Nat → Nat) (cI cB : ClassId) (en : Nat → Nat) (S : St) (x1 : Int32) (ro : Bool) (So : St) (hs : fX4_holds x1 S = some (ro, So)) : uM l yX4_holds (wg yX4_holds cX4_holds 3 (some .boolean)) rmX4_holds (KB D ad cI cB en) D (wB ad cI cB) (AX 10 ad) [.ref (ad 2), .int x1] S (some (.int (zI ro)), So) := by
  refine uM_start (by decide) rfl ?_
  intro p e s m below meth c hx hb hr hlocks hml hown hts hK hP
  have hT : ∀ w ∈ wG, w.before _ s = true := fun w h => hts w (List.mem_cons_of_mem _ h)
  have hS : va_S (AX 10 ad s.heap.size) s.heap s.heap [] := va_S.rf
  have hown : s.vm.findClass RX4 = some m.cls := hown
  have C : CallFix p m c cX4_holds 3 s _ wG RX4 := ⟨hx, hb, hml, hown, hT⟩
  have hl := lv_entry ([.ref (ad 2), .int x1]) (n := 3) (Nat.le_of_ble_eq_true rfl)
  rw [lg_entry_eq]
  generalize (lg_sl ([.ref (ad 2), .int x1]) ++ List.replicate (3 - (lg_sl ([.ref (ad 2), .int x1])).length) Slot.unset).toArray = ls at hl ⊢
  have hl : lv_has ls 3 [(0, .ref (ad 2)), (1, .int x1)] := hl
  unfold fX4_holds at hs
  refine lv_iload_n hx hb dX4_holds_0 rfl (lv_at hl 1 rfl) ?_
  refine lv_iconst (v := 1) hx hb dX4_holds_1 (by decide) ?_
  refine lv_iand hx hb dX4_holds_2 ?_
  refine jn_e hs (fun K1 => ∀ (b1 : Bool) (H : Heap) (locs : List Loc) (ls : Array Slot), lv_has ls 3 [(0, .ref (ad 2)), (1, .int x1)] → va_P D vwCl (wB ad cI cB S) H → va_S (AX 10 ad s.heap.size) s.heap H locs → K1 b1 = some (ro, So) → W p l e rmX4_holds s m ([.ref (ad 2), .int x1] : List Value).toArray below meth c H locs 0 0 (MQ below (uQ D (wB ad cI cB) (some (.int (zI ro)), So) (AX 10 ad s.heap.size)) ([.ref (ad 2), .int x1] : List Value).toArray s 0 0 (AX 10 ad s.heap.size)) (F0 m 11 ls [.int (zI b1)])) ?_ (fun K1 J1 hs => ?_)
  · intro b1 H locs ls hl hP hS hs
    refine lv_istore_n (lv' := [(2, .int (zI b1)), (0, .ref (ad 2)), (1, .int x1)]) hx hb dX4_holds_11 rfl hl (by decide) rfl (fun ls hl => ?_)
    refine lv_iload_n hx hb dX4_holds_12 rfl (lv_at hl 2 rfl) ?_
    refine lv_iconst (v := 1) hx hb dX4_holds_13 (by decide) ?_
    refine lv_iushr (v := (ush x1 1)) hx hb dX4_holds_14 rfl ?_
    refine lv_bipush (v := 7) hx hb dX4_holds_15 (by decide) ?_
    refine lv_iand hx hb dX4_holds_17 ?_
    by_cases c1 : ((ush x1 1) &&& 7) = 0
    · have hs := if_t c1 hs
      refine u_table (k := 0) (a := 0) (off := 42) (tgt := 60) hx hb dX4_holds_18 c1 (by decide) (by decide) (by decide) (by decide) (by decide) ?_
      refine lv_iload_n hx hb dX4_holds_60 rfl (lv_at hl 0 rfl) ?_
      exact u_zret (v := b1) hx hb hr hlocks hP hS hs dX4_holds_61
    have hs := if_f c1 hs
    by_cases c2 : ((ush x1 1) &&& 7) = 1
    · have hs := if_t c2 hs
      refine u_table (k := 1) (a := 1) (off := 44) (tgt := 62) hx hb dX4_holds_18 c2 (by decide) (by decide) (by decide) (by decide) (by decide) ?_
      refine lv_iload_n hx hb dX4_holds_62 rfl (lv_at hl 0 rfl) ?_
      refine lv_aload_n hx hb dX4_holds_63 rfl (lv_at hl 1 rfl) ?_
      refine gB_X4_sr hx hb hT hown hK hP (hT _ tF_X4_22) dX4_holds_64 ?_
      refine lv_iconst (v := 5) hx hb dX4_holds_67 (by decide) ?_
      refine lv_iand hx hb dX4_holds_68 ?_
      refine jn_e hs (fun K2 => ∀ (b2 : Bool) (H : Heap) (locs : List Loc) (ls : Array Slot), lv_has ls 3 [] → va_P D vwCl (wB ad cI cB S) H → va_S (AX 10 ad s.heap.size) s.heap H locs → K2 b2 = some (ro, So) → W p l e rmX4_holds s m ([.ref (ad 2), .int x1] : List Value).toArray below meth c H locs 0 0 (MQ below (uQ D (wB ad cI cB) (some (.int (zI ro)), So) (AX 10 ad s.heap.size)) ([.ref (ad 2), .int x1] : List Value).toArray s 0 0 (AX 10 ad s.heap.size)) (F0 m 77 ls [.int (zI b2), .int (zI b1)])) ?_ (fun K2 J2 hs => ?_)
      · intro b2 H locs ls hl hP hS hs
        refine lv_icmp_ne (tgt := 84) hx hb dX4_holds_77 (by decide) (fun c3 => ?_) (fun c3 => ?_)
        · have hs := if_f c3 hs
          refine lv_iconst (v := 0) hx hb dX4_holds_84 (by decide) ?_
          exact u_zret (v := false) hx hb hr hlocks hP hS hs dX4_holds_85
        · have hs := if_t c3 hs
          refine lv_iconst (v := 1) hx hb dX4_holds_80 (by decide) ?_
          refine lv_goto (tgt := 85) hx hb dX4_holds_81 (by decide) ?_
          exact u_zret (v := true) hx hb hr hlocks hP hS hs dX4_holds_85
      ·
        refine lv_if_ne (tgt := 76) hx hb dX4_holds_69 (by decide) (fun c4 => ?_) (fun c4 => ?_)
        · have hs := if_f c4 hs
          refine lv_iconst (v := 0) hx hb dX4_holds_76 (by decide) ?_
          exact J2 false _ _ _ (lv_sub hl [] rfl) hP hS hs
        · have hs := if_t c4 hs
          refine lv_iconst (v := 1) hx hb dX4_holds_72 (by decide) ?_
          refine lv_goto (tgt := 77) hx hb dX4_holds_73 (by decide) ?_
          exact J2 true _ _ _ (lv_sub hl [] rfl) hP hS hs
    have hs := if_f c2 hs
    by_cases c5 : ((ush x1 1) &&& 7) = 2
    · have hs := if_t c5 hs
      refine u_table (k := 2) (a := 2) (off := 68) (tgt := 86) hx hb dX4_holds_18 c5 (by decide) (by decide) (by decide) (by decide) (by decide) ?_
      refine lv_iload_n hx hb dX4_holds_86 rfl (lv_at hl 0 rfl) ?_
      refine lv_aload_n hx hb dX4_holds_87 rfl (lv_at hl 1 rfl) ?_
      refine lv_iconst (v := 1) hx hb dX4_holds_88 (by decide) ?_
      obtain ⟨b3, S1, h1, hs⟩ := bd_e hs
      refine kX4_has C tM_X4_44 ⟨Nat.le_of_ble_eq_true rfl, Nat.le_of_ble_eq_true rfl⟩ ⟨Nat.le_of_ble_eq_true rfl, Nat.le_of_ble_eq_true rfl⟩ hK hP hS hl.1 (rest := [.int (zI b1)]) (Nat.le_of_ble_eq_true rfl) dX4_holds_89 h1 (fun H locs hP hS => ?_)
      refine jn_e hs (fun K3 => ∀ (b4 : Bool) (H : Heap) (locs : List Loc) (ls : Array Slot), lv_has ls 3 [] → va_P D vwCl (wB ad cI cB S1) H → va_S (AX 10 ad s.heap.size) s.heap H locs → K3 b4 = some (ro, So) → W p l e rmX4_holds s m ([.ref (ad 2), .int x1] : List Value).toArray below meth c H locs 0 0 (MQ below (uQ D (wB ad cI cB) (some (.int (zI ro)), So) (AX 10 ad s.heap.size)) ([.ref (ad 2), .int x1] : List Value).toArray s 0 0 (AX 10 ad s.heap.size)) (F0 m 100 ls [.int (zI b4), .int (zI b1)])) ?_ (fun K3 J3 hs => ?_)
      · intro b4 H locs ls hl hP hS hs
        refine lv_icmp_ne (tgt := 107) hx hb dX4_holds_100 (by decide) (fun c6 => ?_) (fun c6 => ?_)
        · have hs := if_f c6 hs
          refine lv_iconst (v := 0) hx hb dX4_holds_107 (by decide) ?_
          exact u_zret (v := false) hx hb hr hlocks hP hS hs dX4_holds_108
        · have hs := if_t c6 hs
          refine lv_iconst (v := 1) hx hb dX4_holds_103 (by decide) ?_
          refine lv_goto (tgt := 108) hx hb dX4_holds_104 (by decide) ?_
          exact u_zret (v := true) hx hb hr hlocks hP hS hs dX4_holds_108
      ·
        refine lv_if_ne (tgt := 99) hx hb dX4_holds_92 (by decide) (fun c7 => ?_) (fun c7 => ?_)
        · have hs := if_f c7 hs
          refine lv_iconst (v := 0) hx hb dX4_holds_99 (by decide) ?_
          exact J3 false _ _ _ (lv_sub hl [] rfl) hP hS hs
        · have hs := if_t c7 hs
          refine lv_iconst (v := 1) hx hb dX4_holds_95 (by decide) ?_
          refine lv_goto (tgt := 100) hx hb dX4_holds_96 (by decide) ?_
          exact J3 true _ _ _ (lv_sub hl [] rfl) hP hS hs
    have hs := if_f c5 hs
    by_cases c8 : ((ush x1 1) &&& 7) = 3
    · have hs := if_t c8 hs
      refine u_table (k := 3) (a := 3) (off := 91) (tgt := 109) hx hb dX4_holds_18 c8 (by decide) (by decide) (by decide) (by decide) (by decide) ?_
      refine lv_iload_n hx hb dX4_holds_109 rfl (lv_at hl 0 rfl) ?_
      refine lv_aload_n hx hb dX4_holds_110 rfl (lv_at hl 1 rfl) ?_
      refine lv_iconst (v := 4) hx hb dX4_holds_111 (by decide) ?_
      obtain ⟨b5, S2, h2, hs⟩ := bd_e hs
      refine kX4_has C tM_X4_44 ⟨Nat.le_of_ble_eq_true rfl, Nat.le_of_ble_eq_true rfl⟩ ⟨Nat.le_of_ble_eq_true rfl, Nat.le_of_ble_eq_true rfl⟩ hK hP hS hl.1 (rest := [.int (zI b1)]) (Nat.le_of_ble_eq_true rfl) dX4_holds_112 h2 (fun H locs hP hS => ?_)
      refine jn_e hs (fun K4 => ∀ (b6 : Bool) (H : Heap) (locs : List Loc) (ls : Array Slot), lv_has ls 3 [] → va_P D vwCl (wB ad cI cB S2) H → va_S (AX 10 ad s.heap.size) s.heap H locs → K4 b6 = some (ro, So) → W p l e rmX4_holds s m ([.ref (ad 2), .int x1] : List Value).toArray below meth c H locs 0 0 (MQ below (uQ D (wB ad cI cB) (some (.int (zI ro)), So) (AX 10 ad s.heap.size)) ([.ref (ad 2), .int x1] : List Value).toArray s 0 0 (AX 10 ad s.heap.size)) (F0 m 123 ls [.int (zI b6), .int (zI b1)])) ?_ (fun K4 J4 hs => ?_)
      · intro b6 H locs ls hl hP hS hs
        refine lv_icmp_ne (tgt := 130) hx hb dX4_holds_123 (by decide) (fun c9 => ?_) (fun c9 => ?_)
        · have hs := if_f c9 hs
          refine lv_iconst (v := 0) hx hb dX4_holds_130 (by decide) ?_
          exact u_zret (v := false) hx hb hr hlocks hP hS hs dX4_holds_131
        · have hs := if_t c9 hs
          refine lv_iconst (v := 1) hx hb dX4_holds_126 (by decide) ?_
          refine lv_goto (tgt := 131) hx hb dX4_holds_127 (by decide) ?_
          exact u_zret (v := true) hx hb hr hlocks hP hS hs dX4_holds_131
      ·
        refine lv_if_ne (tgt := 122) hx hb dX4_holds_115 (by decide) (fun c10 => ?_) (fun c10 => ?_)
        · have hs := if_f c10 hs
          refine lv_iconst (v := 0) hx hb dX4_holds_122 (by decide) ?_
          exact J4 false _ _ _ (lv_sub hl [] rfl) hP hS hs
        · have hs := if_t c10 hs
          refine lv_iconst (v := 1) hx hb dX4_holds_118 (by decide) ?_
          refine lv_goto (tgt := 123) hx hb dX4_holds_119 (by decide) ?_
          exact J4 true _ _ _ (lv_sub hl [] rfl) hP hS hs
    have hs := if_f c8 hs
    by_cases c11 : ((ush x1 1) &&& 7) = 4
    · have hs := if_t c11 hs
      refine u_table (k := 4) (a := 4) (off := 114) (tgt := 132) hx hb dX4_holds_18 c11 (by decide) (by decide) (by decide) (by decide) (by decide) ?_
      refine lv_iload_n hx hb dX4_holds_132 rfl (lv_at hl 0 rfl) ?_
      refine lv_aload_n hx hb dX4_holds_133 rfl (lv_at hl 1 rfl) ?_
      refine lv_iconst (v := 2) hx hb dX4_holds_134 (by decide) ?_
      obtain ⟨b7, S3, h3, hs⟩ := bd_e hs
      refine kX4_has C tM_X4_44 ⟨Nat.le_of_ble_eq_true rfl, Nat.le_of_ble_eq_true rfl⟩ ⟨Nat.le_of_ble_eq_true rfl, Nat.le_of_ble_eq_true rfl⟩ hK hP hS hl.1 (rest := [.int (zI b1)]) (Nat.le_of_ble_eq_true rfl) dX4_holds_135 h3 (fun H locs hP hS => ?_)
      refine jn_e hs (fun K5 => ∀ (b8 : Bool) (H : Heap) (locs : List Loc) (ls : Array Slot), lv_has ls 3 [] → va_P D vwCl (wB ad cI cB S3) H → va_S (AX 10 ad s.heap.size) s.heap H locs → K5 b8 = some (ro, So) → W p l e rmX4_holds s m ([.ref (ad 2), .int x1] : List Value).toArray below meth c H locs 0 0 (MQ below (uQ D (wB ad cI cB) (some (.int (zI ro)), So) (AX 10 ad s.heap.size)) ([.ref (ad 2), .int x1] : List Value).toArray s 0 0 (AX 10 ad s.heap.size)) (F0 m 146 ls [.int (zI b8), .int (zI b1)])) ?_ (fun K5 J5 hs => ?_)
      · intro b8 H locs ls hl hP hS hs
        refine lv_icmp_ne (tgt := 153) hx hb dX4_holds_146 (by decide) (fun c12 => ?_) (fun c12 => ?_)
        · have hs := if_f c12 hs
          refine lv_iconst (v := 0) hx hb dX4_holds_153 (by decide) ?_
          exact u_zret (v := false) hx hb hr hlocks hP hS hs dX4_holds_154
        · have hs := if_t c12 hs
          refine lv_iconst (v := 1) hx hb dX4_holds_149 (by decide) ?_
          refine lv_goto (tgt := 154) hx hb dX4_holds_150 (by decide) ?_
          exact u_zret (v := true) hx hb hr hlocks hP hS hs dX4_holds_154
      ·
        refine lv_if_ne (tgt := 145) hx hb dX4_holds_138 (by decide) (fun c13 => ?_) (fun c13 => ?_)
        · have hs := if_f c13 hs
          refine lv_iconst (v := 0) hx hb dX4_holds_145 (by decide) ?_
          exact J5 false _ _ _ (lv_sub hl [] rfl) hP hS hs
        · have hs := if_t c13 hs
          refine lv_iconst (v := 1) hx hb dX4_holds_141 (by decide) ?_
          refine lv_goto (tgt := 146) hx hb dX4_holds_142 (by decide) ?_
          exact J5 true _ _ _ (lv_sub hl [] rfl) hP hS hs
    have hs := if_f c11 hs
    by_cases c14 : ((ush x1 1) &&& 7) = 5
    · have hs := if_t c14 hs
      refine u_table (k := 5) (a := 5) (off := 137) (tgt := 155) hx hb dX4_holds_18 c14 (by decide) (by decide) (by decide) (by decide) (by decide) ?_
      refine lv_iload_n hx hb dX4_holds_155 rfl (lv_at hl 0 rfl) ?_
      refine lv_aload_n hx hb dX4_holds_156 rfl (lv_at hl 1 rfl) ?_
      refine lv_bipush (v := 8) hx hb dX4_holds_157 (by decide) ?_
      obtain ⟨b9, S4, h4, hs⟩ := bd_e hs
      refine kX4_has C tM_X4_44 ⟨Nat.le_of_ble_eq_true rfl, Nat.le_of_ble_eq_true rfl⟩ ⟨Nat.le_of_ble_eq_true rfl, Nat.le_of_ble_eq_true rfl⟩ hK hP hS hl.1 (rest := [.int (zI b1)]) (Nat.le_of_ble_eq_true rfl) dX4_holds_159 h4 (fun H locs hP hS => ?_)
      refine jn_e hs (fun K6 => ∀ (b10 : Bool) (H : Heap) (locs : List Loc) (ls : Array Slot), lv_has ls 3 [] → va_P D vwCl (wB ad cI cB S4) H → va_S (AX 10 ad s.heap.size) s.heap H locs → K6 b10 = some (ro, So) → W p l e rmX4_holds s m ([.ref (ad 2), .int x1] : List Value).toArray below meth c H locs 0 0 (MQ below (uQ D (wB ad cI cB) (some (.int (zI ro)), So) (AX 10 ad s.heap.size)) ([.ref (ad 2), .int x1] : List Value).toArray s 0 0 (AX 10 ad s.heap.size)) (F0 m 170 ls [.int (zI b10), .int (zI b1)])) ?_ (fun K6 J6 hs => ?_)
      · intro b10 H locs ls hl hP hS hs
        refine lv_icmp_ne (tgt := 177) hx hb dX4_holds_170 (by decide) (fun c15 => ?_) (fun c15 => ?_)
        · have hs := if_f c15 hs
          refine lv_iconst (v := 0) hx hb dX4_holds_177 (by decide) ?_
          exact u_zret (v := false) hx hb hr hlocks hP hS hs dX4_holds_178
        · have hs := if_t c15 hs
          refine lv_iconst (v := 1) hx hb dX4_holds_173 (by decide) ?_
          refine lv_goto (tgt := 178) hx hb dX4_holds_174 (by decide) ?_
          exact u_zret (v := true) hx hb hr hlocks hP hS hs dX4_holds_178
      ·
        refine lv_if_ne (tgt := 169) hx hb dX4_holds_162 (by decide) (fun c16 => ?_) (fun c16 => ?_)
        · have hs := if_f c16 hs
          refine lv_iconst (v := 0) hx hb dX4_holds_169 (by decide) ?_
          exact J6 false _ _ _ (lv_sub hl [] rfl) hP hS hs
        · have hs := if_t c16 hs
          refine lv_iconst (v := 1) hx hb dX4_holds_165 (by decide) ?_
          refine lv_goto (tgt := 170) hx hb dX4_holds_166 (by decide) ?_
          exact J6 true _ _ _ (lv_sub hl [] rfl) hP hS hs
    have hs := if_f c14 hs
    by_cases c17 : ((ush x1 1) &&& 7) = 6
    · have hs := if_t c17 hs
      refine u_table (k := 6) (a := 6) (off := 161) (tgt := 179) hx hb dX4_holds_18 c17 (by decide) (by decide) (by decide) (by decide) (by decide) ?_
      refine lv_iload_n hx hb dX4_holds_179 rfl (lv_at hl 0 rfl) ?_
      refine lv_aload_n hx hb dX4_holds_180 rfl (lv_at hl 1 rfl) ?_
      refine lv_bipush (v := 8) hx hb dX4_holds_181 (by decide) ?_
      obtain ⟨b11, S5, h5, hs⟩ := bd_e hs
      refine kX4_has C tM_X4_44 ⟨Nat.le_of_ble_eq_true rfl, Nat.le_of_ble_eq_true rfl⟩ ⟨Nat.le_of_ble_eq_true rfl, Nat.le_of_ble_eq_true rfl⟩ hK hP hS hl.1 (rest := [.int (zI b1)]) (Nat.le_of_ble_eq_true rfl) dX4_holds_183 h5 (fun H locs hP hS => ?_)
      refine lv_aload_n hx hb dX4_holds_186 rfl (lv_at hl 1 rfl) ?_
      refine lv_iconst (v := 2) hx hb dX4_holds_187 (by decide) ?_
      obtain ⟨b12, S6, h6, hs⟩ := bd_e hs
      refine kX4_has C tM_X4_44 ⟨Nat.le_of_ble_eq_true rfl, Nat.le_of_ble_eq_true rfl⟩ ⟨Nat.le_of_ble_eq_true rfl, Nat.le_of_ble_eq_true rfl⟩ hK hP hS hl.1 (rest := [.int (zI b11), .int (zI b1)]) (Nat.le_of_ble_eq_true rfl) dX4_holds_188 h6 (fun H locs hP hS => ?_)
      refine jn_e hs (fun K7 => ∀ (b13 : Bool) (H : Heap) (locs : List Loc) (ls : Array Slot), lv_has ls 3 [] → va_P D vwCl (wB ad cI cB S6) H → va_S (AX 10 ad s.heap.size) s.heap H locs → K7 b13 = some (ro, So) → W p l e rmX4_holds s m ([.ref (ad 2), .int x1] : List Value).toArray below meth c H locs 0 0 (MQ below (uQ D (wB ad cI cB) (some (.int (zI ro)), So) (AX 10 ad s.heap.size)) ([.ref (ad 2), .int x1] : List Value).toArray s 0 0 (AX 10 ad s.heap.size)) (F0 m 199 ls [.int (zI b13), .int (zI b1)])) ?_ (fun K7 J7 hs => ?_)
      · intro b13 H locs ls hl hP hS hs
        refine lv_icmp_ne (tgt := 206) hx hb dX4_holds_199 (by decide) (fun c18 => ?_) (fun c18 => ?_)
        · have hs := if_f c18 hs
          refine lv_iconst (v := 0) hx hb dX4_holds_206 (by decide) ?_
          exact u_zret (v := false) hx hb hr hlocks hP hS hs dX4_holds_207
        · have hs := if_t c18 hs
          refine lv_iconst (v := 1) hx hb dX4_holds_202 (by decide) ?_
          refine lv_goto (tgt := 207) hx hb dX4_holds_203 (by decide) ?_
          exact u_zret (v := true) hx hb hr hlocks hP hS hs dX4_holds_207
      ·
        refine lv_icmp_ne (tgt := 198) hx hb dX4_holds_191 (by decide) (fun c19 => ?_) (fun c19 => ?_)
        · have hs := if_f c19 hs
          refine lv_iconst (v := 0) hx hb dX4_holds_198 (by decide) ?_
          exact J7 false _ _ _ (lv_sub hl [] rfl) hP hS hs
        · have hs := if_t c19 hs
          refine lv_iconst (v := 1) hx hb dX4_holds_194 (by decide) ?_
          refine lv_goto (tgt := 199) hx hb dX4_holds_195 (by decide) ?_
          exact J7 true _ _ _ (lv_sub hl [] rfl) hP hS hs
    have hs := if_f c17 hs
    refine u_tableD (tgt := 208) hx hb dX4_holds_18 (fun hlo hhi => ?_) (by decide) ?_
    · have hz : (((ush x1 1) &&& 7)).toInt = 0 ∨ (((ush x1 1) &&& 7)).toInt = 1 ∨ (((ush x1 1) &&& 7)).toInt = 2 ∨ (((ush x1 1) &&& 7)).toInt = 3 ∨ (((ush x1 1) &&& 7)).toInt = 4 ∨ (((ush x1 1) &&& 7)).toInt = 5 ∨ (((ush x1 1) &&& 7)).toInt = 6 := by omega
      rcases hz with hz | hz | hz | hz | hz | hz | hz
      · exact absurd hz (lv_neT c1 (by decide))
      · exact absurd hz (lv_neT c2 (by decide))
      · exact absurd hz (lv_neT c5 (by decide))
      · exact absurd hz (lv_neT c8 (by decide))
      · exact absurd hz (lv_neT c11 (by decide))
      · exact absurd hz (lv_neT c14 (by decide))
      · exact absurd hz (lv_neT c17 (by decide))
    refine lv_iload_n hx hb dX4_holds_208 rfl (lv_at hl 0 rfl) ?_
    refine lv_aload_n hx hb dX4_holds_209 rfl (lv_at hl 1 rfl) ?_
    refine lv_iconst (v := 4) hx hb dX4_holds_210 (by decide) ?_
    obtain ⟨b14, S7, h7, hs⟩ := bd_e hs
    refine kX4_has C tM_X4_44 ⟨Nat.le_of_ble_eq_true rfl, Nat.le_of_ble_eq_true rfl⟩ ⟨Nat.le_of_ble_eq_true rfl, Nat.le_of_ble_eq_true rfl⟩ hK hP hS hl.1 (rest := [.int (zI b1)]) (Nat.le_of_ble_eq_true rfl) dX4_holds_211 h7 (fun H locs hP hS => ?_)
    refine jn_e hs (fun K8 => ∀ (b15 : Bool) (S8 : St) (H : Heap) (locs : List Loc) (ls : Array Slot), lv_has ls 3 [] → va_P D vwCl (wB ad cI cB S8) H → va_S (AX 10 ad s.heap.size) s.heap H locs → K8 b15 S8 = some (ro, So) → W p l e rmX4_holds s m ([.ref (ad 2), .int x1] : List Value).toArray below meth c H locs 0 0 (MQ below (uQ D (wB ad cI cB) (some (.int (zI ro)), So) (AX 10 ad s.heap.size)) ([.ref (ad 2), .int x1] : List Value).toArray s 0 0 (AX 10 ad s.heap.size)) (F0 m 236 ls [.int (zI b15), .int (zI b1)])) ?_ (fun K8 J8 hs => ?_)
    · intro b15 S8 H locs ls hl hP hS hs
      refine lv_icmp_ne (tgt := 243) hx hb dX4_holds_236 (by decide) (fun c20 => ?_) (fun c20 => ?_)
      · have hs := if_f c20 hs
        refine lv_iconst (v := 0) hx hb dX4_holds_243 (by decide) ?_
        exact u_zret (v := false) hx hb hr hlocks hP hS hs dX4_holds_244
      · have hs := if_t c20 hs
        refine lv_iconst (v := 1) hx hb dX4_holds_239 (by decide) ?_
        refine lv_goto (tgt := 244) hx hb dX4_holds_240 (by decide) ?_
        exact u_zret (v := true) hx hb hr hlocks hP hS hs dX4_holds_244
    ·
      refine lv_if_ne (tgt := 235) hx hb dX4_holds_214 (by decide) (fun c21 => ?_) (fun c21 => ?_)
      · have hs := if_f c21 hs
        refine lv_iconst (v := 0) hx hb dX4_holds_235 (by decide) ?_
        exact J8 false S7 _ _ _ (lv_sub hl [] rfl) hP hS hs
      · have hs := if_t c21 hs
        refine lv_aload_n hx hb dX4_holds_217 rfl (lv_at hl 1 rfl) ?_
        refine lv_bipush (v := 8) hx hb dX4_holds_218 (by decide) ?_
        obtain ⟨b16, S9, h8, hs⟩ := bd_e hs
        refine kX4_has C tM_X4_44 ⟨Nat.le_of_ble_eq_true rfl, Nat.le_of_ble_eq_true rfl⟩ ⟨Nat.le_of_ble_eq_true rfl, Nat.le_of_ble_eq_true rfl⟩ hK hP hS hl.1 (rest := [.int (zI b1)]) (Nat.le_of_ble_eq_true rfl) dX4_holds_220 h8 (fun H locs hP hS => ?_)
        refine lv_aload_n hx hb dX4_holds_223 rfl (lv_at hl 1 rfl) ?_
        refine lv_iconst (v := 2) hx hb dX4_holds_224 (by decide) ?_
        obtain ⟨b17, S10, h9, hs⟩ := bd_e hs
        refine kX4_has C tM_X4_44 ⟨Nat.le_of_ble_eq_true rfl, Nat.le_of_ble_eq_true rfl⟩ ⟨Nat.le_of_ble_eq_true rfl, Nat.le_of_ble_eq_true rfl⟩ hK hP hS hl.1 (rest := [.int (zI b16), .int (zI b1)]) (Nat.le_of_ble_eq_true rfl) dX4_holds_225 h9 (fun H locs hP hS => ?_)
        refine lv_icmp_ne (tgt := 235) hx hb dX4_holds_228 (by decide) (fun c22 => ?_) (fun c22 => ?_)
        · have hs := if_f c22 hs
          refine lv_iconst (v := 0) hx hb dX4_holds_235 (by decide) ?_
          exact J8 false S10 _ _ _ (lv_sub hl [] rfl) hP hS hs
        · have hs := if_t c22 hs
          refine lv_iconst (v := 1) hx hb dX4_holds_231 (by decide) ?_
          refine lv_goto (tgt := 236) hx hb dX4_holds_232 (by decide) ?_
          exact J8 true S10 _ _ _ (lv_sub hl [] rfl) hP hS hs
  ·
    refine lv_if_ne (tgt := 10) hx hb dX4_holds_3 (by decide) (fun c23 => ?_) (fun c23 => ?_)
    · have hs := if_f c23 hs
      refine lv_iconst (v := 0) hx hb dX4_holds_10 (by decide) ?_
      exact J1 false _ _ _ (lv_sub hl [0, 1] rfl) hP hS hs
    · have hs := if_t c23 hs
      refine lv_iconst (v := 1) hx hb dX4_holds_6 (by decide) ?_
      refine lv_goto (tgt := 11) hx hb dX4_holds_7 (by decide) ?_
      exact J1 true _ _ _ (lv_sub hl [0, 1] rfl) hP hS hs
theorem kX4_holds {p : Program} {l : Launch} {e : Env} {R : Room} {s : State} {m : MethodId} {args : Array Value} {below : List Frame} {meth : Method} {c : Code} {H : Heap} {locs : List Loc} {cells slots : Nat} {Q : State → Prop} {cc : ByteArray} {pc nL : Nat} {ls : Array Slot} {rest : List Value} {D : va_G} {ad : Nat → Nat} {cI cB : ClassId} {en : Nat → Nat} {S : St} {own : String} {index : Nat} {x1 : Int32} {ro : Bool} {So : St} (C : CallFix p m c cc nL s args wG own) (hlk : Cond.methodLink own index yX4_holds ∈ wG) (hR : rmX4_holds.frames + 1 ≤ R.frames ∧ 8 + (3 + 11) + rmX4_holds.locals ≤ R.locals) (hc : cells ≤ R.cells ∧ slots ≤ R.slots) (hK : KB D ad cI cB en s) (hP : va_P D vwCl (wB ad cI cB S) H) (hS : va_S (AX 10 ad s.heap.size) s.heap H locs) (hls : ls.size = nL) (hrest : (rest.map fun v => v.category).sum ≤ 8) (hd : decode cc pc = .ok (.invokevirtual index, 3)) (hs : fX4_holds x1 S = some (ro, So)) (k : ∀ (H : Heap) (locs : List Loc), va_P D vwCl (wB ad cI cB So) H → va_S (AX 10 ad s.heap.size) s.heap H locs → W p l e R s m args below meth c H locs cells slots Q (F0 m (pc + 3) ls (.int (zI ro) :: rest))) : W p l e R s m args below meth c H locs cells slots Q (F0 m pc ls (.int x1 :: .ref (ad 2) :: rest)) :=
  u_callV (n := 1) (mX4_holds l D ad cI cB en S x1 ro So hs) C uK_B (wg_V hlk tI_X4_holds tS_X4_holds tN_X4 tK_X4_holds) rfl rfl rfl (by decide +kernel) hR rfl (va_recv hK.1 hP (ci := 4) (q0 := 2) rfl rfl) hK hP hS hls hrest hd hc rfl k
def fX4_bringBack  (S : St) : Option St :=
    (lt (sR S 1 (va_cpy (S.2.2 2) (S.2.2 1) (0 : Int32).toNatClampNeg (0 : Int32).toNatClampNeg (17 : Int32).toNatClampNeg)) fun S1 => (lt (sI S1 2 (S1.1 4)) fun S2 => (lt (sI S2 3 (S2.1 5)) fun S3 => (some S3))))
abbrev rmX4_bringBack : Room := { frames := 1, cells := 0, slots := 0, locals := 18 }
set_option maxRecDepth 100000 in
set_option maxHeartbeats 4000000 in
theorem mX4_bringBack (l : Launch) (D : va_G) (ad : Nat → Nat) (cI cB : ClassId) (en : Nat → Nat) (S : St)  (So : St) (hs : fX4_bringBack  S = some So) : uM l yX4_bringBack (wg yX4_bringBack cX4_bringBack 1 none) rmX4_bringBack (KB D ad cI cB en) D (wB ad cI cB) (AX 10 ad) [.ref (ad 2)] S (none, So) := by
  refine uM_start (by decide) rfl ?_
  intro p e s m below meth c hx hb hr hlocks hml hown hts hK hP
  have hT : ∀ w ∈ wG, w.before _ s = true := fun w h => hts w (List.mem_cons_of_mem _ h)
  have hS : va_S (AX 10 ad s.heap.size) s.heap s.heap [] := va_S.rf
  have hown : s.vm.findClass RX4 = some m.cls := hown
  have C : CallFix p m c cX4_bringBack 1 s _ wG RX4 := ⟨hx, hb, hml, hown, hT⟩
  have hl := lv_entry ([.ref (ad 2)]) (n := 1) (Nat.le_of_ble_eq_true rfl)
  rw [lg_entry_eq]
  generalize (lg_sl ([.ref (ad 2)]) ++ List.replicate (1 - (lg_sl ([.ref (ad 2)])).length) Slot.unset).toArray = ls at hl ⊢
  have hl : lv_has ls 1 [(0, .ref (ad 2))] := hl
  unfold fX4_bringBack at hs
  refine lv_aload_n hx hb dX4_bringBack_0 rfl (lv_at hl 0 rfl) ?_
  refine gB_X4_kept hx hb hT hown hK hP (hT _ tF_X4_15) dX4_bringBack_1 ?_
  refine lv_iconst (v := 0) hx hb dX4_bringBack_4 (by decide) ?_
  refine lv_aload_n hx hb dX4_bringBack_5 rfl (lv_at hl 0 rfl) ?_
  refine gB_X4_now hx hb hT hown hK hP (hT _ tF_X4_9) dX4_bringBack_6 ?_
  refine lv_iconst (v := 0) hx hb dX4_bringBack_9 (by decide) ?_
  refine lv_bipush (v := 17) hx hb dX4_bringBack_10 (by decide) ?_
  obtain ⟨S1, h1, hs⟩ := lt_e hs
  refine va_copyi hx hb (hml.trans hl.1.symm) hown (hT _ tM_X4_31) (hT _ tNat_copy) (hT _ tSt_copy) (hT _ tN_System) hK.1 hP (wB_D hK s.heap.size S) hS 8 7 0 0 rfl rfl rfl rfl rfl (by decide) (by decide) (by decide) (by decide) (by decide) (fun _ _ => rfl) (Nat.le_of_ble_eq_true rfl) (Nat.le_of_ble_eq_true rfl) dX4_bringBack_12 (fun H locs hP _ hS => ?_)
  have hP : va_P D vwCl (wB ad cI cB S1) H := by subst h1; exact hP
  refine lv_aload_n hx hb dX4_bringBack_15 rfl (lv_at hl 0 rfl) ?_
  refine lv_aload_n hx hb dX4_bringBack_16 rfl (lv_at hl 0 rfl) ?_
  refine gB_X4_keptPc hx hb hT hown hK hP (hT _ tF_X4_37) dX4_bringBack_17 ?_
  obtain ⟨S2, h2, hs⟩ := lt_e hs
  refine pB_X4_pc hx hb hT hown hK hP hS (hT _ tF_X4_18) dX4_bringBack_20 (v := (S1.1 4)) h2 (fun H locs hP hS => ?_)
  refine lv_aload_n hx hb dX4_bringBack_23 rfl (lv_at hl 0 rfl) ?_
  refine lv_aload_n hx hb dX4_bringBack_24 rfl (lv_at hl 0 rfl) ?_
  refine gB_X4_keptSr hx hb hT hown hK hP (hT _ tF_X4_40) dX4_bringBack_25 ?_
  obtain ⟨S3, h3, hs⟩ := lt_e hs
  refine pB_X4_sr hx hb hT hown hK hP hS (hT _ tF_X4_22) dX4_bringBack_28 (v := (S2.1 5)) h3 (fun H locs hP hS => ?_)
  exact u_vret hx hb hr hlocks hP hS hs dX4_bringBack_31
theorem kX4_bringBack {p : Program} {l : Launch} {e : Env} {R : Room} {s : State} {m : MethodId} {args : Array Value} {below : List Frame} {meth : Method} {c : Code} {H : Heap} {locs : List Loc} {cells slots : Nat} {Q : State → Prop} {cc : ByteArray} {pc nL : Nat} {ls : Array Slot} {rest : List Value} {D : va_G} {ad : Nat → Nat} {cI cB : ClassId} {en : Nat → Nat} {S : St} {own : String} {index : Nat}  {So : St} (C : CallFix p m c cc nL s args wG own) (hlk : Cond.methodLink own index yX4_bringBack ∈ wG) (hR : rmX4_bringBack.frames + 1 ≤ R.frames ∧ 8 + (1 + 11) + rmX4_bringBack.locals ≤ R.locals) (hc : cells ≤ R.cells ∧ slots ≤ R.slots) (hK : KB D ad cI cB en s) (hP : va_P D vwCl (wB ad cI cB S) H) (hS : va_S (AX 10 ad s.heap.size) s.heap H locs) (hls : ls.size = nL) (hrest : (rest.map fun v => v.category).sum ≤ 8) (hd : decode cc pc = .ok (.invokevirtual index, 3)) (hs : fX4_bringBack  S = some So) (k : ∀ (H : Heap) (locs : List Loc), va_P D vwCl (wB ad cI cB So) H → va_S (AX 10 ad s.heap.size) s.heap H locs → W p l e R s m args below meth c H locs cells slots Q (F0 m (pc + 3) ls (rest))) : W p l e R s m args below meth c H locs cells slots Q (F0 m pc ls (.ref (ad 2) :: rest)) :=
  u_callV (n := 0) (mX4_bringBack l D ad cI cB en S  So hs) C uK_B (wg_V hlk tI_X4_bringBack tS_X4_bringBack tN_X4 tK_X4_bringBack) rfl rfl rfl (by decide +kernel) hR rfl (va_recv hK.1 hP (ci := 4) (q0 := 2) rfl rfl) hK hP hS hls hrest hd hc rfl k
def fX3_weighted_b1  (k1 : Int32 → Int32 → St → Option (Int32 × St)) (v1 : Int32) (v2 : Int32) (S1 : St) : Option (Int32 × St) :=
    (if 4096 ≤ v1 then (some (v2, S1))
    else (gd (ixo v1 4096 = true) (lt ((v2 + (((S1.2.2 0 v1.toNatClampNeg) &&& 255) * (v1 + 1))) : Int32) fun v3 => (lt (v1 + 1) fun v4 => (k1 v4 v3 S1)))))
def fX3_weighted_l1  : Nat → Int32 → Int32 → St → Option (Int32 × St)
  | 0 => fun _ _ _ => none
  | n + 1 => fX3_weighted_b1  (fX3_weighted_l1  n)
def fX3_weighted  (S : St) : Option (Int32 × St) :=
    (fX3_weighted_l1  4097 0 0 S)
abbrev rmX3_weighted : Room := { frames := 0, cells := 0, slots := 0, locals := 0 }
set_option maxRecDepth 100000 in
set_option maxHeartbeats 4000000 in
theorem mX3_weighted (l : Launch) (D : va_G) (ad : Nat → Nat) (cI cB : ClassId) (en : Nat → Nat) (S : St)  (ro : Int32) (So : St) (hs : fX3_weighted  S = some (ro, So)) : uM l yX3_weighted (wg yX3_weighted cX3_weighted 3 (some .int)) rmX3_weighted (KB D ad cI cB en) D (wB ad cI cB) (AX 10 ad) [.ref (ad 1)] S (some (.int ro), So) := by
  refine uM_start (by decide) rfl ?_
  intro p e s m below meth c hx hb hr hlocks hml hown hts hK hP
  have hT : ∀ w ∈ wG, w.before _ s = true := fun w h => hts w (List.mem_cons_of_mem _ h)
  have hS : va_S (AX 10 ad s.heap.size) s.heap s.heap [] := va_S.rf
  have hown : s.vm.findClass RX3 = some m.cls := hown
  have C : CallFix p m c cX3_weighted 3 s _ wG RX3 := ⟨hx, hb, hml, hown, hT⟩
  have hl := lv_entry ([.ref (ad 1)]) (n := 3) (Nat.le_of_ble_eq_true rfl)
  rw [lg_entry_eq]
  generalize (lg_sl ([.ref (ad 1)]) ++ List.replicate (3 - (lg_sl ([.ref (ad 1)])).length) Slot.unset).toArray = ls at hl ⊢
  have hl : lv_has ls 3 [(0, .ref (ad 1))] := hl
  unfold fX3_weighted at hs
  refine lv_iconst (v := 0) hx hb dX3_weighted_0 (by decide) ?_
  refine lv_istore_n (lv' := [(1, .int 0), (0, .ref (ad 1))]) hx hb dX3_weighted_1 rfl hl (by decide) rfl (fun ls hl => ?_)
  refine lv_iconst (v := 0) hx hb dX3_weighted_2 (by decide) ?_
  refine lv_istore_n (lv' := [(2, .int 0), (1, .int 0), (0, .ref (ad 1))]) hx hb dX3_weighted_3 rfl hl (by decide) rfl (fun ls hl => ?_)
  have L1 : ∀ (n : Nat) (v1 : Int32) (v2 : Int32) (S1 : St) (H : Heap) (locs : List Loc) (ls : Array Slot), lv_has ls 3 [(2, .int v1), (1, .int v2), (0, .ref (ad 1))] → va_P D vwCl (wB ad cI cB S1) H → va_S (AX 10 ad s.heap.size) s.heap H locs → fX3_weighted_l1  n v1 v2 S1 = some (ro, So) → W p l e rmX3_weighted s m ([.ref (ad 1)] : List Value).toArray below meth c H locs 0 0 (MQ below (uQ D (wB ad cI cB) (some (.int ro), So) (AX 10 ad s.heap.size)) ([.ref (ad 1)] : List Value).toArray s 0 0 (AX 10 ad s.heap.size)) (F0 m 4 ls []) := by
    intro n
    induction n with
    | zero => intro v1 v2 S1 H locs ls hl hP hS hs; cases hs
    | succ n ih =>
      intro v1 v2 S1 H locs ls hl hP hS hs
      have hs : fX3_weighted_b1  (fX3_weighted_l1  n) v1 v2 S1 = some (ro, So) := hs
      unfold fX3_weighted_b1 at hs
      refine lv_iload_n hx hb dX3_weighted_4 rfl (lv_at hl 0 rfl) ?_
      refine lv_sipush (v := 4096) hx hb dX3_weighted_5 (by decide) ?_
      refine lv_icmp_ge (tgt := 34) hx hb dX3_weighted_8 (by decide) (fun c1 => ?_) (fun c1 => ?_)
      · have hs := if_t c1 hs
        refine lv_iload_n hx hb dX3_weighted_34 rfl (lv_at hl 1 rfl) ?_
        exact u_iret hx hb hr hlocks hP hS hs dX3_weighted_35
      · have hs := if_f c1 hs
        refine lv_iload_n hx hb dX3_weighted_11 rfl (lv_at hl 1 rfl) ?_
        refine lv_aload_n hx hb dX3_weighted_12 rfl (lv_at hl 2 rfl) ?_
        refine gB_X3_cells hx hb hT hown hK hP (hT _ tF_X3_9) dX3_weighted_13 ?_
        refine lv_iload_n hx hb dX3_weighted_16 rfl (lv_at hl 0 rfl) ?_
        obtain ⟨h1, hs⟩ := gd_e hs
        refine lB_cells hx hb hK hP (ixo_in h1) dX3_weighted_17 ?_
        refine lv_sipush (v := 255) hx hb dX3_weighted_18 (by decide) ?_
        refine lv_iand hx hb dX3_weighted_21 ?_
        refine lv_iload_n hx hb dX3_weighted_22 rfl (lv_at hl 0 rfl) ?_
        refine lv_iconst (v := 1) hx hb dX3_weighted_23 (by decide) ?_
        refine lv_iadd hx hb dX3_weighted_24 ?_
        refine lv_imul hx hb dX3_weighted_25 ?_
        refine lv_iadd hx hb dX3_weighted_26 ?_
        obtain ⟨v3, h2, hs⟩ := lt_e hs
        refine u_top h2 ?_
        refine lv_istore_n (lv' := [(1, .int v3), (2, .int v1), (0, .ref (ad 1))]) hx hb dX3_weighted_27 rfl hl (by decide) rfl (fun ls hl => ?_)
        obtain ⟨v4, h3, hs⟩ := lt_e hs
        refine lv_iinc (v := v4) (lv' := [(2, .int v4), (1, .int v3), (0, .ref (ad 1))]) hx hb dX3_weighted_28 hl (k := 1) rfl (by rw [h3]; rfl) (by decide) rfl (fun ls hl => ?_)
        refine lv_goto (tgt := 4) hx hb dX3_weighted_31 (by decide) ?_
        exact ih v4 v3 S1 _ _ _ (lv_sub hl [0, 1, 2] rfl) hP hS hs
  exact L1 4097 0 0 S _ _ _ (lv_sub hl [0, 1, 2] rfl) hP hS hs
theorem kX3_weighted {p : Program} {l : Launch} {e : Env} {R : Room} {s : State} {m : MethodId} {args : Array Value} {below : List Frame} {meth : Method} {c : Code} {H : Heap} {locs : List Loc} {cells slots : Nat} {Q : State → Prop} {cc : ByteArray} {pc nL : Nat} {ls : Array Slot} {rest : List Value} {D : va_G} {ad : Nat → Nat} {cI cB : ClassId} {en : Nat → Nat} {S : St} {own : String} {index : Nat}  {ro : Int32} {So : St} (C : CallFix p m c cc nL s args wG own) (hlk : Cond.methodLink own index yX3_weighted ∈ wG) (hR : rmX3_weighted.frames + 1 ≤ R.frames ∧ 8 + (3 + 11) + rmX3_weighted.locals ≤ R.locals) (hc : cells ≤ R.cells ∧ slots ≤ R.slots) (hK : KB D ad cI cB en s) (hP : va_P D vwCl (wB ad cI cB S) H) (hS : va_S (AX 10 ad s.heap.size) s.heap H locs) (hls : ls.size = nL) (hrest : (rest.map fun v => v.category).sum ≤ 8) (hd : decode cc pc = .ok (.invokevirtual index, 3)) (hs : fX3_weighted  S = some (ro, So)) (k : ∀ (H : Heap) (locs : List Loc), va_P D vwCl (wB ad cI cB So) H → va_S (AX 10 ad s.heap.size) s.heap H locs → W p l e R s m args below meth c H locs cells slots Q (F0 m (pc + 3) ls (.int ro :: rest))) : W p l e R s m args below meth c H locs cells slots Q (F0 m pc ls (.ref (ad 1) :: rest)) :=
  u_callV (n := 0) (mX3_weighted l D ad cI cB en S  ro So hs) C uK_B (wg_V hlk tI_X3_weighted tS_X3_weighted tN_X3 tK_X3_weighted) rfl rfl rfl (by decide +kernel) hR rfl (va_recv hK.1 hP (ci := 3) (q0 := 1) rfl rfl) hK hP hS hls hrest hd hc rfl k
