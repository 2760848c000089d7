def fX2_storeDownward_b1 (t1 : Nat) (x2 : Int32) (x3 : Int32) (k1 : Int32 → Int32 → St → Option St) (v1 : Int32) (v2 : Int32) (S2 : St) : Option St :=
    (if 16 ≤ v1 then (bv (fX4_set x3 v2 S2) fun S3 => (some S3))
    else (jn (fun (v3 : Int32) (S4 : St) => (lt (v1 + 1) fun v4 => (k1 v4 v3 S4))) fun K1 =>
    (if ((ush x2 v1) &&& 1) = 0 then (K1 v2 S2)
    else (lt ((v2 - (szB t1)) : Int32) fun v5 => (bd (fX4_get (15 - v1) S2) fun r2 S5 => (bv (fX0_storeAt t1 v5 r2 S5) fun S6 => (K1 v5 S6)))))))
def fX2_storeDownward_l1 (t1 : Nat) (x2 : Int32) (x3 : Int32) : Nat → Int32 → Int32 → St → Option St
  | 0 => fun _ _ _ => none
  | n + 1 => fX2_storeDownward_b1 t1 x2 x3 (fX2_storeDownward_l1 t1 x2 x3 n)
def fX2_storeDownward (t1 : Nat) (x2 : Int32) (x3 : Int32) (S : St) : Option St :=
    (gd (t1 < 3) (bd (fX4_get x3 S) fun r1 S1 => (fX2_storeDownward_l1 t1 x2 x3 17 0 r1 S1)))
abbrev rmX2_storeDownward : Room := { frames := 2, cells := 0, slots := 0, locals := 48 }
set_option maxRecDepth 100000 in
set_option maxHeartbeats 4000000 in
theorem mX2_storeDownward (l : Launch) (D : va_G) (ad : Nat → Nat) (cI cB : ClassId) (en : Nat → Nat) (S : St) (t1 : Nat) (x2 : Int32) (x3 : Int32) (So : St) (hs : fX2_storeDownward t1 x2 x3 S = some So) : uM l yX2_storeDownward (wg yX2_storeDownward cX2_storeDownward 6 none) rmX2_storeDownward (KB D ad cI cB en) D (wB ad cI cB) (AX 10 ad) [.ref (ad 4), .ref (en t1), .int x2, .int x3] S (none, So) := by
  refine uM_start (by decide) rfl ?_
  intro p e s m below meth c hx hb hr hlocks hml hown hts hK hP
  have hT : ∀ w ∈ wG, w.before _ s = true := fun w h => hts w (List.mem_cons_of_mem _ h)
  have hS : va_S (AX 10 ad s.heap.size) s.heap s.heap [] := va_S.rf
  have hown : s.vm.findClass RX2 = some m.cls := hown
  have C : CallFix p m c cX2_storeDownward 6 s _ wG RX2 := ⟨hx, hb, hml, hown, hT⟩
  have hl := lv_entry ([.ref (ad 4), .ref (en t1), .int x2, .int x3]) (n := 6) (Nat.le_of_ble_eq_true rfl)
  rw [lg_entry_eq]
  generalize (lg_sl ([.ref (ad 4), .ref (en t1), .int x2, .int x3]) ++ List.replicate (6 - (lg_sl ([.ref (ad 4), .ref (en t1), .int x2, .int x3])).length) Slot.unset).toArray = ls at hl ⊢
  have hl : lv_has ls 6 [(0, .ref (ad 4)), (1, .ref (en t1)), (2, .int x2), (3, .int x3)] := hl
  unfold fX2_storeDownward at hs
  obtain ⟨ht1, hs⟩ := gd_e hs
  refine lv_aload_n hx hb dX2_storeDownward_0 rfl (lv_at hl 0 rfl) ?_
  refine gB_X2_registers hx hb hT hown hK hP (hT _ tF_X2_9) dX2_storeDownward_1 ?_
  refine lv_iload_n hx hb dX2_storeDownward_4 rfl (lv_at hl 3 rfl) ?_
  obtain ⟨r1, S1, h1, hs⟩ := bd_e hs
  refine kX4_get C tM_X2_124 ⟨Nat.le_of_ble_eq_true rfl, Nat.le_of_ble_eq_true rfl⟩ ⟨Nat.le_of_ble_eq_true rfl, Nat.le_of_ble_eq_true rfl⟩ hK hP hS hl.1 (rest := []) (Nat.le_of_ble_eq_true rfl) dX2_storeDownward_5 h1 (fun H locs hP hS => ?_)
  refine lv_istore (lv' := [(4, .int r1), (0, .ref (ad 4)), (1, .ref (en t1)), (2, .int x2), (3, .int x3)]) hx hb dX2_storeDownward_8 hl (by decide) rfl (fun ls hl => ?_)
  refine lv_iconst (v := 0) hx hb dX2_storeDownward_10 (by decide) ?_
  refine lv_istore (lv' := [(5, .int 0), (4, .int r1), (0, .ref (ad 4)), (1, .ref (en t1)), (2, .int x2), (3, .int x3)]) hx hb dX2_storeDownward_11 hl (by decide) rfl (fun ls hl => ?_)
  have L1 : ∀ (n : Nat) (v1 : Int32) (v2 : Int32) (S2 : St) (H : Heap) (locs : List Loc) (ls : Array Slot), lv_has ls 6 [(5, .int v1), (4, .int v2), (0, .ref (ad 4)), (1, .ref (en t1)), (2, .int x2), (3, .int x3)] → va_P D vwCl (wB ad cI cB S2) H → va_S (AX 10 ad s.heap.size) s.heap H locs → fX2_storeDownward_l1 t1 x2 x3 n v1 v2 S2 = some So → W p l e rmX2_storeDownward s m ([.ref (ad 4), .ref (en t1), .int x2, .int x3] : List Value).toArray below meth c H locs 0 0 (MQ below (uQ D (wB ad cI cB) (none, So) (AX 10 ad s.heap.size)) ([.ref (ad 4), .ref (en t1), .int x2, .int x3] : List Value).toArray s 0 0 (AX 10 ad s.heap.size)) (F0 m 13 ls []) := by
    intro n
    induction n with
    | zero => intro v1 v2 S2 H locs ls hl hP hS hs; cases hs
    | succ n ih =>
      intro v1 v2 S2 H locs ls hl hP hS hs
      have hs : fX2_storeDownward_b1 t1 x2 x3 (fX2_storeDownward_l1 t1 x2 x3 n) v1 v2 S2 = some So := hs
      unfold fX2_storeDownward_b1 at hs
      refine lv_iload hx hb dX2_storeDownward_13 (lv_at hl 0 rfl) ?_
      refine lv_bipush (v := 16) hx hb dX2_storeDownward_15 (by decide) ?_
      refine lv_icmp_ge (tgt := 66) hx hb dX2_storeDownward_17 (by decide) (fun c1 => ?_) (fun c1 => ?_)
      · have hs := if_t c1 hs
        refine lv_aload_n hx hb dX2_storeDownward_66 rfl (lv_at hl 2 rfl) ?_
        refine gB_X2_registers hx hb hT hown hK hP (hT _ tF_X2_9) dX2_storeDownward_67 ?_
        refine lv_iload_n hx hb dX2_storeDownward_70 rfl (lv_at hl 5 rfl) ?_
        refine lv_iload hx hb dX2_storeDownward_71 (lv_at hl 1 rfl) ?_
        obtain ⟨S3, h2, hs⟩ := bv_e hs
        refine kX4_set C tM_X2_143 ⟨Nat.le_of_ble_eq_true rfl, Nat.le_of_ble_eq_true rfl⟩ ⟨Nat.le_of_ble_eq_true rfl, Nat.le_of_ble_eq_true rfl⟩ hK hP hS hl.1 (rest := []) (Nat.le_of_ble_eq_true rfl) dX2_storeDownward_73 h2 (fun H locs hP hS => ?_)
        exact u_vret hx hb hr hlocks hP hS hs dX2_storeDownward_76
      · have hs := if_f c1 hs
        refine lv_iload_n hx hb dX2_storeDownward_20 rfl (lv_at hl 4 rfl) ?_
        refine lv_iload hx hb dX2_storeDownward_21 (lv_at hl 0 rfl) ?_
        refine lv_iushr (v := (ush x2 v1)) hx hb dX2_storeDownward_23 rfl ?_
        refine lv_iconst (v := 1) hx hb dX2_storeDownward_24 (by decide) ?_
        refine lv_iand hx hb dX2_storeDownward_25 ?_
        refine jn_e hs (fun K1 => ∀ (v3 : Int32) (S4 : St) (H : Heap) (locs : List Loc) (ls : Array Slot), lv_has ls 6 [(5, .int v1), (4, .int v3), (0, .ref (ad 4)), (1, .ref (en t1)), (2, .int x2), (3, .int x3)] → va_P D vwCl (wB ad cI cB S4) H → va_S (AX 10 ad s.heap.size) s.heap H locs → K1 v3 S4 = some So → W p l e rmX2_storeDownward s m ([.ref (ad 4), .ref (en t1), .int x2, .int x3] : List Value).toArray below meth c H locs 0 0 (MQ below (uQ D (wB ad cI cB) (none, So) (AX 10 ad s.heap.size)) ([.ref (ad 4), .ref (en t1), .int x2, .int x3] : List Value).toArray s 0 0 (AX 10 ad s.heap.size)) (F0 m 60 ls [])) ?_ (fun K1 J1 hs => ?_)
        · intro v3 S4 H locs ls hl hP hS hs
          obtain ⟨v4, h3, hs⟩ := lt_e hs
          refine lv_iinc (v := v4) (lv' := [(5, .int v4), (4, .int v3), (0, .ref (ad 4)), (1, .ref (en t1)), (2, .int x2), (3, .int x3)]) hx hb dX2_storeDownward_60 hl (k := 0) rfl (by rw [h3]; rfl) (by decide) rfl (fun ls hl => ?_)
          refine lv_goto (tgt := 13) hx hb dX2_storeDownward_63 (by decide) ?_
          exact ih v4 v3 S4 _ _ _ (lv_sub hl [0, 1, 2, 3, 4, 5] rfl) hP hS hs
        ·
          refine lv_if_eq (tgt := 60) hx hb dX2_storeDownward_26 (by decide) (fun c2 => ?_) (fun c2 => ?_)
          · have hs := if_t c2 hs
            exact J1 v2 S2 _ _ _ (lv_sub hl [0, 1, 2, 3, 4, 5] rfl) hP hS hs
          · have hs := if_f c2 hs
            refine lv_iload hx hb dX2_storeDownward_29 (lv_at hl 1 rfl) ?_
            refine lv_aload_n hx hb dX2_storeDownward_31 rfl (lv_at hl 3 rfl) ?_
            refine gE_bytes hx hb hown hK hS ht1 (hT _ tF_X2_131) dX2_storeDownward_32 ?_
            refine lv_isub hx hb dX2_storeDownward_35 ?_
            obtain ⟨v5, h4, hs⟩ := lt_e hs
            refine u_top h4 ?_
            refine lv_istore (lv' := [(4, .int v5), (5, .int v1), (0, .ref (ad 4)), (1, .ref (en t1)), (2, .int x2), (3, .int x3)]) hx hb dX2_storeDownward_36 hl (by decide) rfl (fun ls hl => ?_)
            refine lv_aload_n hx hb dX2_storeDownward_38 rfl (lv_at hl 2 rfl) ?_
            refine gB_X2_access hx hb hT hown hK hP (hT _ tF_X2_15) dX2_storeDownward_39 ?_
            refine lv_aload_n hx hb dX2_storeDownward_42 rfl (lv_at hl 3 rfl) ?_
            refine lv_iload hx hb dX2_storeDownward_43 (lv_at hl 0 rfl) ?_
            refine lv_aload_n hx hb dX2_storeDownward_45 rfl (lv_at hl 2 rfl) ?_
            refine gB_X2_registers hx hb hT hown hK hP (hT _ tF_X2_9) dX2_storeDownward_46 ?_
            refine lv_bipush (v := 15) hx hb dX2_storeDownward_49 (by decide) ?_
            refine lv_iload hx hb dX2_storeDownward_51 (lv_at hl 1 rfl) ?_
            refine lv_isub hx hb dX2_storeDownward_53 ?_
            obtain ⟨r2, S5, h5, hs⟩ := bd_e hs
            refine kX4_get C tM_X2_124 ⟨Nat.le_of_ble_eq_true rfl, Nat.le_of_ble_eq_true rfl⟩ ⟨Nat.le_of_ble_eq_true rfl, Nat.le_of_ble_eq_true rfl⟩ hK hP hS hl.1 (rest := [.int v5, .ref (en t1), .ref (ad 3)]) (Nat.le_of_ble_eq_true rfl) dX2_storeDownward_54 h5 (fun H locs hP hS => ?_)
            obtain ⟨S6, h6, hs⟩ := bv_e hs
            refine kX0_storeAt C tM_X2_135 ⟨Nat.le_of_ble_eq_true rfl, Nat.le_of_ble_eq_true rfl⟩ ⟨Nat.le_of_ble_eq_true rfl, Nat.le_of_ble_eq_true rfl⟩ hK hP hS hl.1 (rest := []) (Nat.le_of_ble_eq_true rfl) dX2_storeDownward_57 h6 (fun H locs hP hS => ?_)
            exact J1 v5 S6 _ _ _ (lv_sub hl [1, 0, 2, 3, 4, 5] rfl) hP hS hs
  exact L1 17 0 r1 S1 _ _ _ (lv_sub hl [0, 1, 2, 3, 4, 5] rfl) hP hS hs
theorem kX2_storeDownward {p : Program} {l : Launch} {e : Env} {R : Room} {s : State} {m : MethodId} {args : Array Value} {below : List Frame} {meth : Method} {c : Code} {H : Heap} {locs : List Loc} {cells slots : Nat} {Q : State → Prop} {cc : ByteArray} {pc nL : Nat} {ls : Array Slot} {rest : List Value} {D : va_G} {ad : Nat → Nat} {cI cB : ClassId} {en : Nat → Nat} {S : St} {own : String} {index : Nat} {t1 : Nat} {x2 : Int32} {x3 : Int32} {So : St} (C : CallFix p m c cc nL s args wG own) (hlk : Cond.methodLink own index yX2_storeDownward ∈ wG) (hR : rmX2_storeDownward.frames + 1 ≤ R.frames ∧ 8 + (6 + 11) + rmX2_storeDownward.locals ≤ R.locals) (hc : cells ≤ R.cells ∧ slots ≤ R.slots) (hK : KB D ad cI cB en s) (hP : va_P D vwCl (wB ad cI cB S) H) (hS : va_S (AX 10 ad s.heap.size) s.heap H locs) (hls : ls.size = nL) (hrest : (rest.map fun v => v.category).sum ≤ 8) (hd : decode cc pc = .ok (.invokevirtual index, 3)) (hs : fX2_storeDownward t1 x2 x3 S = some So) (k : ∀ (H : Heap) (locs : List Loc), va_P D vwCl (wB ad cI cB So) H → va_S (AX 10 ad s.heap.size) s.heap H locs → W p l e R s m args below meth c H locs cells slots Q (F0 m (pc + 3) ls (rest))) : W p l e R s m args below meth c H locs cells slots Q (F0 m pc ls (.int x3 :: .int x2 :: .ref (en t1) :: .ref (ad 4) :: rest)) :=
  u_callV (n := 3) (mX2_storeDownward l D ad cI cB en S t1 x2 x3 So hs) C uK_B (wg_V hlk tI_X2_storeDownward tS_X2_storeDownward tN_X2 tK_X2_storeDownward) rfl rfl rfl (by decide +kernel) hR rfl (va_recv hK.1 hP (ci := 2) (q0 := 4) rfl rfl) hK hP hS hls hrest hd hc rfl k
def fX2_storeUpward_b1 (t1 : Nat) (x2 : Int32) (k1 : Int32 → Int32 → St → Option St) (v1 : Int32) (v2 : Int32) (S1 : St) : Option St :=
    (if 16 ≤ v1 then (some S1)
    else (jn (fun (v3 : Int32) (S2 : St) => (lt (v1 + 1) fun v4 => (k1 v4 v3 S2))) fun K1 =>
    (if ((ush x2 v1) &&& 1) = 0 then (K1 v2 S1)
    else (bd (fX4_get v1 S1) fun r1 S3 => (bv (fX0_storeAt t1 v2 r1 S3) fun S4 => (lt ((v2 + (szB t1)) : Int32) fun v5 => (K1 v5 S4)))))))
def fX2_storeUpward_l1 (t1 : Nat) (x2 : Int32) : Nat → Int32 → Int32 → St → Option St
  | 0 => fun _ _ _ => none
  | n + 1 => fX2_storeUpward_b1 t1 x2 (fX2_storeUpward_l1 t1 x2 n)
def fX2_storeUpward (t1 : Nat) (x2 : Int32) (x3 : Int32) (S : St) : Option St :=
    (gd (t1 < 3) (fX2_storeUpward_l1 t1 x2 17 0 x3 S))
abbrev rmX2_storeUpward : Room := { frames := 2, cells := 0, slots := 0, locals := 48 }
set_option maxRecDepth 100000 in
set_option maxHeartbeats 4000000 in
theorem mX2_storeUpward (l : Launch) (D : va_G) (ad : Nat → Nat) (cI cB : ClassId) (en : Nat → Nat) (S : St) (t1 : Nat) (x2 : Int32) (x3 : Int32) (So : St) (hs : fX2_storeUpward t1 x2 x3 S = some So) : uM l yX2_storeUpward (wg yX2_storeUpward cX2_storeUpward 6 none) rmX2_storeUpward (KB D ad cI cB en) D (wB ad cI cB) (AX 10 ad) [.ref (ad 4), .ref (en t1), .int x2, .int x3] S (none, So) := by
  refine uM_start (by decide) rfl ?_
  intro p e s m below meth c hx hb hr hlocks hml hown hts hK hP
  have hT : ∀ w ∈ wG, w.before _ s = true := fun w h => hts w (List.mem_cons_of_mem _ h)
  have hS : va_S (AX 10 ad s.heap.size) s.heap s.heap [] := va_S.rf
  have hown : s.vm.findClass RX2 = some m.cls := hown
  have C : CallFix p m c cX2_storeUpward 6 s _ wG RX2 := ⟨hx, hb, hml, hown, hT⟩
  have hl := lv_entry ([.ref (ad 4), .ref (en t1), .int x2, .int x3]) (n := 6) (Nat.le_of_ble_eq_true rfl)
  rw [lg_entry_eq]
  generalize (lg_sl ([.ref (ad 4), .ref (en t1), .int x2, .int x3]) ++ List.replicate (6 - (lg_sl ([.ref (ad 4), .ref (en t1), .int x2, .int x3])).length) Slot.unset).toArray = ls at hl ⊢
  have hl : lv_has ls 6 [(0, .ref (ad 4)), (1, .ref (en t1)), (2, .int x2), (3, .int x3)] := hl
  unfold fX2_storeUpward at hs
  obtain ⟨ht1, hs⟩ := gd_e hs
  refine lv_iload_n hx hb dX2_storeUpward_0 rfl (lv_at hl 3 rfl) ?_
  refine lv_istore (lv' := [(4, .int x3), (0, .ref (ad 4)), (1, .ref (en t1)), (2, .int x2), (3, .int x3)]) hx hb dX2_storeUpward_1 hl (by decide) rfl (fun ls hl => ?_)
  refine lv_iconst (v := 0) hx hb dX2_storeUpward_3 (by decide) ?_
  refine lv_istore (lv' := [(5, .int 0), (4, .int x3), (0, .ref (ad 4)), (1, .ref (en t1)), (2, .int x2), (3, .int x3)]) hx hb dX2_storeUpward_4 hl (by decide) rfl (fun ls hl => ?_)
  have L1 : ∀ (n : Nat) (v1 : Int32) (v2 : Int32) (S1 : St) (H : Heap) (locs : List Loc) (ls : Array Slot), lv_has ls 6 [(5, .int v1), (4, .int v2), (0, .ref (ad 4)), (1, .ref (en t1)), (2, .int x2)] → va_P D vwCl (wB ad cI cB S1) H → va_S (AX 10 ad s.heap.size) s.heap H locs → fX2_storeUpward_l1 t1 x2 n v1 v2 S1 = some So → W p l e rmX2_storeUpward s m ([.ref (ad 4), .ref (en t1), .int x2, .int x3] : List Value).toArray below meth c H locs 0 0 (MQ below (uQ D (wB ad cI cB) (none, So) (AX 10 ad s.heap.size)) ([.ref (ad 4), .ref (en t1), .int x2, .int x3] : List Value).toArray s 0 0 (AX 10 ad s.heap.size)) (F0 m 6 ls []) := by
    intro n
    induction n with
    | zero => intro v1 v2 S1 H locs ls hl hP hS hs; cases hs
    | succ n ih =>
      intro v1 v2 S1 H locs ls hl hP hS hs
      have hs : fX2_storeUpward_b1 t1 x2 (fX2_storeUpward_l1 t1 x2 n) v1 v2 S1 = some So := hs
      unfold fX2_storeUpward_b1 at hs
      refine lv_iload hx hb dX2_storeUpward_6 (lv_at hl 0 rfl) ?_
      refine lv_bipush (v := 16) hx hb dX2_storeUpward_8 (by decide) ?_
      refine lv_icmp_ge (tgt := 56) hx hb dX2_storeUpward_10 (by decide) (fun c1 => ?_) (fun c1 => ?_)
      · have hs := if_t c1 hs
        exact u_vret hx hb hr hlocks hP hS hs dX2_storeUpward_56
      · have hs := if_f c1 hs
        refine lv_iload_n hx hb dX2_storeUpward_13 rfl (lv_at hl 4 rfl) ?_
        refine lv_iload hx hb dX2_storeUpward_14 (lv_at hl 0 rfl) ?_
        refine lv_iushr (v := (ush x2 v1)) hx hb dX2_storeUpward_16 rfl ?_
        refine lv_iconst (v := 1) hx hb dX2_storeUpward_17 (by decide) ?_
        refine lv_iand hx hb dX2_storeUpward_18 ?_
        refine jn_e hs (fun K1 => ∀ (v3 : Int32) (S2 : St) (H : Heap) (locs : List Loc) (ls : Array Slot), lv_has ls 6 [(5, .int v1), (4, .int v3), (0, .ref (ad 4)), (1, .ref (en t1)), (2, .int x2)] → va_P D vwCl (wB ad cI cB S2) H → va_S (AX 10 ad s.heap.size) s.heap H locs → K1 v3 S2 = some So → W p l e rmX2_storeUpward s m ([.ref (ad 4), .ref (en t1), .int x2, .int x3] : List Value).toArray below meth c H locs 0 0 (MQ below (uQ D (wB ad cI cB) (none, So) (AX 10 ad s.heap.size)) ([.ref (ad 4), .ref (en t1), .int x2, .int x3] : List Value).toArray s 0 0 (AX 10 ad s.heap.size)) (F0 m 50 ls [])) ?_ (fun K1 J1 hs => ?_)
        · intro v3 S2 H locs ls hl hP hS hs
          obtain ⟨v4, h1, hs⟩ := lt_e hs
          refine lv_iinc (v := v4) (lv' := [(5, .int v4), (4, .int v3), (0, .ref (ad 4)), (1, .ref (en t1)), (2, .int x2)]) hx hb dX2_storeUpward_50 hl (k := 0) rfl (by rw [h1]; rfl) (by decide) rfl (fun ls hl => ?_)
          refine lv_goto (tgt := 6) hx hb dX2_storeUpward_53 (by decide) ?_
          exact ih v4 v3 S2 _ _ _ (lv_sub hl [0, 1, 2, 3, 4] rfl) hP hS hs
        ·
          refine lv_if_eq (tgt := 50) hx hb dX2_storeUpward_19 (by decide) (fun c2 => ?_) (fun c2 => ?_)
          · have hs := if_t c2 hs
            exact J1 v2 S1 _ _ _ (lv_sub hl [0, 1, 2, 3, 4] rfl) hP hS hs
          · have hs := if_f c2 hs
            refine lv_aload_n hx hb dX2_storeUpward_22 rfl (lv_at hl 2 rfl) ?_
            refine gB_X2_access hx hb hT hown hK hP (hT _ tF_X2_15) dX2_storeUpward_23 ?_
            refine lv_aload_n hx hb dX2_storeUpward_26 rfl (lv_at hl 3 rfl) ?_
            refine lv_iload hx hb dX2_storeUpward_27 (lv_at hl 1 rfl) ?_
            refine lv_aload_n hx hb dX2_storeUpward_29 rfl (lv_at hl 2 rfl) ?_
            refine gB_X2_registers hx hb hT hown hK hP (hT _ tF_X2_9) dX2_storeUpward_30 ?_
            refine lv_iload hx hb dX2_storeUpward_33 (lv_at hl 0 rfl) ?_
            obtain ⟨r1, S3, h2, hs⟩ := bd_e hs
            refine kX4_get C tM_X2_124 ⟨Nat.le_of_ble_eq_true rfl, Nat.le_of_ble_eq_true rfl⟩ ⟨Nat.le_of_ble_eq_true rfl, Nat.le_of_ble_eq_true rfl⟩ hK hP hS hl.1 (rest := [.int v2, .ref (en t1), .ref (ad 3)]) (Nat.le_of_ble_eq_true rfl) dX2_storeUpward_35 h2 (fun H locs hP hS => ?_)
            obtain ⟨S4, h3, hs⟩ := bv_e hs
            refine kX0_storeAt C tM_X2_135 ⟨Nat.le_of_ble_eq_true rfl, Nat.le_of_ble_eq_true rfl⟩ ⟨Nat.le_of_ble_eq_true rfl, Nat.le_of_ble_eq_true rfl⟩ hK hP hS hl.1 (rest := []) (Nat.le_of_ble_eq_true rfl) dX2_storeUpward_38 h3 (fun H locs hP hS => ?_)
            refine lv_iload hx hb dX2_storeUpward_41 (lv_at hl 1 rfl) ?_
            refine lv_aload_n hx hb dX2_storeUpward_43 rfl (lv_at hl 3 rfl) ?_
            refine gE_bytes hx hb hown hK hS ht1 (hT _ tF_X2_131) dX2_storeUpward_44 ?_
            refine lv_iadd hx hb dX2_storeUpward_47 ?_
            obtain ⟨v5, h4, hs⟩ := lt_e hs
            refine u_top h4 ?_
            refine lv_istore (lv' := [(4, .int v5), (5, .int v1), (0, .ref (ad 4)), (1, .ref (en t1)), (2, .int x2)]) hx hb dX2_storeUpward_48 hl (by decide) rfl (fun ls hl => ?_)
            exact J1 v5 S4 _ _ _ (lv_sub hl [1, 0, 2, 3, 4] rfl) hP hS hs
  exact L1 17 0 x3 S _ _ _ (lv_sub hl [0, 1, 2, 3, 4] rfl) hP hS hs
theorem kX2_storeUpward {p : Program} {l : Launch} {e : Env} {R : Room} {s : State} {m : MethodId} {args : Array Value} {below : List Frame} {meth : Method} {c : Code} {H : Heap} {locs : List Loc} {cells slots : Nat} {Q : State → Prop} {cc : ByteArray} {pc nL : Nat} {ls : Array Slot} {rest : List Value} {D : va_G} {ad : Nat → Nat} {cI cB : ClassId} {en : Nat → Nat} {S : St} {own : String} {index : Nat} {t1 : Nat} {x2 : Int32} {x3 : Int32} {So : St} (C : CallFix p m c cc nL s args wG own) (hlk : Cond.methodLink own index yX2_storeUpward ∈ wG) (hR : rmX2_storeUpward.frames + 1 ≤ R.frames ∧ 8 + (6 + 11) + rmX2_storeUpward.locals ≤ R.locals) (hc : cells ≤ R.cells ∧ slots ≤ R.slots) (hK : KB D ad cI cB en s) (hP : va_P D vwCl (wB ad cI cB S) H) (hS : va_S (AX 10 ad s.heap.size) s.heap H locs) (hls : ls.size = nL) (hrest : (rest.map fun v => v.category).sum ≤ 8) (hd : decode cc pc = .ok (.invokevirtual index, 3)) (hs : fX2_storeUpward t1 x2 x3 S = some So) (k : ∀ (H : Heap) (locs : List Loc), va_P D vwCl (wB ad cI cB So) H → va_S (AX 10 ad s.heap.size) s.heap H locs → W p l e R s m args below meth c H locs cells slots Q (F0 m (pc + 3) ls (rest))) : W p l e R s m args below meth c H locs cells slots Q (F0 m pc ls (.int x3 :: .int x2 :: .ref (en t1) :: .ref (ad 4) :: rest)) :=
  u_callV (n := 3) (mX2_storeUpward l D ad cI cB en S t1 x2 x3 So hs) C uK_B (wg_V hlk tI_X2_storeUpward tS_X2_storeUpward tN_X2 tK_X2_storeUpward) rfl rfl rfl (by decide +kernel) hR rfl (va_recv hK.1 hP (ci := 2) (q0 := 4) rfl rfl) hK hP hS hls hrest hd hc rfl k
def fX2_extendOrStoreMany (x1 : Int32) (S : St) : Option St :=
    (bd (fX2_manySize x1 S) fun e1 S1 => (gd (e1 < 3) (bd (fX2_operand x1 S1) fun r1 S2 => (if 8 ≤ r1 then (bd (fX2_operand x1 S2) fun r2 S3 => (bd (fX2_misfits 500 r2 S3) fun b1 S4 => (if (zI b1) = 0 then (bd (fX0_nextWord S4) fun r3 S5 => (bd (fX2_operand x1 S5) fun r4 S6 => (if (ush r4 3) = 4 then (bd (fX2_lower x1 S6) fun r6 S10 => (bv (fX2_storeDownward e1 r3 (8 + r6) S10) fun S11 => (some S11)))
    else (bd (fX2_operand x1 S6) fun r5 S7 => (bd (fX0_locate e1 r5 S7) fun w1 S8 => (bv (fX2_storeUpward e1 r3 (w1.toInt32) S8) fun S9 => (some S9)))))))
    else (some S4))))
    else (bd (fX2_lower x1 S2) fun r7 S12 => (jn (fun (e2 : Nat) => (gd (e2 < 3) (bd (fX0_inRegister r7 S12) fun w2 S13 => (bd (fX4_get r7 S13) fun r8 S14 => (bd (fX5_extend e2 r8 S14) fun r9 S15 => (bd (fX1_logic e1 r9 S15) fun r10 S16 => (bv (fX0_store e1 w2 r10 S16) fun S17 => (some S17)))))))) fun K1 =>
    (if e1 = 1 then (K1 0)
    else (K1 1))))))))
abbrev rmX2_extendOrStoreMany : Room := { frames := 3, cells := 0, slots := 0, locals := 73 }
set_option maxRecDepth 100000 in
set_option maxHeartbeats 4000000 in
theorem mX2_extendOrStoreMany (l : Launch) (D : va_G) (ad : Nat → Nat) (cI cB : ClassId) (en : Nat → Nat) (S : St) (x1 : Int32) (So : St) (hs : fX2_extendOrStoreMany x1 S = some So) : uM l yX2_extendOrStoreMany (wg yX2_extendOrStoreMany cX2_extendOrStoreMany 5 none) rmX2_extendOrStoreMany (KB D ad cI cB en) D (wB ad cI cB) (AX 10 ad) [.ref (ad 4), .int x1] S (none, So) := by
  refine uM_start (by decide) rfl ?_
  intro p e s m below meth c hx hb hr hlocks hml hown hts hK hP
  have hT : ∀ w ∈ wG, w.before _ s = true := fun w h => hts w (List.mem_cons_of_mem _ h)
  have hS : va_S (AX 10 ad s.heap.size) s.heap s.heap [] := va_S.rf
  have hown : s.vm.findClass RX2 = some m.cls := hown
  have C : CallFix p m c cX2_extendOrStoreMany 5 s _ wG RX2 := ⟨hx, hb, hml, hown, hT⟩
  have hl := lv_entry ([.ref (ad 4), .int x1]) (n := 5) (Nat.le_of_ble_eq_true rfl)
  rw [lg_entry_eq]
  generalize (lg_sl ([.ref (ad 4), .int x1]) ++ List.replicate (5 - (lg_sl ([.ref (ad 4), .int x1])).length) Slot.unset).toArray = ls at hl ⊢
  have hl : lv_has ls 5 [(0, .ref (ad 4)), (1, .int x1)] := hl
  unfold fX2_extendOrStoreMany at hs
  refine lv_iload_n hx hb dX2_extendOrStoreMany_0 rfl (lv_at hl 1 rfl) ?_
  obtain ⟨e1, S1, h1, hs⟩ := bd_e hs
  refine kX2_manySize C tM_X2_253 ⟨Nat.le_of_ble_eq_true rfl, Nat.le_of_ble_eq_true rfl⟩ ⟨Nat.le_of_ble_eq_true rfl, Nat.le_of_ble_eq_true rfl⟩ hK hP hS hl.1 (rest := []) (Nat.le_of_ble_eq_true rfl) dX2_extendOrStoreMany_1 h1 (fun H locs hP hS => ?_)
  obtain ⟨h2, hs⟩ := gd_e hs
  refine lv_astore_n (lv' := [(2, .ref (en e1)), (0, .ref (ad 4)), (1, .int x1)]) hx hb dX2_extendOrStoreMany_4 rfl hl (by decide) rfl (fun ls hl => ?_)
  refine lv_iload_n hx hb dX2_extendOrStoreMany_5 rfl (lv_at hl 2 rfl) ?_
  obtain ⟨r1, S2, h3, hs⟩ := bd_e hs
  refine kX2_operand C tM_X2_95 ⟨Nat.le_of_ble_eq_true rfl, Nat.le_of_ble_eq_true rfl⟩ ⟨Nat.le_of_ble_eq_true rfl, Nat.le_of_ble_eq_true rfl⟩ hK hP hS hl.1 (rest := []) (Nat.le_of_ble_eq_true rfl) dX2_extendOrStoreMany_6 h3 (fun H locs hP hS => ?_)
  refine lv_bipush (v := 8) hx hb dX2_extendOrStoreMany_9 (by decide) ?_
  refine lv_icmp_ge (tgt := 73) hx hb dX2_extendOrStoreMany_11 (by decide) (fun c1 => ?_) (fun c1 => ?_)
  · have hs := if_t c1 hs
    refine lv_aload_n hx hb dX2_extendOrStoreMany_73 rfl (lv_at hl 1 rfl) ?_
    refine lv_sipush (v := 500) hx hb dX2_extendOrStoreMany_74 (by decide) ?_
    refine lv_iload_n hx hb dX2_extendOrStoreMany_77 rfl (lv_at hl 2 rfl) ?_
    obtain ⟨r2, S3, h4, hs⟩ := bd_e hs
    refine kX2_operand C tM_X2_95 ⟨Nat.le_of_ble_eq_true rfl, Nat.le_of_ble_eq_true rfl⟩ ⟨Nat.le_of_ble_eq_true rfl, Nat.le_of_ble_eq_true rfl⟩ hK hP hS hl.1 (rest := [.int 500, .ref (ad 4)]) (Nat.le_of_ble_eq_true rfl) dX2_extendOrStoreMany_78 h4 (fun H locs hP hS => ?_)
    obtain ⟨b1, S4, h5, hs⟩ := bd_e hs
    refine kX2_misfits C tM_X2_146 ⟨Nat.le_of_ble_eq_true rfl, Nat.le_of_ble_eq_true rfl⟩ ⟨Nat.le_of_ble_eq_true rfl, Nat.le_of_ble_eq_true rfl⟩ hK hP hS hl.1 (rest := []) (Nat.le_of_ble_eq_true rfl) dX2_extendOrStoreMany_81 h5 (fun H locs hP hS => ?_)
    refine lv_if_ne (tgt := 140) hx hb dX2_extendOrStoreMany_84 (by decide) (fun c2 => ?_) (fun c2 => ?_)
    · have hs := if_f c2 hs
      exact u_vret hx hb hr hlocks hP hS hs dX2_extendOrStoreMany_140
    · have hs := if_t c2 hs
      refine lv_aload_n hx hb dX2_extendOrStoreMany_87 rfl (lv_at hl 1 rfl) ?_
      refine gB_X2_access hx hb hT hown hK hP (hT _ tF_X2_15) dX2_extendOrStoreMany_88 ?_
      obtain ⟨r3, S5, h6, hs⟩ := bd_e hs
      refine kX0_nextWord C tM_X2_127 ⟨Nat.le_of_ble_eq_true rfl, Nat.le_of_ble_eq_true rfl⟩ ⟨Nat.le_of_ble_eq_true rfl, Nat.le_of_ble_eq_true rfl⟩ hK hP hS hl.1 (rest := []) (Nat.le_of_ble_eq_true rfl) dX2_extendOrStoreMany_91 h6 (fun H locs hP hS => ?_)
      refine lv_istore_n (lv' := [(3, .int r3), (2, .ref (en e1)), (0, .ref (ad 4)), (1, .int x1)]) hx hb dX2_extendOrStoreMany_94 rfl hl (by decide) rfl (fun ls hl => ?_)
      refine lv_iload_n hx hb dX2_extendOrStoreMany_95 rfl (lv_at hl 3 rfl) ?_
      obtain ⟨r4, S6, h7, hs⟩ := bd_e hs
      refine kX2_operand C tM_X2_95 ⟨Nat.le_of_ble_eq_true rfl, Nat.le_of_ble_eq_true rfl⟩ ⟨Nat.le_of_ble_eq_true rfl, Nat.le_of_ble_eq_true rfl⟩ hK hP hS hl.1 (rest := []) (Nat.le_of_ble_eq_true rfl) dX2_extendOrStoreMany_96 h7 (fun H locs hP hS => ?_)
      refine lv_iconst (v := 3) hx hb dX2_extendOrStoreMany_99 (by decide) ?_
      refine lv_iushr (v := (ush r4 3)) hx hb dX2_extendOrStoreMany_100 rfl ?_
      refine lv_iconst (v := 4) hx hb dX2_extendOrStoreMany_101 (by decide) ?_
      refine lv_icmp_ne (tgt := 121) hx hb dX2_extendOrStoreMany_102 (by decide) (fun c3 => ?_) (fun c3 => ?_)
      · have hs := if_f c3 hs
        refine lv_aload_n hx hb dX2_extendOrStoreMany_121 rfl (lv_at hl 2 rfl) ?_
        refine lv_aload_n hx hb dX2_extendOrStoreMany_122 rfl (lv_at hl 1 rfl) ?_
        refine lv_iload_n hx hb dX2_extendOrStoreMany_123 rfl (lv_at hl 0 rfl) ?_
        refine lv_aload_n hx hb dX2_extendOrStoreMany_124 rfl (lv_at hl 2 rfl) ?_
        refine gB_X2_access hx hb hT hown hK hP (hT _ tF_X2_15) dX2_extendOrStoreMany_125 ?_
        refine lv_aload_n hx hb dX2_extendOrStoreMany_128 rfl (lv_at hl 1 rfl) ?_
        refine lv_iload_n hx hb dX2_extendOrStoreMany_129 rfl (lv_at hl 3 rfl) ?_
        obtain ⟨r5, S7, h8, hs⟩ := bd_e hs
        refine kX2_operand C tM_X2_95 ⟨Nat.le_of_ble_eq_true rfl, Nat.le_of_ble_eq_true rfl⟩ ⟨Nat.le_of_ble_eq_true rfl, Nat.le_of_ble_eq_true rfl⟩ hK hP hS hl.1 (rest := [.ref (en e1), .ref (ad 3), .int r3, .ref (en e1), .ref (ad 4)]) (Nat.le_of_ble_eq_true rfl) dX2_extendOrStoreMany_130 h8 (fun H locs hP hS => ?_)
        obtain ⟨w1, S8, h9, hs⟩ := bd_e hs
        refine kX0_locate C tM_X2_150 ⟨Nat.le_of_ble_eq_true rfl, Nat.le_of_ble_eq_true rfl⟩ ⟨Nat.le_of_ble_eq_true rfl, Nat.le_of_ble_eq_true rfl⟩ hK hP hS hl.1 (rest := [.int r3, .ref (en e1), .ref (ad 4)]) (Nat.le_of_ble_eq_true rfl) dX2_extendOrStoreMany_133 h9 (fun H locs hP hS => ?_)
        refine lv_l2i (v := (w1.toInt32)) hx hb dX2_extendOrStoreMany_136 rfl ?_
        obtain ⟨S9, h10, hs⟩ := bv_e hs
        refine kX2_storeUpward C tM_X2_263 ⟨Nat.le_of_ble_eq_true rfl, Nat.le_of_ble_eq_true rfl⟩ ⟨Nat.le_of_ble_eq_true rfl, Nat.le_of_ble_eq_true rfl⟩ hK hP hS hl.1 (rest := []) (Nat.le_of_ble_eq_true rfl) dX2_extendOrStoreMany_137 h10 (fun H locs hP hS => ?_)
        exact u_vret hx hb hr hlocks hP hS hs dX2_extendOrStoreMany_140
      · have hs := if_t c3 hs
        refine lv_aload_n hx hb dX2_extendOrStoreMany_105 rfl (lv_at hl 2 rfl) ?_
        refine lv_aload_n hx hb dX2_extendOrStoreMany_106 rfl (lv_at hl 1 rfl) ?_
        refine lv_iload_n hx hb dX2_extendOrStoreMany_107 rfl (lv_at hl 0 rfl) ?_
        refine lv_bipush (v := 8) hx hb dX2_extendOrStoreMany_108 (by decide) ?_
        refine lv_iload_n hx hb dX2_extendOrStoreMany_110 rfl (lv_at hl 3 rfl) ?_
        obtain ⟨r6, S10, h11, hs⟩ := bd_e hs
        refine kX2_lower C tM_X2_121 ⟨Nat.le_of_ble_eq_true rfl, Nat.le_of_ble_eq_true rfl⟩ ⟨Nat.le_of_ble_eq_true rfl, Nat.le_of_ble_eq_true rfl⟩ hK hP hS hl.1 (rest := [.int 8, .int r3, .ref (en e1), .ref (ad 4)]) (Nat.le_of_ble_eq_true rfl) dX2_extendOrStoreMany_111 h11 (fun H locs hP hS => ?_)
        refine lv_iadd hx hb dX2_extendOrStoreMany_114 ?_
        obtain ⟨S11, h12, hs⟩ := bv_e hs
        refine kX2_storeDownward C tM_X2_260 ⟨Nat.le_of_ble_eq_true rfl, Nat.le_of_ble_eq_true rfl⟩ ⟨Nat.le_of_ble_eq_true rfl, Nat.le_of_ble_eq_true rfl⟩ hK hP hS hl.1 (rest := []) (Nat.le_of_ble_eq_true rfl) dX2_extendOrStoreMany_115 h12 (fun H locs hP hS => ?_)
        refine lv_goto (tgt := 140) hx hb dX2_extendOrStoreMany_118 (by decide) ?_
        exact u_vret hx hb hr hlocks hP hS hs dX2_extendOrStoreMany_140
  · have hs := if_f c1 hs
    refine lv_iload_n hx hb dX2_extendOrStoreMany_14 rfl (lv_at hl 2 rfl) ?_
    obtain ⟨r7, S12, h13, hs⟩ := bd_e hs
    refine kX2_lower C tM_X2_121 ⟨Nat.le_of_ble_eq_true rfl, Nat.le_of_ble_eq_true rfl⟩ ⟨Nat.le_of_ble_eq_true rfl, Nat.le_of_ble_eq_true rfl⟩ hK hP hS hl.1 (rest := []) (Nat.le_of_ble_eq_true rfl) dX2_extendOrStoreMany_15 h13 (fun H locs hP hS => ?_)
    refine lv_istore_n (lv' := [(3, .int r7), (2, .ref (en e1)), (0, .ref (ad 4)), (1, .int x1)]) hx hb dX2_extendOrStoreMany_18 rfl hl (by decide) rfl (fun ls hl => ?_)
    refine lv_aload_n hx hb dX2_extendOrStoreMany_19 rfl (lv_at hl 1 rfl) ?_
    refine gS_WORD hx hb hown hK hS (hT _ tF_X2_49) dX2_extendOrStoreMany_20 ?_
    refine jn_e hs (fun K1 => ∀ (e2 : Nat) (H : Heap) (locs : List Loc) (ls : Array Slot), lv_has ls 5 [(3, .int r7), (2, .ref (en e1)), (0, .ref (ad 4))] → va_P D vwCl (wB ad cI cB S12) H → va_S (AX 10 ad s.heap.size) s.heap H locs → K1 e2 = some So → W p l e rmX2_extendOrStoreMany s m ([.ref (ad 4), .int x1] : List Value).toArray below meth c H locs 0 0 (MQ below (uQ D (wB ad cI cB) (none, So) (AX 10 ad s.heap.size)) ([.ref (ad 4), .int x1] : List Value).toArray s 0 0 (AX 10 ad s.heap.size)) (F0 m 35 ls [.ref (en e2)])) ?_ (fun K1 J1 hs => ?_)
    · intro e2 H locs ls hl hP hS hs
      obtain ⟨h14, hs⟩ := gd_e hs
      refine lv_astore (lv' := [(4, .ref (en e2)), (3, .int r7), (2, .ref (en e1)), (0, .ref (ad 4))]) hx hb dX2_extendOrStoreMany_35 hl (by decide) rfl (fun ls hl => ?_)
      refine lv_aload_n hx hb dX2_extendOrStoreMany_37 rfl (lv_at hl 3 rfl) ?_
      refine gB_X2_access hx hb hT hown hK hP (hT _ tF_X2_15) dX2_extendOrStoreMany_38 ?_
      refine lv_aload_n hx hb dX2_extendOrStoreMany_41 rfl (lv_at hl 2 rfl) ?_
      refine lv_iload_n hx hb dX2_extendOrStoreMany_42 rfl (lv_at hl 1 rfl) ?_
      obtain ⟨w2, S13, h15, hs⟩ := bd_e hs
      refine kX0_inRegister C tM_X2_256 ⟨Nat.le_of_ble_eq_true rfl, Nat.le_of_ble_eq_true rfl⟩ ⟨Nat.le_of_ble_eq_true rfl, Nat.le_of_ble_eq_true rfl⟩ hK hP hS hl.1 (rest := [.ref (en e1), .ref (ad 3)]) (Nat.le_of_ble_eq_true rfl) dX2_extendOrStoreMany_43 h15 (fun H locs hP hS => ?_)
      refine lv_aload_n hx hb dX2_extendOrStoreMany_46 rfl (lv_at hl 3 rfl) ?_
      refine gB_X2_arithmetic hx hb hT hown hK hP (hT _ tF_X2_24) dX2_extendOrStoreMany_47 ?_
      refine lv_aload_n hx hb dX2_extendOrStoreMany_50 rfl (lv_at hl 2 rfl) ?_
      refine lv_aload hx hb dX2_extendOrStoreMany_51 (lv_at hl 0 rfl) ?_
      refine lv_aload_n hx hb dX2_extendOrStoreMany_53 rfl (lv_at hl 3 rfl) ?_
      refine gB_X2_registers hx hb hT hown hK hP (hT _ tF_X2_9) dX2_extendOrStoreMany_54 ?_
      refine lv_iload_n hx hb dX2_extendOrStoreMany_57 rfl (lv_at hl 1 rfl) ?_
      obtain ⟨r8, S14, h16, hs⟩ := bd_e hs
      refine kX4_get C tM_X2_124 ⟨Nat.le_of_ble_eq_true rfl, Nat.le_of_ble_eq_true rfl⟩ ⟨Nat.le_of_ble_eq_true rfl, Nat.le_of_ble_eq_true rfl⟩ hK hP hS hl.1 (rest := [.ref (en e2), .ref (en e1), .ref (ad 5), .long w2, .ref (en e1), .ref (ad 3)]) (Nat.le_of_ble_eq_true rfl) dX2_extendOrStoreMany_58 h16 (fun H locs hP hS => ?_)
      obtain ⟨r9, S15, h17, hs⟩ := bd_e hs
      refine kX5_extend C tM_X2_200 ⟨Nat.le_of_ble_eq_true rfl, Nat.le_of_ble_eq_true rfl⟩ ⟨Nat.le_of_ble_eq_true rfl, Nat.le_of_ble_eq_true rfl⟩ hK hP hS hl.1 (rest := [.ref (en e1), .ref (ad 5), .long w2, .ref (en e1), .ref (ad 3)]) (Nat.le_of_ble_eq_true rfl) dX2_extendOrStoreMany_61 h17 (fun H locs hP hS => ?_)
      obtain ⟨r10, S16, h18, hs⟩ := bd_e hs
      refine kX1_logic C tM_X2_203 ⟨Nat.le_of_ble_eq_true rfl, Nat.le_of_ble_eq_true rfl⟩ ⟨Nat.le_of_ble_eq_true rfl, Nat.le_of_ble_eq_true rfl⟩ hK hP hS hl.1 (rest := [.long w2, .ref (en e1), .ref (ad 3)]) (Nat.le_of_ble_eq_true rfl) dX2_extendOrStoreMany_64 h18 (fun H locs hP hS => ?_)
      obtain ⟨S17, h19, hs⟩ := bv_e hs
      refine kX0_store C tM_X2_161 ⟨Nat.le_of_ble_eq_true rfl, Nat.le_of_ble_eq_true rfl⟩ ⟨Nat.le_of_ble_eq_true rfl, Nat.le_of_ble_eq_true rfl⟩ hK hP hS hl.1 (rest := []) (Nat.le_of_ble_eq_true rfl) dX2_extendOrStoreMany_67 h19 (fun H locs hP hS => ?_)
      refine lv_goto (tgt := 140) hx hb dX2_extendOrStoreMany_70 (by decide) ?_
      exact u_vret hx hb hr hlocks hP hS hs dX2_extendOrStoreMany_140
    ·
      refine u_acmp_ne (tgt := 32) hx hb hK h2 (by decide) dX2_extendOrStoreMany_23 (by decide) (fun c4 => ?_) (fun c4 => ?_)
      · have hs := if_f c4 hs
        refine gS_WORD hx hb hown hK hS (hT _ tF_X2_49) dX2_extendOrStoreMany_32 ?_
        exact J1 1 _ _ _ (lv_sub hl [0, 1, 2] rfl) hP hS hs
      · have hs := if_t c4 hs
        refine gS_BYTE hx hb hown hK hS (hT _ tF_X2_36) dX2_extendOrStoreMany_26 ?_
        refine lv_goto (tgt := 35) hx hb dX2_extendOrStoreMany_29 (by decide) ?_
        exact J1 0 _ _ _ (lv_sub hl [0, 1, 2] rfl) hP hS hs
theorem kX2_extendOrStoreMany {p : Program} {l : Launch} {e : Env} {R : Room} {s : State} {m : MethodId} {args : Array Value} {below : List Frame} {meth : Method} {c : Code} {H : Heap} {locs : List Loc} {cells slots : Nat} {Q : State → Prop} {cc : ByteArray} {pc nL : Nat} {ls : Array Slot} {rest : List Value} {D : va_G} {ad : Nat → Nat} {cI cB : ClassId} {en : Nat → Nat} {S : St} {own : String} {index : Nat} {x1 : Int32} {So : St} (C : CallFix p m c cc nL s args wG own) (hlk : Cond.methodLink own index yX2_extendOrStoreMany ∈ wG) (hR : rmX2_extendOrStoreMany.frames + 1 ≤ R.frames ∧ 8 + (5 + 11) + rmX2_extendOrStoreMany.locals ≤ R.locals) (hc : cells ≤ R.cells ∧ slots ≤ R.slots) (hK : KB D ad cI cB en s) (hP : va_P D vwCl (wB ad cI cB S) H) (hS : va_S (AX 10 ad s.heap.size) s.heap H locs) (hls : ls.size = nL) (hrest : (rest.map fun v => v.category).sum ≤ 8) (hd : decode cc pc = .ok (.invokevirtual index, 3)) (hs : fX2_extendOrStoreMany x1 S = some So) (k : ∀ (H : Heap) (locs : List Loc), va_P D vwCl (wB ad cI cB So) H → va_S (AX 10 ad s.heap.size) s.heap H locs → W p l e R s m args below meth c H locs cells slots Q (F0 m (pc + 3) ls (rest))) : W p l e R s m args below meth c H locs cells slots Q (F0 m pc ls (.int x1 :: .ref (ad 4) :: rest)) :=
  u_callV (n := 1) (mX2_extendOrStoreMany l D ad cI cB en S x1 So hs) C uK_B (wg_V hlk tI_X2_extendOrStoreMany tS_X2_extendOrStoreMany tN_X2 tK_X2_extendOrStoreMany) rfl rfl rfl (by decide +kernel) hR rfl (va_recv hK.1 hP (ci := 2) (q0 := 4) rfl rfl) hK hP hS hls hrest hd hc rfl k
def fX2_testAndSet (x1 : Int32) (S : St) : Option St :=
    (bd (fX2_operand x1 S) fun r1 S1 => (bd (fX2_misfits 509 r1 S1) fun b1 S2 => (if (zI b1) = 0 then (bd (fX2_operand x1 S2) fun r2 S3 => (bd (fX0_locate 0 r2 S3) fun w1 S4 => (bd (fX0_load 0 w1 S4) fun r3 S5 => (bd (fX1_logic 0 r3 S5) fun r4 S6 => (bv (fX0_store 0 w1 (r4 ||| 128) S6) fun S7 => (some S7))))))
    else (some S2))))
abbrev rmX2_testAndSet : Room := { frames := 3, cells := 0, slots := 0, locals := 73 }
set_option maxRecDepth 100000 in
set_option maxHeartbeats 4000000 in
theorem mX2_testAndSet (l : Launch) (D : va_G) (ad : Nat → Nat) (cI cB : ClassId) (en : Nat → Nat) (S : St) (x1 : Int32) (So : St) (hs : fX2_testAndSet x1 S = some So) : uM l yX2_testAndSet (wg yX2_testAndSet cX2_testAndSet 5 none) rmX2_testAndSet (KB D ad cI cB en) D (wB ad cI cB) (AX 10 ad) [.ref (ad 4), .int x1] S (none, So) := by
  refine uM_start (by decide) rfl ?_
  intro p e s m below meth c hx hb hr hlocks hml hown hts hK hP
  have hT : ∀ w ∈ wG, w.before _ s = true := fun w h => hts w (List.mem_cons_of_mem _ h)
  have hS : va_S (AX 10 ad s.heap.size) s.heap s.heap [] := va_S.rf
  have hown : s.vm.findClass RX2 = some m.cls := hown
  have C : CallFix p m c cX2_testAndSet 5 s _ wG RX2 := ⟨hx, hb, hml, hown, hT⟩
  have hl := lv_entry ([.ref (ad 4), .int x1]) (n := 5) (Nat.le_of_ble_eq_true rfl)
  rw [lg_entry_eq]
  generalize (lg_sl ([.ref (ad 4), .int x1]) ++ List.replicate (5 - (lg_sl ([.ref (ad 4), .int x1])).length) Slot.unset).toArray = ls at hl ⊢
  have hl : lv_has ls 5 [(0, .ref (ad 4)), (1, .int x1)] := hl
  unfold fX2_testAndSet at hs
  refine lv_aload_n hx hb dX2_testAndSet_0 rfl (lv_at hl 0 rfl) ?_
  refine lv_sipush (v := 509) hx hb dX2_testAndSet_1 (by decide) ?_
  refine lv_iload_n hx hb dX2_testAndSet_4 rfl (lv_at hl 1 rfl) ?_
  obtain ⟨r1, S1, h1, hs⟩ := bd_e hs
  refine kX2_operand C tM_X2_95 ⟨Nat.le_of_ble_eq_true rfl, Nat.le_of_ble_eq_true rfl⟩ ⟨Nat.le_of_ble_eq_true rfl, Nat.le_of_ble_eq_true rfl⟩ hK hP hS hl.1 (rest := [.int 509, .ref (ad 4)]) (Nat.le_of_ble_eq_true rfl) dX2_testAndSet_5 h1 (fun H locs hP hS => ?_)
  obtain ⟨b1, S2, h2, hs⟩ := bd_e hs
  refine kX2_misfits C tM_X2_146 ⟨Nat.le_of_ble_eq_true rfl, Nat.le_of_ble_eq_true rfl⟩ ⟨Nat.le_of_ble_eq_true rfl, Nat.le_of_ble_eq_true rfl⟩ hK hP hS hl.1 (rest := []) (Nat.le_of_ble_eq_true rfl) dX2_testAndSet_8 h2 (fun H locs hP hS => ?_)
  refine lv_if_ne (tgt := 69) hx hb dX2_testAndSet_11 (by decide) (fun c1 => ?_) (fun c1 => ?_)
  · have hs := if_f c1 hs
    exact u_vret hx hb hr hlocks hP hS hs dX2_testAndSet_69
  · have hs := if_t c1 hs
    refine lv_aload_n hx hb dX2_testAndSet_14 rfl (lv_at hl 0 rfl) ?_
    refine gB_X2_access hx hb hT hown hK hP (hT _ tF_X2_15) dX2_testAndSet_15 ?_
    refine gS_BYTE hx hb hown hK hS (hT _ tF_X2_36) dX2_testAndSet_18 ?_
    refine lv_iload_n hx hb dX2_testAndSet_21 rfl (lv_at hl 1 rfl) ?_
    obtain ⟨r2, S3, h3, hs⟩ := bd_e hs
    refine kX2_operand C tM_X2_95 ⟨Nat.le_of_ble_eq_true rfl, Nat.le_of_ble_eq_true rfl⟩ ⟨Nat.le_of_ble_eq_true rfl, Nat.le_of_ble_eq_true rfl⟩ hK hP hS hl.1 (rest := [.ref (en 0), .ref (ad 3)]) (Nat.le_of_ble_eq_true rfl) dX2_testAndSet_22 h3 (fun H locs hP hS => ?_)
    obtain ⟨w1, S4, h4, hs⟩ := bd_e hs
    refine kX0_locate C tM_X2_150 ⟨Nat.le_of_ble_eq_true rfl, Nat.le_of_ble_eq_true rfl⟩ ⟨Nat.le_of_ble_eq_true rfl, Nat.le_of_ble_eq_true rfl⟩ hK hP hS hl.1 (rest := []) (Nat.le_of_ble_eq_true rfl) dX2_testAndSet_25 h4 (fun H locs hP hS => ?_)
    refine lv_lstore_n (lv' := [(2, .long w1), (0, .ref (ad 4)), (1, .int x1)]) hx hb dX2_testAndSet_28 rfl hl (by decide) rfl (fun ls hl => ?_)
    refine lv_aload_n hx hb dX2_testAndSet_29 rfl (lv_at hl 1 rfl) ?_
    refine gB_X2_access hx hb hT hown hK hP (hT _ tF_X2_15) dX2_testAndSet_30 ?_
    refine gS_BYTE hx hb hown hK hS (hT _ tF_X2_36) dX2_testAndSet_33 ?_
    refine lv_lload_n hx hb dX2_testAndSet_36 rfl (lv_at hl 0 rfl) ?_
    obtain ⟨r3, S5, h5, hs⟩ := bd_e hs
    refine kX0_load C tM_X2_154 ⟨Nat.le_of_ble_eq_true rfl, Nat.le_of_ble_eq_true rfl⟩ ⟨Nat.le_of_ble_eq_true rfl, Nat.le_of_ble_eq_true rfl⟩ hK hP hS hl.1 (rest := []) (Nat.le_of_ble_eq_true rfl) dX2_testAndSet_37 h5 (fun H locs hP hS => ?_)
    refine lv_istore (lv' := [(4, .int r3), (2, .long w1), (0, .ref (ad 4)), (1, .int x1)]) hx hb dX2_testAndSet_40 hl (by decide) rfl (fun ls hl => ?_)
    refine lv_aload_n hx hb dX2_testAndSet_42 rfl (lv_at hl 2 rfl) ?_
    refine gB_X2_access hx hb hT hown hK hP (hT _ tF_X2_15) dX2_testAndSet_43 ?_
    refine gS_BYTE hx hb hown hK hS (hT _ tF_X2_36) dX2_testAndSet_46 ?_
    refine lv_lload_n hx hb dX2_testAndSet_49 rfl (lv_at hl 1 rfl) ?_
    refine lv_aload_n hx hb dX2_testAndSet_50 rfl (lv_at hl 2 rfl) ?_
    refine gB_X2_arithmetic hx hb hT hown hK hP (hT _ tF_X2_24) dX2_testAndSet_51 ?_
    refine gS_BYTE hx hb hown hK hS (hT _ tF_X2_36) dX2_testAndSet_54 ?_
    refine lv_iload hx hb dX2_testAndSet_57 (lv_at hl 0 rfl) ?_
    obtain ⟨r4, S6, h6, hs⟩ := bd_e hs
    refine kX1_logic C tM_X2_203 ⟨Nat.le_of_ble_eq_true rfl, Nat.le_of_ble_eq_true rfl⟩ ⟨Nat.le_of_ble_eq_true rfl, Nat.le_of_ble_eq_true rfl⟩ hK hP hS hl.1 (rest := [.long w1, .ref (en 0), .ref (ad 3)]) (Nat.le_of_ble_eq_true rfl) dX2_testAndSet_59 h6 (fun H locs hP hS => ?_)
    refine lv_sipush (v := 128) hx hb dX2_testAndSet_62 (by decide) ?_
    refine lv_ior hx hb dX2_testAndSet_65 ?_
    obtain ⟨S7, h7, hs⟩ := bv_e hs
    refine kX0_store C tM_X2_161 ⟨Nat.le_of_ble_eq_true rfl, Nat.le_of_ble_eq_true rfl⟩ ⟨Nat.le_of_ble_eq_true rfl, Nat.le_of_ble_eq_true rfl⟩ hK hP hS hl.1 (rest := []) (Nat.le_of_ble_eq_true rfl) dX2_testAndSet_66 h7 (fun H locs hP hS => ?_)
    exact u_vret hx hb hr hlocks hP hS hs dX2_testAndSet_69
theorem kX2_testAndSet {p : Program} {l : Launch} {e : Env} {R : Room} {s : State} {m : MethodId} {args : Array Value} {below : List Frame} {meth : Method} {c : Code} {H : Heap} {locs : List Loc} {cells slots : Nat} {Q : State → Prop} {cc : ByteArray} {pc nL : Nat} {ls : Array Slot} {rest : List Value} {D : va_G} {ad : Nat → Nat} {cI cB : ClassId} {en : Nat → Nat} {S : St} {own : String} {index : Nat} {x1 : Int32} {So : St} (C : CallFix p m c cc nL s args wG own) (hlk : Cond.methodLink own index yX2_testAndSet ∈ wG) (hR : rmX2_testAndSet.frames + 1 ≤ R.frames ∧ 8 + (5 + 11) + rmX2_testAndSet.locals ≤ R.locals) (hc : cells ≤ R.cells ∧ slots ≤ R.slots) (hK : KB D ad cI cB en s) (hP : va_P D vwCl (wB ad cI cB S) H) (hS : va_S (AX 10 ad s.heap.size) s.heap H locs) (hls : ls.size = nL) (hrest : (rest.map fun v => v.category).sum ≤ 8) (hd : decode cc pc = .ok (.invokevirtual index, 3)) (hs : fX2_testAndSet x1 S = some So) (k : ∀ (H : Heap) (locs : List Loc), va_P D vwCl (wB ad cI cB So) H → va_S (AX 10 ad s.heap.size) s.heap H locs → W p l e R s m args below meth c H locs cells slots Q (F0 m (pc + 3) ls (rest))) : W p l e R s m args below meth c H locs cells slots Q (F0 m pc ls (.int x1 :: .ref (ad 4) :: rest)) :=
  u_callV (n := 1) (mX2_testAndSet l D ad cI cB en S x1 So hs) C uK_B (wg_V hlk tI_X2_testAndSet tS_X2_testAndSet tN_X2 tK_X2_testAndSet) rfl rfl rfl (by decide +kernel) hR rfl (va_recv hK.1 hP (ci := 2) (q0 := 4) rfl rfl) hK hP hS hls hrest hd hc rfl k
def fX2_loadMany_b1 (v1 : Int32) (b2 : Bool) (r2 : Int32) (e1 : Nat) (k1 : Int32 → Int32 → St → Option St) (v3 : Int32) (v4 : Int32) (S8 : St) : Option St :=
    (if 16 ≤ v3 then (if (zI b2) = 0 then (some S8)
    else (bv (fX4_set v1 v4 S8) fun S9 => (some S9)))
    else (jn (fun (v5 : Int32) (S10 : St) => (lt (v3 + 1) fun v6 => (k1 v6 v5 S10))) fun K3 =>
    (if ((ush r2 v3) &&& 1) = 0 then (K3 v4 S8)
    else (bd (fX0_loadAt e1 v4 S8) fun r5 S11 => (bd (fX5_extend e1 r5 S11) fun r6 S12 => (bv (fX4_set v3 r6 S12) fun S13 => (lt ((v4 + (szB e1)) : Int32) fun v7 => (K3 v7 S13))))))))
def fX2_loadMany_l1 (v1 : Int32) (b2 : Bool) (r2 : Int32) (e1 : Nat) : Nat → Int32 → Int32 → St → Option St
  | 0 => fun _ _ _ => none
  | n + 1 => fX2_loadMany_b1 v1 b2 r2 e1 (fX2_loadMany_l1 v1 b2 r2 e1 n)
def fX2_loadMany (x1 : Int32) (S : St) : Option St :=
    (bd (fX2_operand x1 S) fun r1 S1 => (bd (fX2_misfits 2028 r1 S1) fun b1 S2 => (if (zI b1) = 0 then (bd (fX2_manySize x1 S2) fun e1 S3 => (gd (e1 < 3) (bd (fX0_nextWord S3) fun r2 S4 => (bd (fX2_operand x1 S4) fun r3 S5 => (jn (fun (b2 : Bool) => (bd (fX2_lower x1 S5) fun r4 S6 => (lt ((8 + r4) : Int32) fun v1 => (jn (fun (v2 : Int32) (S7 : St) => (fX2_loadMany_l1 v1 b2 r2 e1 17 0 v2 S7)) fun K2 =>
    (if (zI b2) = 0 then (bd (fX2_operand x1 S6) fun r7 S14 => (bd (fX0_locate e1 r7 S14) fun w1 S15 => (K2 (w1.toInt32) S15)))
    else (bd (fX4_get v1 S6) fun r8 S16 => (K2 r8 S16))))))) fun K1 =>
    (if (ush r3 3) = 3 then (K1 true)
    else (K1 false)))))))
    else (some S2))))
abbrev rmX2_loadMany : Room := { frames := 3, cells := 0, slots := 0, locals := 70 }
set_option maxRecDepth 100000 in
set_option maxHeartbeats 4000000 in
theorem mX2_loadMany (l : Launch) (D : va_G) (ad : Nat → Nat) (cI cB : ClassId) (en : Nat → Nat) (S : St) (x1 : Int32) (So : St) (hs : fX2_loadMany x1 S = some So) : uM l yX2_loadMany (wg yX2_loadMany cX2_loadMany 8 none) rmX2_loadMany (KB D ad cI cB en) D (wB ad cI cB) (AX 10 ad) [.ref (ad 4), .int x1] S (none, So) := by
  refine uM_start (by decide) rfl ?_
  intro p e s m below meth c hx hb hr hlocks hml hown hts hK hP
  have hT : ∀ w ∈ wG, w.before _ s = true := fun w h => hts w (List.mem_cons_of_mem _ h)
  have hS : va_S (AX 10 ad s.heap.size) s.heap s.heap [] := va_S.rf
  have hown : s.vm.findClass RX2 = some m.cls := hown
  have C : CallFix p m c cX2_loadMany 8 s _ wG RX2 := ⟨hx, hb, hml, hown, hT⟩
  have hl := lv_entry ([.ref (ad 4), .int x1]) (n := 8) (Nat.le_of_ble_eq_true rfl)
  rw [lg_entry_eq]
  generalize (lg_sl ([.ref (ad 4), .int x1]) ++ List.replicate (8 - (lg_sl ([.ref (ad 4), .int x1])).length) Slot.unset).toArray = ls at hl ⊢
  have hl : lv_has ls 8 [(0, .ref (ad 4)), (1, .int x1)] := hl
  unfold fX2_loadMany at hs
  refine lv_aload_n hx hb dX2_loadMany_0 rfl (lv_at hl 0 rfl) ?_
  refine lv_sipush (v := 2028) hx hb dX2_loadMany_1 (by decide) ?_
  refine lv_iload_n hx hb dX2_loadMany_4 rfl (lv_at hl 1 rfl) ?_
  obtain ⟨r1, S1, h1, hs⟩ := bd_e hs
  refine kX2_operand C tM_X2_95 ⟨Nat.le_of_ble_eq_true rfl, Nat.le_of_ble_eq_true rfl⟩ ⟨Nat.le_of_ble_eq_true rfl, Nat.le_of_ble_eq_true rfl⟩ hK hP hS hl.1 (rest := [.int 2028, .ref (ad 4)]) (Nat.le_of_ble_eq_true rfl) dX2_loadMany_5 h1 (fun H locs hP hS => ?_)
  obtain ⟨b1, S2, h2, hs⟩ := bd_e hs
  refine kX2_misfits C tM_X2_146 ⟨Nat.le_of_ble_eq_true rfl, Nat.le_of_ble_eq_true rfl⟩ ⟨Nat.le_of_ble_eq_true rfl, Nat.le_of_ble_eq_true rfl⟩ hK hP hS hl.1 (rest := []) (Nat.le_of_ble_eq_true rfl) dX2_loadMany_8 h2 (fun H locs hP hS => ?_)
  refine lv_if_eq (tgt := 15) hx hb dX2_loadMany_11 (by decide) (fun c1 => ?_) (fun c1 => ?_)
  · have hs := if_t c1 hs
    refine lv_iload_n hx hb dX2_loadMany_15 rfl (lv_at hl 1 rfl) ?_
    obtain ⟨e1, S3, h3, hs⟩ := bd_e hs
    refine kX2_manySize C tM_X2_253 ⟨Nat.le_of_ble_eq_true rfl, Nat.le_of_ble_eq_true rfl⟩ ⟨Nat.le_of_ble_eq_true rfl, Nat.le_of_ble_eq_true rfl⟩ hK hP hS hl.1 (rest := []) (Nat.le_of_ble_eq_true rfl) dX2_loadMany_16 h3 (fun H locs hP hS => ?_)
    obtain ⟨h4, hs⟩ := gd_e hs
    refine lv_astore_n (lv' := [(2, .ref (en e1)), (0, .ref (ad 4)), (1, .int x1)]) hx hb dX2_loadMany_19 rfl hl (by decide) rfl (fun ls hl => ?_)
    refine lv_aload_n hx hb dX2_loadMany_20 rfl (lv_at hl 1 rfl) ?_
    refine gB_X2_access hx hb hT hown hK hP (hT _ tF_X2_15) dX2_loadMany_21 ?_
    obtain ⟨r2, S4, h5, hs⟩ := bd_e hs
    refine kX0_nextWord C tM_X2_127 ⟨Nat.le_of_ble_eq_true rfl, Nat.le_of_ble_eq_true rfl⟩ ⟨Nat.le_of_ble_eq_true rfl, Nat.le_of_ble_eq_true rfl⟩ hK hP hS hl.1 (rest := []) (Nat.le_of_ble_eq_true rfl) dX2_loadMany_24 h5 (fun H locs hP hS => ?_)
    refine lv_istore_n (lv' := [(3, .int r2), (2, .ref (en e1)), (0, .ref (ad 4)), (1, .int x1)]) hx hb dX2_loadMany_27 rfl hl (by decide) rfl (fun ls hl => ?_)
    refine lv_iload_n hx hb dX2_loadMany_28 rfl (lv_at hl 3 rfl) ?_
    obtain ⟨r3, S5, h6, hs⟩ := bd_e hs
    refine kX2_operand C tM_X2_95 ⟨Nat.le_of_ble_eq_true rfl, Nat.le_of_ble_eq_true rfl⟩ ⟨Nat.le_of_ble_eq_true rfl, Nat.le_of_ble_eq_true rfl⟩ hK hP hS hl.1 (rest := []) (Nat.le_of_ble_eq_true rfl) dX2_loadMany_29 h6 (fun H locs hP hS => ?_)
    refine lv_iconst (v := 3) hx hb dX2_loadMany_32 (by decide) ?_
    refine lv_iushr (v := (ush r3 3)) hx hb dX2_loadMany_33 rfl ?_
    refine lv_iconst (v := 3) hx hb dX2_loadMany_34 (by decide) ?_
    refine jn_e hs (fun K1 => ∀ (b2 : Bool) (H : Heap) (locs : List Loc) (ls : Array Slot), lv_has ls 8 [(3, .int r2), (2, .ref (en e1)), (0, .ref (ad 4)), (1, .int x1)] → va_P D vwCl (wB ad cI cB S5) H → va_S (AX 10 ad s.heap.size) s.heap H locs → K1 b2 = some So → W p l e rmX2_loadMany s m ([.ref (ad 4), .int x1] : List Value).toArray below meth c H locs 0 0 (MQ below (uQ D (wB ad cI cB) (none, So) (AX 10 ad s.heap.size)) ([.ref (ad 4), .int x1] : List Value).toArray s 0 0 (AX 10 ad s.heap.size)) (F0 m 43 ls [.int (zI b2)])) ?_ (fun K1 J1 hs => ?_)
    · intro b2 H locs ls hl hP hS hs
      refine lv_istore (lv' := [(4, .int (zI b2)), (3, .int r2), (2, .ref (en e1)), (0, .ref (ad 4)), (1, .int x1)]) hx hb dX2_loadMany_43 hl (by decide) rfl (fun ls hl => ?_)
      refine lv_bipush (v := 8) hx hb dX2_loadMany_45 (by decide) ?_
      refine lv_iload_n hx hb dX2_loadMany_47 rfl (lv_at hl 4 rfl) ?_
      obtain ⟨r4, S6, h7, hs⟩ := bd_e hs
      refine kX2_lower C tM_X2_121 ⟨Nat.le_of_ble_eq_true rfl, Nat.le_of_ble_eq_true rfl⟩ ⟨Nat.le_of_ble_eq_true rfl, Nat.le_of_ble_eq_true rfl⟩ hK hP hS hl.1 (rest := [.int 8]) (Nat.le_of_ble_eq_true rfl) dX2_loadMany_48 h7 (fun H locs hP hS => ?_)
      refine lv_iadd hx hb dX2_loadMany_51 ?_
      obtain ⟨v1, h8, hs⟩ := lt_e hs
      refine u_top h8 ?_
      refine lv_istore (lv' := [(5, .int v1), (4, .int (zI b2)), (3, .int r2), (2, .ref (en e1)), (0, .ref (ad 4)), (1, .int x1)]) hx hb dX2_loadMany_52 hl (by decide) rfl (fun ls hl => ?_)
      refine lv_iload hx hb dX2_loadMany_54 (lv_at hl 1 rfl) ?_
      refine jn_e hs (fun K2 => ∀ (v2 : Int32) (S7 : St) (H : Heap) (locs : List Loc) (ls : Array Slot), lv_has ls 8 [(5, .int v1), (4, .int (zI b2)), (3, .int r2), (2, .ref (en e1)), (0, .ref (ad 4))] → va_P D vwCl (wB ad cI cB S7) H → va_S (AX 10 ad s.heap.size) s.heap H locs → K2 v2 S7 = some So → W p l e rmX2_loadMany s m ([.ref (ad 4), .int x1] : List Value).toArray below meth c H locs 0 0 (MQ below (uQ D (wB ad cI cB) (none, So) (AX 10 ad s.heap.size)) ([.ref (ad 4), .int x1] : List Value).toArray s 0 0 (AX 10 ad s.heap.size)) (F0 m 84 ls [.int v2])) ?_ (fun K2 J2 hs => ?_)
      · intro v2 S7 H locs ls hl hP hS hs
        refine lv_istore (lv' := [(6, .int v2), (5, .int v1), (4, .int (zI b2)), (3, .int r2), (2, .ref (en e1)), (0, .ref (ad 4))]) hx hb dX2_loadMany_84 hl (by decide) rfl (fun ls hl => ?_)
        refine lv_iconst (v := 0) hx hb dX2_loadMany_86 (by decide) ?_
        refine lv_istore (lv' := [(7, .int 0), (6, .int v2), (5, .int v1), (4, .int (zI b2)), (3, .int r2), (2, .ref (en e1)), (0, .ref (ad 4))]) hx hb dX2_loadMany_87 hl (by decide) rfl (fun ls hl => ?_)
        have L1 : ∀ (n : Nat) (v3 : Int32) (v4 : Int32) (S8 : St) (H : Heap) (locs : List Loc) (ls : Array Slot), lv_has ls 8 [(7, .int v3), (6, .int v4), (5, .int v1), (4, .int (zI b2)), (3, .int r2), (2, .ref (en e1)), (0, .ref (ad 4))] → va_P D vwCl (wB ad cI cB S8) H → va_S (AX 10 ad s.heap.size) s.heap H locs → fX2_loadMany_l1 v1 b2 r2 e1 n v3 v4 S8 = some So → W p l e rmX2_loadMany s m ([.ref (ad 4), .int x1] : List Value).toArray below meth c H locs 0 0 (MQ below (uQ D (wB ad cI cB) (none, So) (AX 10 ad s.heap.size)) ([.ref (ad 4), .int x1] : List Value).toArray s 0 0 (AX 10 ad s.heap.size)) (F0 m 89 ls []) := by
          intro n
          induction n with
          | zero => intro v3 v4 S8 H locs ls hl hP hS hs; cases hs
          | succ n ih =>
            intro v3 v4 S8 H locs ls hl hP hS hs
            have hs : fX2_loadMany_b1 v1 b2 r2 e1 (fX2_loadMany_l1 v1 b2 r2 e1 n) v3 v4 S8 = some So := hs
            unfold fX2_loadMany_b1 at hs
            refine lv_iload hx hb dX2_loadMany_89 (lv_at hl 0 rfl) ?_
            refine lv_bipush (v := 16) hx hb dX2_loadMany_91 (by decide) ?_
            refine lv_icmp_ge (tgt := 143) hx hb dX2_loadMany_93 (by decide) (fun c2 => ?_) (fun c2 => ?_)
            · have hs := if_t c2 hs
              refine lv_iload hx hb dX2_loadMany_143 (lv_at hl 3 rfl) ?_
              refine lv_if_eq (tgt := 159) hx hb dX2_loadMany_145 (by decide) (fun c3 => ?_) (fun c3 => ?_)
              · have hs := if_t c3 hs
                exact u_vret hx hb hr hlocks hP hS hs dX2_loadMany_159
              · have hs := if_f c3 hs
                refine lv_aload_n hx hb dX2_loadMany_148 rfl (lv_at hl 6 rfl) ?_
                refine gB_X2_registers hx hb hT hown hK hP (hT _ tF_X2_9) dX2_loadMany_149 ?_
                refine lv_iload hx hb dX2_loadMany_152 (lv_at hl 2 rfl) ?_
                refine lv_iload hx hb dX2_loadMany_154 (lv_at hl 1 rfl) ?_
                obtain ⟨S9, h9, hs⟩ := bv_e hs
                refine kX4_set C tM_X2_143 ⟨Nat.le_of_ble_eq_true rfl, Nat.le_of_ble_eq_true rfl⟩ ⟨Nat.le_of_ble_eq_true rfl, Nat.le_of_ble_eq_true rfl⟩ hK hP hS hl.1 (rest := []) (Nat.le_of_ble_eq_true rfl) dX2_loadMany_156 h9 (fun H locs hP hS => ?_)
                exact u_vret hx hb hr hlocks hP hS hs dX2_loadMany_159
            · have hs := if_f c2 hs
              refine lv_iload_n hx hb dX2_loadMany_96 rfl (lv_at hl 4 rfl) ?_
              refine lv_iload hx hb dX2_loadMany_97 (lv_at hl 0 rfl) ?_
              refine lv_iushr (v := (ush r2 v3)) hx hb dX2_loadMany_99 rfl ?_
              refine lv_iconst (v := 1) hx hb dX2_loadMany_100 (by decide) ?_
              refine lv_iand hx hb dX2_loadMany_101 ?_
              refine jn_e hs (fun K3 => ∀ (v5 : Int32) (S10 : St) (H : Heap) (locs : List Loc) (ls : Array Slot), lv_has ls 8 [(7, .int v3), (6, .int v5), (5, .int v1), (4, .int (zI b2)), (3, .int r2), (2, .ref (en e1)), (0, .ref (ad 4))] → va_P D vwCl (wB ad cI cB S10) H → va_S (AX 10 ad s.heap.size) s.heap H locs → K3 v5 S10 = some So → W p l e rmX2_loadMany s m ([.ref (ad 4), .int x1] : List Value).toArray below meth c H locs 0 0 (MQ below (uQ D (wB ad cI cB) (none, So) (AX 10 ad s.heap.size)) ([.ref (ad 4), .int x1] : List Value).toArray s 0 0 (AX 10 ad s.heap.size)) (F0 m 137 ls [])) ?_ (fun K3 J3 hs => ?_)
              · intro v5 S10 H locs ls hl hP hS hs
                obtain ⟨v6, h10, hs⟩ := lt_e hs
                refine lv_iinc (v := v6) (lv' := [(7, .int v6), (6, .int v5), (5, .int v1), (4, .int (zI b2)), (3, .int r2), (2, .ref (en e1)), (0, .ref (ad 4))]) hx hb dX2_loadMany_137 hl (k := 0) rfl (by rw [h10]; rfl) (by decide) rfl (fun ls hl => ?_)
                refine lv_goto (tgt := 89) hx hb dX2_loadMany_140 (by decide) ?_
                exact ih v6 v5 S10 _ _ _ (lv_sub hl [0, 1, 2, 3, 4, 5, 6] rfl) hP hS hs
              ·
                refine lv_if_eq (tgt := 137) hx hb dX2_loadMany_102 (by decide) (fun c4 => ?_) (fun c4 => ?_)
                · have hs := if_t c4 hs
                  exact J3 v4 S8 _ _ _ (lv_sub hl [0, 1, 2, 3, 4, 5, 6] rfl) hP hS hs
                · have hs := if_f c4 hs
                  refine lv_aload_n hx hb dX2_loadMany_105 rfl (lv_at hl 6 rfl) ?_
                  refine gB_X2_registers hx hb hT hown hK hP (hT _ tF_X2_9) dX2_loadMany_106 ?_
                  refine lv_iload hx hb dX2_loadMany_109 (lv_at hl 0 rfl) ?_
                  refine lv_aload_n hx hb dX2_loadMany_111 rfl (lv_at hl 5 rfl) ?_
                  refine lv_aload_n hx hb dX2_loadMany_112 rfl (lv_at hl 6 rfl) ?_
                  refine gB_X2_access hx hb hT hown hK hP (hT _ tF_X2_15) dX2_loadMany_113 ?_
                  refine lv_aload_n hx hb dX2_loadMany_116 rfl (lv_at hl 5 rfl) ?_
                  refine lv_iload hx hb dX2_loadMany_117 (lv_at hl 1 rfl) ?_
                  obtain ⟨r5, S11, h11, hs⟩ := bd_e hs
                  refine kX0_loadAt C tM_X2_139 ⟨Nat.le_of_ble_eq_true rfl, Nat.le_of_ble_eq_true rfl⟩ ⟨Nat.le_of_ble_eq_true rfl, Nat.le_of_ble_eq_true rfl⟩ hK hP hS hl.1 (rest := [.ref (en e1), .int v3, .ref (ad 2)]) (Nat.le_of_ble_eq_true rfl) dX2_loadMany_119 h11 (fun H locs hP hS => ?_)
                  obtain ⟨r6, S12, h12, hs⟩ := bd_e hs
                  refine kX5_extend C tM_X2_200 ⟨Nat.le_of_ble_eq_true rfl, Nat.le_of_ble_eq_true rfl⟩ ⟨Nat.le_of_ble_eq_true rfl, Nat.le_of_ble_eq_true rfl⟩ hK hP hS hl.1 (rest := [.int v3, .ref (ad 2)]) (Nat.le_of_ble_eq_true rfl) dX2_loadMany_122 h12 (fun H locs hP hS => ?_)
                  obtain ⟨S13, h13, hs⟩ := bv_e hs
                  refine kX4_set C tM_X2_143 ⟨Nat.le_of_ble_eq_true rfl, Nat.le_of_ble_eq_true rfl⟩ ⟨Nat.le_of_ble_eq_true rfl, Nat.le_of_ble_eq_true rfl⟩ hK hP hS hl.1 (rest := []) (Nat.le_of_ble_eq_true rfl) dX2_loadMany_125 h13 (fun H locs hP hS => ?_)
                  refine lv_iload hx hb dX2_loadMany_128 (lv_at hl 1 rfl) ?_
                  refine lv_aload_n hx hb dX2_loadMany_130 rfl (lv_at hl 5 rfl) ?_
                  refine gE_bytes hx hb hown hK hS h4 (hT _ tF_X2_131) dX2_loadMany_131 ?_
                  refine lv_iadd hx hb dX2_loadMany_134 ?_
                  obtain ⟨v7, h14, hs⟩ := lt_e hs
                  refine u_top h14 ?_
                  refine lv_istore (lv' := [(6, .int v7), (7, .int v3), (5, .int v1), (4, .int (zI b2)), (3, .int r2), (2, .ref (en e1)), (0, .ref (ad 4))]) hx hb dX2_loadMany_135 hl (by decide) rfl (fun ls hl => ?_)
                  exact J3 v7 S13 _ _ _ (lv_sub hl [1, 0, 2, 3, 4, 5, 6] rfl) hP hS hs
        exact L1 17 0 v2 S7 _ _ _ (lv_sub hl [0, 1, 2, 3, 4, 5, 6] rfl) hP hS hs
      ·
        refine lv_if_eq (tgt := 71) hx hb dX2_loadMany_56 (by decide) (fun c5 => ?_) (fun c5 => ?_)
        · have hs := if_t c5 hs
          refine lv_aload_n hx hb dX2_loadMany_71 rfl (lv_at hl 4 rfl) ?_
          refine gB_X2_access hx hb hT hown hK hP (hT _ tF_X2_15) dX2_loadMany_72 ?_
          refine lv_aload_n hx hb dX2_loadMany_75 rfl (lv_at hl 3 rfl) ?_
          refine lv_iload_n hx hb dX2_loadMany_76 rfl (lv_at hl 5 rfl) ?_
          obtain ⟨r7, S14, h15, hs⟩ := bd_e hs
          refine kX2_operand C tM_X2_95 ⟨Nat.le_of_ble_eq_true rfl, Nat.le_of_ble_eq_true rfl⟩ ⟨Nat.le_of_ble_eq_true rfl, Nat.le_of_ble_eq_true rfl⟩ hK hP hS hl.1 (rest := [.ref (en e1), .ref (ad 3)]) (Nat.le_of_ble_eq_true rfl) dX2_loadMany_77 h15 (fun H locs hP hS => ?_)
          obtain ⟨w1, S15, h16, hs⟩ := bd_e hs
          refine kX0_locate C tM_X2_150 ⟨Nat.le_of_ble_eq_true rfl, Nat.le_of_ble_eq_true rfl⟩ ⟨Nat.le_of_ble_eq_true rfl, Nat.le_of_ble_eq_true rfl⟩ hK hP hS hl.1 (rest := []) (Nat.le_of_ble_eq_true rfl) dX2_loadMany_80 h16 (fun H locs hP hS => ?_)
          refine lv_l2i (v := (w1.toInt32)) hx hb dX2_loadMany_83 rfl ?_
          exact J2 (w1.toInt32) S15 _ _ _ (lv_sub hl [0, 1, 2, 3, 4] rfl) hP hS hs
        · have hs := if_f c5 hs
          refine lv_aload_n hx hb dX2_loadMany_59 rfl (lv_at hl 4 rfl) ?_
          refine gB_X2_registers hx hb hT hown hK hP (hT _ tF_X2_9) dX2_loadMany_60 ?_
          refine lv_iload hx hb dX2_loadMany_63 (lv_at hl 0 rfl) ?_
          obtain ⟨r8, S16, h17, hs⟩ := bd_e hs
          refine kX4_get C tM_X2_124 ⟨Nat.le_of_ble_eq_true rfl, Nat.le_of_ble_eq_true rfl⟩ ⟨Nat.le_of_ble_eq_true rfl, Nat.le_of_ble_eq_true rfl⟩ hK hP hS hl.1 (rest := []) (Nat.le_of_ble_eq_true rfl) dX2_loadMany_65 h17 (fun H locs hP hS => ?_)
          refine lv_goto (tgt := 84) hx hb dX2_loadMany_68 (by decide) ?_
          exact J2 r8 S16 _ _ _ (lv_sub hl [0, 1, 2, 3, 4] rfl) hP hS hs
    ·
      refine lv_icmp_ne (tgt := 42) hx hb dX2_loadMany_35 (by decide) (fun c6 => ?_) (fun c6 => ?_)
      · have hs := if_f c6 hs
        refine lv_iconst (v := 0) hx hb dX2_loadMany_42 (by decide) ?_
        exact J1 false _ _ _ (lv_sub hl [0, 1, 2, 3] rfl) hP hS hs
      · have hs := if_t c6 hs
        refine lv_iconst (v := 1) hx hb dX2_loadMany_38 (by decide) ?_
        refine lv_goto (tgt := 43) hx hb dX2_loadMany_39 (by decide) ?_
        exact J1 true _ _ _ (lv_sub hl [0, 1, 2, 3] rfl) hP hS hs
  · have hs := if_f c1 hs
    exact u_vret hx hb hr hlocks hP hS hs dX2_loadMany_14
theorem kX2_loadMany {p : Program} {l : Launch} {e : Env} {R : Room} {s : State} {m : MethodId} {args : Array Value} {below : List Frame} {meth : Method} {c : Code} {H : Heap} {locs : List Loc} {cells slots : Nat} {Q : State → Prop} {cc : ByteArray} {pc nL : Nat} {ls : Array Slot} {rest : List Value} {D : va_G} {ad : Nat → Nat} {cI cB : ClassId} {en : Nat → Nat} {S : St} {own : String} {index : Nat} {x1 : Int32} {So : St} (C : CallFix p m c cc nL s args wG own) (hlk : Cond.methodLink own index yX2_loadMany ∈ wG) (hR : rmX2_loadMany.frames + 1 ≤ R.frames ∧ 8 + (8 + 11) + rmX2_loadMany.locals ≤ R.locals) (hc : cells ≤ R.cells ∧ slots ≤ R.slots) (hK : KB D ad cI cB en s) (hP : va_P D vwCl (wB ad cI cB S) H) (hS : va_S (AX 10 ad s.heap.size) s.heap H locs) (hls : ls.size = nL) (hrest : (rest.map fun v => v.category).sum ≤ 8) (hd : decode cc pc = .ok (.invokevirtual index, 3)) (hs : fX2_loadMany x1 S = some So) (k : ∀ (H : Heap) (locs : List Loc), va_P D vwCl (wB ad cI cB So) H → va_S (AX 10 ad s.heap.size) s.heap H locs → W p l e R s m args below meth c H locs cells slots Q (F0 m (pc + 3) ls (rest))) : W p l e R s m args below meth c H locs cells slots Q (F0 m pc ls (.int x1 :: .ref (ad 4) :: rest)) :=
  u_callV (n := 1) (mX2_loadMany l D ad cI cB en S x1 So hs) C uK_B (wg_V hlk tI_X2_loadMany tS_X2_loadMany tN_X2 tK_X2_loadMany) rfl rfl rfl (by decide +kernel) hR rfl (va_recv hK.1 hP (ci := 2) (q0 := 4) rfl rfl) hK hP hS hls hrest hd hc rfl k
def fX2_link (x1 : Int32) (S : St) : Option St :=
    (bd (fX0_nextWord S) fun r1 S1 => (lt ((r1.toInt16.toInt32) : Int32) fun v1 => (bd (fX4_get x1 S1) fun r2 S2 => (bv (fX0_push 2 r2 S2) fun S3 => (bd (fX4_get 15 S3) fun r3 S4 => (bv (fX4_set x1 r3 S4) fun S5 => (bd (fX4_get 15 S5) fun r4 S6 => (bv (fX4_set 15 (r4 + v1) S6) fun S7 => (some S7)))))))))
abbrev rmX2_link : Room := { frames := 2, cells := 0, slots := 0, locals := 48 }
set_option maxRecDepth 100000 in
set_option maxHeartbeats 4000000 in
theorem mX2_link (l : Launch) (D : va_G) (ad : Nat → Nat) (cI cB : ClassId) (en : Nat → Nat) (S : St) (x1 : Int32) (So : St) (hs : fX2_link x1 S = some So) : uM l yX2_link (wg yX2_link cX2_link 3 none) rmX2_link (KB D ad cI cB en) D (wB ad cI cB) (AX 10 ad) [.ref (ad 4), .int x1] S (none, So) := by
  refine uM_start (by decide) rfl ?_
  intro p e s m below meth c hx hb hr hlocks hml hown hts hK hP
  have hT : ∀ w ∈ wG, w.before _ s = true := fun w h => hts w (List.mem_cons_of_mem _ h)
  have hS : va_S (AX 10 ad s.heap.size) s.heap s.heap [] := va_S.rf
  have hown : s.vm.findClass RX2 = some m.cls := hown
  have C : CallFix p m c cX2_link 3 s _ wG RX2 := ⟨hx, hb, hml, hown, hT⟩
  have hl := lv_entry ([.ref (ad 4), .int x1]) (n := 3) (Nat.le_of_ble_eq_true rfl)
  rw [lg_entry_eq]
  generalize (lg_sl ([.ref (ad 4), .int x1]) ++ List.replicate (3 - (lg_sl ([.ref (ad 4), .int x1])).length) Slot.unset).toArray = ls at hl ⊢
  have hl : lv_has ls 3 [(0, .ref (ad 4)), (1, .int x1)] := hl
  unfold fX2_link at hs
  refine lv_aload_n hx hb dX2_link_0 rfl (lv_at hl 0 rfl) ?_
  refine gB_X2_access hx hb hT hown hK hP (hT _ tF_X2_15) dX2_link_1 ?_
  obtain ⟨r1, S1, h1, hs⟩ := bd_e hs
  refine kX0_nextWord C tM_X2_127 ⟨Nat.le_of_ble_eq_true rfl, Nat.le_of_ble_eq_true rfl⟩ ⟨Nat.le_of_ble_eq_true rfl, Nat.le_of_ble_eq_true rfl⟩ hK hP hS hl.1 (rest := []) (Nat.le_of_ble_eq_true rfl) dX2_link_4 h1 (fun H locs hP hS => ?_)
  refine lv_i2s (v := (r1.toInt16.toInt32)) hx hb dX2_link_7 rfl ?_
  obtain ⟨v1, h2, hs⟩ := lt_e hs
  refine u_top h2 ?_
  refine lv_istore_n (lv' := [(2, .int v1), (0, .ref (ad 4)), (1, .int x1)]) hx hb dX2_link_8 rfl hl (by decide) rfl (fun ls hl => ?_)
  refine lv_aload_n hx hb dX2_link_9 rfl (lv_at hl 1 rfl) ?_
  refine gB_X2_access hx hb hT hown hK hP (hT _ tF_X2_15) dX2_link_10 ?_
  refine gS_LONG hx hb hown hK hS (hT _ tF_X2_46) dX2_link_13 ?_
  refine lv_aload_n hx hb dX2_link_16 rfl (lv_at hl 1 rfl) ?_
  refine gB_X2_registers hx hb hT hown hK hP (hT _ tF_X2_9) dX2_link_17 ?_
  refine lv_iload_n hx hb dX2_link_20 rfl (lv_at hl 2 rfl) ?_
  obtain ⟨r2, S2, h3, hs⟩ := bd_e hs
  refine kX4_get C tM_X2_124 ⟨Nat.le_of_ble_eq_true rfl, Nat.le_of_ble_eq_true rfl⟩ ⟨Nat.le_of_ble_eq_true rfl, Nat.le_of_ble_eq_true rfl⟩ hK hP hS hl.1 (rest := [.ref (en 2), .ref (ad 3)]) (Nat.le_of_ble_eq_true rfl) dX2_link_21 h3 (fun H locs hP hS => ?_)
  obtain ⟨S3, h4, hs⟩ := bv_e hs
  refine kX0_push C tM_X2_249 ⟨Nat.le_of_ble_eq_true rfl, Nat.le_of_ble_eq_true rfl⟩ ⟨Nat.le_of_ble_eq_true rfl, Nat.le_of_ble_eq_true rfl⟩ hK hP hS hl.1 (rest := []) (Nat.le_of_ble_eq_true rfl) dX2_link_24 h4 (fun H locs hP hS => ?_)
  refine lv_aload_n hx hb dX2_link_27 rfl (lv_at hl 1 rfl) ?_
  refine gB_X2_registers hx hb hT hown hK hP (hT _ tF_X2_9) dX2_link_28 ?_
  refine lv_iload_n hx hb dX2_link_31 rfl (lv_at hl 2 rfl) ?_
  refine lv_aload_n hx hb dX2_link_32 rfl (lv_at hl 1 rfl) ?_
  refine gB_X2_registers hx hb hT hown hK hP (hT _ tF_X2_9) dX2_link_33 ?_
  refine lv_bipush (v := 15) hx hb dX2_link_36 (by decide) ?_
  obtain ⟨r3, S4, h5, hs⟩ := bd_e hs
  refine kX4_get C tM_X2_124 ⟨Nat.le_of_ble_eq_true rfl, Nat.le_of_ble_eq_true rfl⟩ ⟨Nat.le_of_ble_eq_true rfl, Nat.le_of_ble_eq_true rfl⟩ hK hP hS hl.1 (rest := [.int x1, .ref (ad 2)]) (Nat.le_of_ble_eq_true rfl) dX2_link_38 h5 (fun H locs hP hS => ?_)
  obtain ⟨S5, h6, hs⟩ := bv_e hs
  refine kX4_set C tM_X2_143 ⟨Nat.le_of_ble_eq_true rfl, Nat.le_of_ble_eq_true rfl⟩ ⟨Nat.le_of_ble_eq_true rfl, Nat.le_of_ble_eq_true rfl⟩ hK hP hS hl.1 (rest := []) (Nat.le_of_ble_eq_true rfl) dX2_link_41 h6 (fun H locs hP hS => ?_)
  refine lv_aload_n hx hb dX2_link_44 rfl (lv_at hl 1 rfl) ?_
  refine gB_X2_registers hx hb hT hown hK hP (hT _ tF_X2_9) dX2_link_45 ?_
  refine lv_bipush (v := 15) hx hb dX2_link_48 (by decide) ?_
  refine lv_aload_n hx hb dX2_link_50 rfl (lv_at hl 1 rfl) ?_
  refine gB_X2_registers hx hb hT hown hK hP (hT _ tF_X2_9) dX2_link_51 ?_
  refine lv_bipush (v := 15) hx hb dX2_link_54 (by decide) ?_
  obtain ⟨r4, S6, h7, hs⟩ := bd_e hs
  refine kX4_get C tM_X2_124 ⟨Nat.le_of_ble_eq_true rfl, Nat.le_of_ble_eq_true rfl⟩ ⟨Nat.le_of_ble_eq_true rfl, Nat.le_of_ble_eq_true rfl⟩ hK hP hS hl.1 (rest := [.int 15, .ref (ad 2)]) (Nat.le_of_ble_eq_true rfl) dX2_link_56 h7 (fun H locs hP hS => ?_)
  refine lv_iload_n hx hb dX2_link_59 rfl (lv_at hl 0 rfl) ?_
  refine lv_iadd hx hb dX2_link_60 ?_
  obtain ⟨S7, h8, hs⟩ := bv_e hs
  refine kX4_set C tM_X2_143 ⟨Nat.le_of_ble_eq_true rfl, Nat.le_of_ble_eq_true rfl⟩ ⟨Nat.le_of_ble_eq_true rfl, Nat.le_of_ble_eq_true rfl⟩ hK hP hS hl.1 (rest := []) (Nat.le_of_ble_eq_true rfl) dX2_link_61 h8 (fun H locs hP hS => ?_)
  exact u_vret hx hb hr hlocks hP hS hs dX2_link_64
theorem kX2_link {p : Program} {l : Launch} {e : Env} {R : Room} {s : State} {m : MethodId} {args : Array Value} {below : List Frame} {meth : Method} {c : Code} {H : Heap} {locs : List Loc} {cells slots : Nat} {Q : State → Prop} {cc : ByteArray} {pc nL : Nat} {ls : Array Slot} {rest : List Value} {D : va_G} {ad : Nat → Nat} {cI cB : ClassId} {en : Nat → Nat} {S : St} {own : String} {index : Nat} {x1 : Int32} {So : St} (C : CallFix p m c cc nL s args wG own) (hlk : Cond.methodLink own index yX2_link ∈ wG) (hR : rmX2_link.frames + 1 ≤ R.frames ∧ 8 + (3 + 11) + rmX2_link.locals ≤ R.locals) (hc : cells ≤ R.cells ∧ slots ≤ R.slots) (hK : KB D ad cI cB en s) (hP : va_P D vwCl (wB ad cI cB S) H) (hS : va_S (AX 10 ad s.heap.size) s.heap H locs) (hls : ls.size = nL) (hrest : (rest.map fun v => v.category).sum ≤ 8) (hd : decode cc pc = .ok (.invokevirtual index, 3)) (hs : fX2_link x1 S = some So) (k : ∀ (H : Heap) (locs : List Loc), va_P D vwCl (wB ad cI cB So) H → va_S (AX 10 ad s.heap.size) s.heap H locs → W p l e R s m args below meth c H locs cells slots Q (F0 m (pc + 3) ls (rest))) : W p l e R s m args below meth c H locs cells slots Q (F0 m pc ls (.int x1 :: .ref (ad 4) :: rest)) :=
  u_callV (n := 1) (mX2_link l D ad cI cB en S x1 So hs) C uK_B (wg_V hlk tI_X2_link tS_X2_link tN_X2 tK_X2_link) rfl rfl rfl (by decide +kernel) hR rfl (va_recv hK.1 hP (ci := 2) (q0 := 4) rfl rfl) hK hP hS hls hrest hd hc rfl k
def fX2_unlink (x1 : Int32) (S : St) : Option St :=
    (bd (fX4_get x1 S) fun r1 S1 => (bv (fX4_set 15 r1 S1) fun S2 => (bd (fX0_pop 2 S2) fun r2 S3 => (bv (fX4_set x1 r2 S3) fun S4 => (some S4)))))
abbrev rmX2_unlink : Room := { frames := 2, cells := 0, slots := 0, locals := 46 }
set_option maxRecDepth 100000 in
set_option maxHeartbeats 4000000 in
theorem mX2_unlink (l : Launch) (D : va_G) (ad : Nat → Nat) (cI cB : ClassId) (en : Nat → Nat) (S : St) (x1 : Int32) (So : St) (hs : fX2_unlink x1 S = some So) : uM l yX2_unlink (wg yX2_unlink cX2_unlink 2 none) rmX2_unlink (KB D ad cI cB en) D (wB ad cI cB) (AX 10 ad) [.ref (ad 4), .int x1] S (none, So) := by
  refine uM_start (by decide) rfl ?_
  intro p e s m below meth c hx hb hr hlocks hml hown hts hK hP
  have hT : ∀ w ∈ wG, w.before _ s = true := fun w h => hts w (List.mem_cons_of_mem _ h)
  have hS : va_S (AX 10 ad s.heap.size) s.heap s.heap [] := va_S.rf
  have hown : s.vm.findClass RX2 = some m.cls := hown
  have C : CallFix p m c cX2_unlink 2 s _ wG RX2 := ⟨hx, hb, hml, hown, hT⟩
  have hl := lv_entry ([.ref (ad 4), .int x1]) (n := 2) (Nat.le_of_ble_eq_true rfl)
  rw [lg_entry_eq]
  generalize (lg_sl ([.ref (ad 4), .int x1]) ++ List.replicate (2 - (lg_sl ([.ref (ad 4), .int x1])).length) Slot.unset).toArray = ls at hl ⊢
  have hl : lv_has ls 2 [(0, .ref (ad 4)), (1, .int x1)] := hl
  unfold fX2_unlink at hs
  refine lv_aload_n hx hb dX2_unlink_0 rfl (lv_at hl 0 rfl) ?_
  refine gB_X2_registers hx hb hT hown hK hP (hT _ tF_X2_9) dX2_unlink_1 ?_
  refine lv_bipush (v := 15) hx hb dX2_unlink_4 (by decide) ?_
  refine lv_aload_n hx hb dX2_unlink_6 rfl (lv_at hl 0 rfl) ?_
  refine gB_X2_registers hx hb hT hown hK hP (hT _ tF_X2_9) dX2_unlink_7 ?_
  refine lv_iload_n hx hb dX2_unlink_10 rfl (lv_at hl 1 rfl) ?_
  obtain ⟨r1, S1, h1, hs⟩ := bd_e hs
  refine kX4_get C tM_X2_124 ⟨Nat.le_of_ble_eq_true rfl, Nat.le_of_ble_eq_true rfl⟩ ⟨Nat.le_of_ble_eq_true rfl, Nat.le_of_ble_eq_true rfl⟩ hK hP hS hl.1 (rest := [.int 15, .ref (ad 2)]) (Nat.le_of_ble_eq_true rfl) dX2_unlink_11 h1 (fun H locs hP hS => ?_)
  obtain ⟨S2, h2, hs⟩ := bv_e hs
  refine kX4_set C tM_X2_143 ⟨Nat.le_of_ble_eq_true rfl, Nat.le_of_ble_eq_true rfl⟩ ⟨Nat.le_of_ble_eq_true rfl, Nat.le_of_ble_eq_true rfl⟩ hK hP hS hl.1 (rest := []) (Nat.le_of_ble_eq_true rfl) dX2_unlink_14 h2 (fun H locs hP hS => ?_)
  refine lv_aload_n hx hb dX2_unlink_17 rfl (lv_at hl 0 rfl) ?_
  refine gB_X2_registers hx hb hT hown hK hP (hT _ tF_X2_9) dX2_unlink_18 ?_
  refine lv_iload_n hx hb dX2_unlink_21 rfl (lv_at hl 1 rfl) ?_
  refine lv_aload_n hx hb dX2_unlink_22 rfl (lv_at hl 0 rfl) ?_
  refine gB_X2_access hx hb hT hown hK hP (hT _ tF_X2_15) dX2_unlink_23 ?_
  refine gS_LONG hx hb hown hK hS (hT _ tF_X2_46) dX2_unlink_26 ?_
  obtain ⟨r2, S3, h3, hs⟩ := bd_e hs
  refine kX0_pop C tM_X2_281 ⟨Nat.le_of_ble_eq_true rfl, Nat.le_of_ble_eq_true rfl⟩ ⟨Nat.le_of_ble_eq_true rfl, Nat.le_of_ble_eq_true rfl⟩ hK hP hS hl.1 (rest := [.int x1, .ref (ad 2)]) (Nat.le_of_ble_eq_true rfl) dX2_unlink_29 h3 (fun H locs hP hS => ?_)
  obtain ⟨S4, h4, hs⟩ := bv_e hs
  refine kX4_set C tM_X2_143 ⟨Nat.le_of_ble_eq_true rfl, Nat.le_of_ble_eq_true rfl⟩ ⟨Nat.le_of_ble_eq_true rfl, Nat.le_of_ble_eq_true rfl⟩ hK hP hS hl.1 (rest := []) (Nat.le_of_ble_eq_true rfl) dX2_unlink_32 h4 (fun H locs hP hS => ?_)
  exact u_vret hx hb hr hlocks hP hS hs dX2_unlink_35
theorem kX2_unlink {p : Program} {l : Launch} {e : Env} {R : Room} {s : State} {m : MethodId} {args : Array Value} {below : List Frame} {meth : Method} {c : Code} {H : Heap} {locs : List Loc} {cells slots : Nat} {Q : State → Prop} {cc : ByteArray} {pc nL : Nat} {ls : Array Slot} {rest : List Value} {D : va_G} {ad : Nat → Nat} {cI cB : ClassId} {en : Nat → Nat} {S : St} {own : String} {index : Nat} {x1 : Int32} {So : St} (C : CallFix p m c cc nL s args wG own) (hlk : Cond.methodLink own index yX2_unlink ∈ wG) (hR : rmX2_unlink.frames + 1 ≤ R.frames ∧ 8 + (2 + 11) + rmX2_unlink.locals ≤ R.locals) (hc : cells ≤ R.cells ∧ slots ≤ R.slots) (hK : KB D ad cI cB en s) (hP : va_P D vwCl (wB ad cI cB S) H) (hS : va_S (AX 10 ad s.heap.size) s.heap H locs) (hls : ls.size = nL) (hrest : (rest.map fun v => v.category).sum ≤ 8) (hd : decode cc pc = .ok (.invokevirtual index, 3)) (hs : fX2_unlink x1 S = some So) (k : ∀ (H : Heap) (locs : List Loc), va_P D vwCl (wB ad cI cB So) H → va_S (AX 10 ad s.heap.size) s.heap H locs → W p l e R s m args below meth c H locs cells slots Q (F0 m (pc + 3) ls (rest))) : W p l e R s m args below meth c H locs cells slots Q (F0 m pc ls (.int x1 :: .ref (ad 4) :: rest)) :=
  u_callV (n := 1) (mX2_unlink l D ad cI cB en S x1 So hs) C uK_B (wg_V hlk tI_X2_unlink tS_X2_unlink tN_X2 tK_X2_unlink) rfl rfl rfl (by decide +kernel) hR rfl (va_recv hK.1 hP (ci := 2) (q0 := 4) rfl rfl) hK hP hS hls hrest hd hc rfl k
def fX2_alone (x1 : Int32) (S : St) : Option St :=
    (if x1 = 0 then (bd (fX2_permitted S) fun b1 S1 => (some S1))
    else (if x1 = 1 then (some S)
    else (if x1 = 2 then (bd (fX2_permitted S) fun b2 S2 => (if (zI b2) = 0 then (some S2)
    else (bd (fX0_nextWord S2) fun r1 S3 => (bv (fX4_setStatus r1 S3) fun S4 => (lt (sZ S4 0 true) fun S5 => (some S5))))))
    else (if x1 = 3 then (bd (fX2_permitted S) fun b3 S6 => (if (zI b3) = 0 then (some S6)
    else (bd (fX0_pop 1 S6) fun r2 S7 => (bd (fX0_pop 2 S7) fun r3 S8 => (lt (sI S8 2 r3) fun S9 => (bv (fX4_setStatus r2 S9) fun S10 => (some S10)))))))
    else (if x1 = 5 then (bd (fX0_pop 2 S) fun r4 S11 => (lt (sI S11 2 r4) fun S12 => (some S12)))
    else (if x1 = 6 then (bd (fX4_has 2 S) fun b4 S13 => (if (zI b4) = 0 then (some S13)
    else (bv (fX0_raise 7 S13) fun S14 => (some S14))))
    else (if x1 = 7 then (bd (fX0_pop 1 S) fun r5 S15 => (bv (fX4_setFlags r5 S15) fun S16 => (bd (fX0_pop 2 S16) fun r6 S17 => (lt (sI S17 2 r6) fun S18 => (some S18)))))
    else (bv (fX2_illegal S) fun S19 => (some S19)))))))))
abbrev rmX2_alone : Room := { frames := 2, cells := 0, slots := 0, locals := 46 }
set_option maxRecDepth 100000 in
set_option maxHeartbeats 4000000 in
theorem mX2_alone (l : Launch) (D : va_G) (ad : Nat → Nat) (cI cB : ClassId) (en : Nat → Nat) (S : St) (x1 : Int32) (So : St) (hs : fX2_alone x1 S = some So) : uM l yX2_alone (wg yX2_alone cX2_alone 3 none) rmX2_alone (KB D ad cI cB en) D (wB ad cI cB) (AX 10 ad) [.ref (ad 4), .int x1] S (none, So) := by
  refine uM_start (by decide) rfl ?_
  intro p e s m below meth c hx hb hr hlocks hml hown hts hK hP
  have hT : ∀ w ∈ wG, w.before _ s = true := fun w h => hts w (List.mem_cons_of_mem _ h)
  have hS : va_S (AX 10 ad s.heap.size) s.heap s.heap [] := va_S.rf
  have hown : s.vm.findClass RX2 = some m.cls := hown
  have C : CallFix p m c cX2_alone 3 s _ wG RX2 := ⟨hx, hb, hml, hown, hT⟩
  have hl := lv_entry ([.ref (ad 4), .int x1]) (n := 3) (Nat.le_of_ble_eq_true rfl)
  rw [lg_entry_eq]
  generalize (lg_sl ([.ref (ad 4), .int x1]) ++ List.replicate (3 - (lg_sl ([.ref (ad 4), .int x1])).length) Slot.unset).toArray = ls at hl ⊢
  have hl : lv_has ls 3 [(0, .ref (ad 4)), (1, .int x1)] := hl
  unfold fX2_alone at hs
  refine lv_iload_n hx hb dX2_alone_0 rfl (lv_at hl 1 rfl) ?_
  by_cases c1 : x1 = 0
  · have hs := if_t c1 hs
    refine u_table (k := 0) (a := 0) (off := 47) (tgt := 48) hx hb dX2_alone_1 c1 (by decide) (by decide) (by decide) (by decide) (by decide) ?_
    refine lv_aload_n hx hb dX2_alone_48 rfl (lv_at hl 0 rfl) ?_
    obtain ⟨b1, S1, h1, hs⟩ := bd_e hs
    refine kX2_permitted C tM_X2_165 ⟨Nat.le_of_ble_eq_true rfl, Nat.le_of_ble_eq_true rfl⟩ ⟨Nat.le_of_ble_eq_true rfl, Nat.le_of_ble_eq_true rfl⟩ hK hP hS hl.1 (rest := []) (Nat.le_of_ble_eq_true rfl) dX2_alone_49 h1 (fun H locs hP hS => ?_)
    refine lv_pop hx hb dX2_alone_52 rfl ?_
    refine lv_goto (tgt := 218) hx hb dX2_alone_53 (by decide) ?_
    exact u_vret hx hb hr hlocks hP hS hs dX2_alone_218
  have hs := if_f c1 hs
  by_cases c2 : x1 = 1
  · have hs := if_t c2 hs
    refine u_table (k := 1) (a := 1) (off := 55) (tgt := 56) hx hb dX2_alone_1 c2 (by decide) (by decide) (by decide) (by decide) (by decide) ?_
    refine lv_goto (tgt := 218) hx hb dX2_alone_56 (by decide) ?_
    exact u_vret hx hb hr hlocks hP hS hs dX2_alone_218
  have hs := if_f c2 hs
  by_cases c3 : x1 = 2
  · have hs := if_t c3 hs
    refine u_table (k := 2) (a := 2) (off := 58) (tgt := 59) hx hb dX2_alone_1 c3 (by decide) (by decide) (by decide) (by decide) (by decide) ?_
    refine lv_aload_n hx hb dX2_alone_59 rfl (lv_at hl 0 rfl) ?_
    obtain ⟨b2, S2, h2, hs⟩ := bd_e hs
    refine kX2_permitted C tM_X2_165 ⟨Nat.le_of_ble_eq_true rfl, Nat.le_of_ble_eq_true rfl⟩ ⟨Nat.le_of_ble_eq_true rfl, Nat.le_of_ble_eq_true rfl⟩ hK hP hS hl.1 (rest := []) (Nat.le_of_ble_eq_true rfl) dX2_alone_60 h2 (fun H locs hP hS => ?_)
    refine lv_if_eq (tgt := 218) hx hb dX2_alone_63 (by decide) (fun c4 => ?_) (fun c4 => ?_)
    · have hs := if_t c4 hs
      exact u_vret hx hb hr hlocks hP hS hs dX2_alone_218
    · have hs := if_f c4 hs
      refine lv_aload_n hx hb dX2_alone_66 rfl (lv_at hl 0 rfl) ?_
      refine gB_X2_registers hx hb hT hown hK hP (hT _ tF_X2_9) dX2_alone_67 ?_
      refine lv_aload_n hx hb dX2_alone_70 rfl (lv_at hl 0 rfl) ?_
      refine gB_X2_access hx hb hT hown hK hP (hT _ tF_X2_15) dX2_alone_71 ?_
      obtain ⟨r1, S3, h3, hs⟩ := bd_e hs
      refine kX0_nextWord C tM_X2_127 ⟨Nat.le_of_ble_eq_true rfl, Nat.le_of_ble_eq_true rfl⟩ ⟨Nat.le_of_ble_eq_true rfl, Nat.le_of_ble_eq_true rfl⟩ hK hP hS hl.1 (rest := [.ref (ad 2)]) (Nat.le_of_ble_eq_true rfl) dX2_alone_74 h3 (fun H locs hP hS => ?_)
      obtain ⟨S4, h4, hs⟩ := bv_e hs
      refine kX4_setStatus C tM_X2_172 ⟨Nat.le_of_ble_eq_true rfl, Nat.le_of_ble_eq_true rfl⟩ ⟨Nat.le_of_ble_eq_true rfl, Nat.le_of_ble_eq_true rfl⟩ hK hP hS hl.1 (rest := []) (Nat.le_of_ble_eq_true rfl) dX2_alone_77 h4 (fun H locs hP hS => ?_)
      refine lv_aload_n hx hb dX2_alone_80 rfl (lv_at hl 0 rfl) ?_
      refine lv_iconst (v := 1) hx hb dX2_alone_81 (by decide) ?_
      obtain ⟨S5, h5, hs⟩ := lt_e hs
      refine pB_X2_stopping hx hb hT hown hK hP hS (hT _ tF_X2_28) dX2_alone_82 (v := true) h5 (fun H locs hP hS => ?_)
      refine lv_goto (tgt := 218) hx hb dX2_alone_85 (by decide) ?_
      exact u_vret hx hb hr hlocks hP hS hs dX2_alone_218
  have hs := if_f c3 hs
  by_cases c5 : x1 = 3
  · have hs := if_t c5 hs
    refine u_table (k := 3) (a := 3) (off := 87) (tgt := 88) hx hb dX2_alone_1 c5 (by decide) (by decide) (by decide) (by decide) (by decide) ?_
    refine lv_aload_n hx hb dX2_alone_88 rfl (lv_at hl 0 rfl) ?_
    obtain ⟨b3, S6, h6, hs⟩ := bd_e hs
    refine kX2_permitted C tM_X2_165 ⟨Nat.le_of_ble_eq_true rfl, Nat.le_of_ble_eq_true rfl⟩ ⟨Nat.le_of_ble_eq_true rfl, Nat.le_of_ble_eq_true rfl⟩ hK hP hS hl.1 (rest := []) (Nat.le_of_ble_eq_true rfl) dX2_alone_89 h6 (fun H locs hP hS => ?_)
    refine lv_if_eq (tgt := 218) hx hb dX2_alone_92 (by decide) (fun c6 => ?_) (fun c6 => ?_)
    · have hs := if_t c6 hs
      exact u_vret hx hb hr hlocks hP hS hs dX2_alone_218
    · have hs := if_f c6 hs
      refine lv_aload_n hx hb dX2_alone_95 rfl (lv_at hl 0 rfl) ?_
      refine gB_X2_access hx hb hT hown hK hP (hT _ tF_X2_15) dX2_alone_96 ?_
      refine gS_WORD hx hb hown hK hS (hT _ tF_X2_49) dX2_alone_99 ?_
      obtain ⟨r2, S7, h7, hs⟩ := bd_e hs
      refine kX0_pop C tM_X2_281 ⟨Nat.le_of_ble_eq_true rfl, Nat.le_of_ble_eq_true rfl⟩ ⟨Nat.le_of_ble_eq_true rfl, Nat.le_of_ble_eq_true rfl⟩ hK hP hS hl.1 (rest := []) (Nat.le_of_ble_eq_true rfl) dX2_alone_102 h7 (fun H locs hP hS => ?_)
      refine lv_istore_n (lv' := [(2, .int r2), (0, .ref (ad 4)), (1, .int x1)]) hx hb dX2_alone_105 rfl hl (by decide) rfl (fun ls hl => ?_)
      refine lv_aload_n hx hb dX2_alone_106 rfl (lv_at hl 1 rfl) ?_
      refine gB_X2_registers hx hb hT hown hK hP (hT _ tF_X2_9) dX2_alone_107 ?_
      refine lv_aload_n hx hb dX2_alone_110 rfl (lv_at hl 1 rfl) ?_
      refine gB_X2_access hx hb hT hown hK hP (hT _ tF_X2_15) dX2_alone_111 ?_
      refine gS_LONG hx hb hown hK hS (hT _ tF_X2_46) dX2_alone_114 ?_
      obtain ⟨r3, S8, h8, hs⟩ := bd_e hs
      refine kX0_pop C tM_X2_281 ⟨Nat.le_of_ble_eq_true rfl, Nat.le_of_ble_eq_true rfl⟩ ⟨Nat.le_of_ble_eq_true rfl, Nat.le_of_ble_eq_true rfl⟩ hK hP hS hl.1 (rest := [.ref (ad 2)]) (Nat.le_of_ble_eq_true rfl) dX2_alone_117 h8 (fun H locs hP hS => ?_)
      obtain ⟨S9, h9, hs⟩ := lt_e hs
      refine pB_X4_pc hx hb hT hown hK hP hS (hT _ tF_X2_284) dX2_alone_120 (v := r3) h9 (fun H locs hP hS => ?_)
      refine lv_aload_n hx hb dX2_alone_123 rfl (lv_at hl 1 rfl) ?_
      refine gB_X2_registers hx hb hT hown hK hP (hT _ tF_X2_9) dX2_alone_124 ?_
      refine lv_iload_n hx hb dX2_alone_127 rfl (lv_at hl 0 rfl) ?_
      obtain ⟨S10, h10, hs⟩ := bv_e hs
      refine kX4_setStatus C tM_X2_172 ⟨Nat.le_of_ble_eq_true rfl, Nat.le_of_ble_eq_true rfl⟩ ⟨Nat.le_of_ble_eq_true rfl, Nat.le_of_ble_eq_true rfl⟩ hK hP hS hl.1 (rest := []) (Nat.le_of_ble_eq_true rfl) dX2_alone_128 h10 (fun H locs hP hS => ?_)
      refine lv_goto (tgt := 218) hx hb dX2_alone_131 (by decide) ?_
      exact u_vret hx hb hr hlocks hP hS hs dX2_alone_218
  have hs := if_f c5 hs
  by_cases c7 : x1 = 5
  · have hs := if_t c7 hs
    refine u_table (k := 5) (a := 5) (off := 133) (tgt := 134) hx hb dX2_alone_1 c7 (by decide) (by decide) (by decide) (by decide) (by decide) ?_
    refine lv_aload_n hx hb dX2_alone_134 rfl (lv_at hl 0 rfl) ?_
    refine gB_X2_registers hx hb hT hown hK hP (hT _ tF_X2_9) dX2_alone_135 ?_
    refine lv_aload_n hx hb dX2_alone_138 rfl (lv_at hl 0 rfl) ?_
    refine gB_X2_access hx hb hT hown hK hP (hT _ tF_X2_15) dX2_alone_139 ?_
    refine gS_LONG hx hb hown hK hS (hT _ tF_X2_46) dX2_alone_142 ?_
    obtain ⟨r4, S11, h11, hs⟩ := bd_e hs
    refine kX0_pop C tM_X2_281 ⟨Nat.le_of_ble_eq_true rfl, Nat.le_of_ble_eq_true rfl⟩ ⟨Nat.le_of_ble_eq_true rfl, Nat.le_of_ble_eq_true rfl⟩ hK hP hS hl.1 (rest := [.ref (ad 2)]) (Nat.le_of_ble_eq_true rfl) dX2_alone_145 h11 (fun H locs hP hS => ?_)
    obtain ⟨S12, h12, hs⟩ := lt_e hs
    refine pB_X4_pc hx hb hT hown hK hP hS (hT _ tF_X2_284) dX2_alone_148 (v := r4) h12 (fun H locs hP hS => ?_)
    refine lv_goto (tgt := 218) hx hb dX2_alone_151 (by decide) ?_
    exact u_vret hx hb hr hlocks hP hS hs dX2_alone_218
  have hs := if_f c7 hs
  by_cases c8 : x1 = 6
  · have hs := if_t c8 hs
    refine u_table (k := 6) (a := 6) (off := 153) (tgt := 154) hx hb dX2_alone_1 c8 (by decide) (by decide) (by decide) (by decide) (by decide) ?_
    refine lv_aload_n hx hb dX2_alone_154 rfl (lv_at hl 0 rfl) ?_
    refine gB_X2_registers hx hb hT hown hK hP (hT _ tF_X2_9) dX2_alone_155 ?_
    refine lv_iconst (v := 2) hx hb dX2_alone_158 (by decide) ?_
    obtain ⟨b4, S13, h13, hs⟩ := bd_e hs
    refine kX4_has C tM_X2_89 ⟨Nat.le_of_ble_eq_true rfl, Nat.le_of_ble_eq_true rfl⟩ ⟨Nat.le_of_ble_eq_true rfl, Nat.le_of_ble_eq_true rfl⟩ hK hP hS hl.1 (rest := []) (Nat.le_of_ble_eq_true rfl) dX2_alone_159 h13 (fun H locs hP hS => ?_)
    refine lv_if_eq (tgt := 218) hx hb dX2_alone_162 (by decide) (fun c9 => ?_) (fun c9 => ?_)
    · have hs := if_t c9 hs
      exact u_vret hx hb hr hlocks hP hS hs dX2_alone_218
    · have hs := if_f c9 hs
      refine lv_aload_n hx hb dX2_alone_165 rfl (lv_at hl 0 rfl) ?_
      refine gB_X2_access hx hb hT hown hK hP (hT _ tF_X2_15) dX2_alone_166 ?_
      refine lv_bipush (v := 7) hx hb dX2_alone_169 (by decide) ?_
      obtain ⟨S14, h14, hs⟩ := bv_e hs
      refine kX0_raise C tM_X2_71 ⟨Nat.le_of_ble_eq_true rfl, Nat.le_of_ble_eq_true rfl⟩ ⟨Nat.le_of_ble_eq_true rfl, Nat.le_of_ble_eq_true rfl⟩ hK hP hS hl.1 (rest := []) (Nat.le_of_ble_eq_true rfl) dX2_alone_171 h14 (fun H locs hP hS => ?_)
      refine lv_goto (tgt := 218) hx hb dX2_alone_174 (by decide) ?_
      exact u_vret hx hb hr hlocks hP hS hs dX2_alone_218
  have hs := if_f c8 hs
  by_cases c10 : x1 = 7
  · have hs := if_t c10 hs
    refine u_table (k := 7) (a := 7) (off := 176) (tgt := 177) hx hb dX2_alone_1 c10 (by decide) (by decide) (by decide) (by decide) (by decide) ?_
    refine lv_aload_n hx hb dX2_alone_177 rfl (lv_at hl 0 rfl) ?_
    refine gB_X2_registers hx hb hT hown hK hP (hT _ tF_X2_9) dX2_alone_178 ?_
    refine lv_aload_n hx hb dX2_alone_181 rfl (lv_at hl 0 rfl) ?_
    refine gB_X2_access hx hb hT hown hK hP (hT _ tF_X2_15) dX2_alone_182 ?_
    refine gS_WORD hx hb hown hK hS (hT _ tF_X2_49) dX2_alone_185 ?_
    obtain ⟨r5, S15, h15, hs⟩ := bd_e hs
    refine kX0_pop C tM_X2_281 ⟨Nat.le_of_ble_eq_true rfl, Nat.le_of_ble_eq_true rfl⟩ ⟨Nat.le_of_ble_eq_true rfl, Nat.le_of_ble_eq_true rfl⟩ hK hP hS hl.1 (rest := [.ref (ad 2)]) (Nat.le_of_ble_eq_true rfl) dX2_alone_188 h15 (fun H locs hP hS => ?_)
    obtain ⟨S16, h16, hs⟩ := bv_e hs
    refine kX4_setFlags C tM_X2_175 ⟨Nat.le_of_ble_eq_true rfl, Nat.le_of_ble_eq_true rfl⟩ ⟨Nat.le_of_ble_eq_true rfl, Nat.le_of_ble_eq_true rfl⟩ hK hP hS hl.1 (rest := []) (Nat.le_of_ble_eq_true rfl) dX2_alone_191 h16 (fun H locs hP hS => ?_)
    refine lv_aload_n hx hb dX2_alone_194 rfl (lv_at hl 0 rfl) ?_
    refine gB_X2_registers hx hb hT hown hK hP (hT _ tF_X2_9) dX2_alone_195 ?_
    refine lv_aload_n hx hb dX2_alone_198 rfl (lv_at hl 0 rfl) ?_
    refine gB_X2_access hx hb hT hown hK hP (hT _ tF_X2_15) dX2_alone_199 ?_
    refine gS_LONG hx hb hown hK hS (hT _ tF_X2_46) dX2_alone_202 ?_
    obtain ⟨r6, S17, h17, hs⟩ := bd_e hs
    refine kX0_pop C tM_X2_281 ⟨Nat.le_of_ble_eq_true rfl, Nat.le_of_ble_eq_true rfl⟩ ⟨Nat.le_of_ble_eq_true rfl, Nat.le_of_ble_eq_true rfl⟩ hK hP hS hl.1 (rest := [.ref (ad 2)]) (Nat.le_of_ble_eq_true rfl) dX2_alone_205 h17 (fun H locs hP hS => ?_)
    obtain ⟨S18, h18, hs⟩ := lt_e hs
    refine pB_X4_pc hx hb hT hown hK hP hS (hT _ tF_X2_284) dX2_alone_208 (v := r6) h18 (fun H locs hP hS => ?_)
    refine lv_goto (tgt := 218) hx hb dX2_alone_211 (by decide) ?_
    exact u_vret hx hb hr hlocks hP hS hs dX2_alone_218
  have hs := if_f c10 hs
  refine u_tableD (tgt := 214) hx hb dX2_alone_1 (fun hlo hhi => ?_) (by decide) ?_
  · have hz : (x1).toInt = 0 ∨ (x1).toInt = 1 ∨ (x1).toInt = 2 ∨ (x1).toInt = 3 ∨ (x1).toInt = 4 ∨ (x1).toInt = 5 ∨ (x1).toInt = 6 ∨ (x1).toInt = 7 := by omega
    rcases hz with hz | hz | hz | hz | hz | hz | hz | hz
    · exact absurd hz (lv_neT c1 (by decide))
    · exact absurd hz (lv_neT c2 (by decide))
    · exact absurd hz (lv_neT c3 (by decide))
    · exact absurd hz (lv_neT c5 (by decide))
    · rw [hz]; decide
    · exact absurd hz (lv_neT c7 (by decide))
    · exact absurd hz (lv_neT c8 (by decide))
    · exact absurd hz (lv_neT c10 (by decide))
  refine lv_aload_n hx hb dX2_alone_214 rfl (lv_at hl 0 rfl) ?_
  obtain ⟨S19, h19, hs⟩ := bv_e hs
  refine kX2_illegal C tM_X2_178 ⟨Nat.le_of_ble_eq_true rfl, Nat.le_of_ble_eq_true rfl⟩ ⟨Nat.le_of_ble_eq_true rfl, Nat.le_of_ble_eq_true rfl⟩ hK hP hS hl.1 (rest := []) (Nat.le_of_ble_eq_true rfl) dX2_alone_215 h19 (fun H locs hP hS => ?_)
  exact u_vret hx hb hr hlocks hP hS hs dX2_alone_218
theorem kX2_alone {p : Program} {l : Launch} {e : Env} {R : Room} {s : State} {m : MethodId} {args : Array Value} {below : List Frame} {meth : Method} {c : Code} {H : Heap} {locs : List Loc} {cells slots : Nat} {Q : State → Prop} {cc : ByteArray} {pc nL : Nat} {ls : Array Slot} {rest : List Value} {D : va_G} {ad : Nat → Nat} {cI cB : ClassId} {en : Nat → Nat} {S : St} {own : String} {index : Nat} {x1 : Int32} {So : St} (C : CallFix p m c cc nL s args wG own) (hlk : Cond.methodLink own index yX2_alone ∈ wG) (hR : rmX2_alone.frames + 1 ≤ R.frames ∧ 8 + (3 + 11) + rmX2_alone.locals ≤ R.locals) (hc : cells ≤ R.cells ∧ slots ≤ R.slots) (hK : KB D ad cI cB en s) (hP : va_P D vwCl (wB ad cI cB S) H) (hS : va_S (AX 10 ad s.heap.size) s.heap H locs) (hls : ls.size = nL) (hrest : (rest.map fun v => v.category).sum ≤ 8) (hd : decode cc pc = .ok (.invokevirtual index, 3)) (hs : fX2_alone x1 S = some So) (k : ∀ (H : Heap) (locs : List Loc), va_P D vwCl (wB ad cI cB So) H → va_S (AX 10 ad s.heap.size) s.heap H locs → W p l e R s m args below meth c H locs cells slots Q (F0 m (pc + 3) ls (rest))) : W p l e R s m args below meth c H locs cells slots Q (F0 m pc ls (.int x1 :: .ref (ad 4) :: rest)) :=
  u_callV (n := 1) (mX2_alone l D ad cI cB en S x1 So hs) C uK_B (wg_V hlk tI_X2_alone tS_X2_alone tN_X2 tK_X2_alone) rfl rfl rfl (by decide +kernel) hR rfl (va_recv hK.1 hP (ci := 2) (q0 := 4) rfl rfl) hK hP hS hls hrest hd hc rfl k
def fX2_special (x1 : Int32) (S : St) : Option St :=
    (bd (fX2_lower x1 S) fun r1 S1 => (lt ((8 + r1) : Int32) fun v1 => (if ((ush x1 3) &&& 7) = 0 then (bv (fX0_raise (32 + (x1 &&& 15)) S1) fun S2 => (some S2))
    else (if ((ush x1 3) &&& 7) = 1 then (bv (fX0_raise (32 + (x1 &&& 15)) S1) fun S3 => (some S3))
    else (if ((ush x1 3) &&& 7) = 2 then (bv (fX2_link v1 S1) fun S4 => (some S4))
    else (if ((ush x1 3) &&& 7) = 3 then (bv (fX2_unlink v1 S1) fun S5 => (some S5))
    else (if ((ush x1 3) &&& 7) = 4 then (bd (fX2_permitted S1) fun b1 S6 => (if (zI b1) = 0 then (some S6)
    else (bd (fX4_get v1 S6) fun r2 S7 => (bv (fX4_setStackOf 0 r2 S7) fun S8 => (some S8)))))
    else (if ((ush x1 3) &&& 7) = 5 then (bd (fX2_permitted S1) fun b2 S9 => (if (zI b2) = 0 then (some S9)
    else (bd (fX4_stackOf 0 S9) fun r3 S10 => (bv (fX4_set v1 r3 S10) fun S11 => (some S11)))))
    else (if ((ush x1 3) &&& 7) = 6 then (bd (fX2_lower x1 S1) fun r4 S12 => (bv (fX2_alone r4 S12) fun S13 => (some S13)))
    else (bv (fX2_illegal S1) fun S14 => (some S14)))))))))))
abbrev rmX2_special : Room := { frames := 3, cells := 0, slots := 0, locals := 70 }
set_option maxRecDepth 100000 in
set_option maxHeartbeats 4000000 in
theorem mX2_special (l : Launch) (D : va_G) (ad : Nat → Nat) (cI cB : ClassId) (en : Nat → Nat) (S : St) (x1 : Int32) (So : St) (hs : fX2_special x1 S = some So) : uM l yX2_special (wg yX2_special cX2_special 3 none) rmX2_special (KB D ad cI cB en) D (wB ad cI cB) (AX 10 ad) [.ref (ad 4), .int x1] S (none, So) := by
  refine uM_start (by decide) rfl ?_
  intro p e s m below meth c hx hb hr hlocks hml hown hts hK hP
  have hT : ∀ w ∈ wG, w.before _ s = true := fun w h => hts w (List.mem_cons_of_mem _ h)
  have hS : va_S (AX 10 ad s.heap.size) s.heap s.heap [] := va_S.rf
  have hown : s.vm.findClass RX2 = some m.cls := hown
  have C : CallFix p m c cX2_special 3 s _ wG RX2 := ⟨hx, hb, hml, hown, hT⟩
  have hl := lv_entry ([.ref (ad 4), .int x1]) (n := 3) (Nat.le_of_ble_eq_true rfl)
  rw [lg_entry_eq]
  generalize (lg_sl ([.ref (ad 4), .int x1]) ++ List.replicate (3 - (lg_sl ([.ref (ad 4), .int x1])).length) Slot.unset).toArray = ls at hl ⊢
  have hl : lv_has ls 3 [(0, .ref (ad 4)), (1, .int x1)] := hl
  unfold fX2_special at hs
  refine lv_bipush (v := 8) hx hb dX2_special_0 (by decide) ?_
  refine lv_iload_n hx hb dX2_special_2 rfl (lv_at hl 1 rfl) ?_
  obtain ⟨r1, S1, h1, hs⟩ := bd_e hs
  refine kX2_lower C tM_X2_121 ⟨Nat.le_of_ble_eq_true rfl, Nat.le_of_ble_eq_true rfl⟩ ⟨Nat.le_of_ble_eq_true rfl, Nat.le_of_ble_eq_true rfl⟩ hK hP hS hl.1 (rest := [.int 8]) (Nat.le_of_ble_eq_true rfl) dX2_special_3 h1 (fun H locs hP hS => ?_)
  refine lv_iadd hx hb dX2_special_6 ?_
  obtain ⟨v1, h2, hs⟩ := lt_e hs
  refine u_top h2 ?_
  refine lv_istore_n (lv' := [(2, .int v1), (0, .ref (ad 4)), (1, .int x1)]) hx hb dX2_special_7 rfl hl (by decide) rfl (fun ls hl => ?_)
  refine lv_iload_n hx hb dX2_special_8 rfl (lv_at hl 2 rfl) ?_
  refine lv_iconst (v := 3) hx hb dX2_special_9 (by decide) ?_
  refine lv_iushr (v := (ush x1 3)) hx hb dX2_special_10 rfl ?_
  refine lv_bipush (v := 7) hx hb dX2_special_11 (by decide) ?_
  refine lv_iand hx hb dX2_special_13 ?_
  by_cases c1 : ((ush x1 3) &&& 7) = 0
  · have hs := if_t c1 hs
    refine u_table (k := 0) (a := 0) (off := 42) (tgt := 56) hx hb dX2_special_14 c1 (by decide) (by decide) (by decide) (by decide) (by decide) ?_
    refine lv_aload_n hx hb dX2_special_56 rfl (lv_at hl 1 rfl) ?_
    refine gB_X2_access hx hb hT hown hK hP (hT _ tF_X2_15) dX2_special_57 ?_
    refine lv_bipush (v := 32) hx hb dX2_special_60 (by decide) ?_
    refine lv_iload_n hx hb dX2_special_62 rfl (lv_at hl 2 rfl) ?_
    refine lv_bipush (v := 15) hx hb dX2_special_63 (by decide) ?_
    refine lv_iand hx hb dX2_special_65 ?_
    refine lv_iadd hx hb dX2_special_66 ?_
    obtain ⟨S2, h3, hs⟩ := bv_e hs
    refine kX0_raise C tM_X2_71 ⟨Nat.le_of_ble_eq_true rfl, Nat.le_of_ble_eq_true rfl⟩ ⟨Nat.le_of_ble_eq_true rfl, Nat.le_of_ble_eq_true rfl⟩ hK hP hS hl.1 (rest := []) (Nat.le_of_ble_eq_true rfl) dX2_special_67 h3 (fun H locs hP hS => ?_)
    refine lv_goto (tgt := 156) hx hb dX2_special_70 (by decide) ?_
    exact u_vret hx hb hr hlocks hP hS hs dX2_special_156
  have hs := if_f c1 hs
  by_cases c2 : ((ush x1 3) &&& 7) = 1
  · have hs := if_t c2 hs
    refine u_table (k := 1) (a := 1) (off := 42) (tgt := 56) hx hb dX2_special_14 c2 (by decide) (by decide) (by decide) (by decide) (by decide) ?_
    refine lv_aload_n hx hb dX2_special_56 rfl (lv_at hl 1 rfl) ?_
    refine gB_X2_access hx hb hT hown hK hP (hT _ tF_X2_15) dX2_special_57 ?_
    refine lv_bipush (v := 32) hx hb dX2_special_60 (by decide) ?_
    refine lv_iload_n hx hb dX2_special_62 rfl (lv_at hl 2 rfl) ?_
    refine lv_bipush (v := 15) hx hb dX2_special_63 (by decide) ?_
    refine lv_iand hx hb dX2_special_65 ?_
    refine lv_iadd hx hb dX2_special_66 ?_
    obtain ⟨S3, h4, hs⟩ := bv_e hs
    refine kX0_raise C tM_X2_71 ⟨Nat.le_of_ble_eq_true rfl, Nat.le_of_ble_eq_true rfl⟩ ⟨Nat.le_of_ble_eq_true rfl, Nat.le_of_ble_eq_true rfl⟩ hK hP hS hl.1 (rest := []) (Nat.le_of_ble_eq_true rfl) dX2_special_67 h4 (fun H locs hP hS => ?_)
    refine lv_goto (tgt := 156) hx hb dX2_special_70 (by decide) ?_
    exact u_vret hx hb hr hlocks hP hS hs dX2_special_156
  have hs := if_f c2 hs
  by_cases c3 : ((ush x1 3) &&& 7) = 2
  · have hs := if_t c3 hs
    refine u_table (k := 2) (a := 2) (off := 59) (tgt := 73) hx hb dX2_special_14 c3 (by decide) (by decide) (by decide) (by decide) (by decide) ?_
    refine lv_aload_n hx hb dX2_special_73 rfl (lv_at hl 1 rfl) ?_
    refine lv_iload_n hx hb dX2_special_74 rfl (lv_at hl 0 rfl) ?_
    obtain ⟨S4, h5, hs⟩ := bv_e hs
    refine kX2_link C tM_X2_266 ⟨Nat.le_of_ble_eq_true rfl, Nat.le_of_ble_eq_true rfl⟩ ⟨Nat.le_of_ble_eq_true rfl, Nat.le_of_ble_eq_true rfl⟩ hK hP hS hl.1 (rest := []) (Nat.le_of_ble_eq_true rfl) dX2_special_75 h5 (fun H locs hP hS => ?_)
    refine lv_goto (tgt := 156) hx hb dX2_special_78 (by decide) ?_
    exact u_vret hx hb hr hlocks hP hS hs dX2_special_156
  have hs := if_f c3 hs
  by_cases c4 : ((ush x1 3) &&& 7) = 3
  · have hs := if_t c4 hs
    refine u_table (k := 3) (a := 3) (off := 67) (tgt := 81) hx hb dX2_special_14 c4 (by decide) (by decide) (by decide) (by decide) (by decide) ?_
    refine lv_aload_n hx hb dX2_special_81 rfl (lv_at hl 1 rfl) ?_
    refine lv_iload_n hx hb dX2_special_82 rfl (lv_at hl 0 rfl) ?_
    obtain ⟨S5, h6, hs⟩ := bv_e hs
    refine kX2_unlink C tM_X2_269 ⟨Nat.le_of_ble_eq_true rfl, Nat.le_of_ble_eq_true rfl⟩ ⟨Nat.le_of_ble_eq_true rfl, Nat.le_of_ble_eq_true rfl⟩ hK hP hS hl.1 (rest := []) (Nat.le_of_ble_eq_true rfl) dX2_special_83 h6 (fun H locs hP hS => ?_)
    refine lv_goto (tgt := 156) hx hb dX2_special_86 (by decide) ?_
    exact u_vret hx hb hr hlocks hP hS hs dX2_special_156
  have hs := if_f c4 hs
  by_cases c5 : ((ush x1 3) &&& 7) = 4
  · have hs := if_t c5 hs
    refine u_table (k := 4) (a := 4) (off := 75) (tgt := 89) hx hb dX2_special_14 c5 (by decide) (by decide) (by decide) (by decide) (by decide) ?_
    refine lv_aload_n hx hb dX2_special_89 rfl (lv_at hl 1 rfl) ?_
    obtain ⟨b1, S6, h7, hs⟩ := bd_e hs
    refine kX2_permitted C tM_X2_165 ⟨Nat.le_of_ble_eq_true rfl, Nat.le_of_ble_eq_true rfl⟩ ⟨Nat.le_of_ble_eq_true rfl, Nat.le_of_ble_eq_true rfl⟩ hK hP hS hl.1 (rest := []) (Nat.le_of_ble_eq_true rfl) dX2_special_90 h7 (fun H locs hP hS => ?_)
    refine lv_if_eq (tgt := 156) hx hb dX2_special_93 (by decide) (fun c6 => ?_) (fun c6 => ?_)
    · have hs := if_t c6 hs
      exact u_vret hx hb hr hlocks hP hS hs dX2_special_156
    · have hs := if_f c6 hs
      refine lv_aload_n hx hb dX2_special_96 rfl (lv_at hl 1 rfl) ?_
      refine gB_X2_registers hx hb hT hown hK hP (hT _ tF_X2_9) dX2_special_97 ?_
      refine lv_iconst (v := 0) hx hb dX2_special_100 (by decide) ?_
      refine lv_aload_n hx hb dX2_special_101 rfl (lv_at hl 1 rfl) ?_
      refine gB_X2_registers hx hb hT hown hK hP (hT _ tF_X2_9) dX2_special_102 ?_
      refine lv_iload_n hx hb dX2_special_105 rfl (lv_at hl 0 rfl) ?_
      obtain ⟨r2, S7, h8, hs⟩ := bd_e hs
      refine kX4_get C tM_X2_124 ⟨Nat.le_of_ble_eq_true rfl, Nat.le_of_ble_eq_true rfl⟩ ⟨Nat.le_of_ble_eq_true rfl, Nat.le_of_ble_eq_true rfl⟩ hK hP hS hl.1 (rest := [.int 0, .ref (ad 2)]) (Nat.le_of_ble_eq_true rfl) dX2_special_106 h8 (fun H locs hP hS => ?_)
      obtain ⟨S8, h9, hs⟩ := bv_e hs
      refine kX4_setStackOf C tM_X2_272 ⟨Nat.le_of_ble_eq_true rfl, Nat.le_of_ble_eq_true rfl⟩ ⟨Nat.le_of_ble_eq_true rfl, Nat.le_of_ble_eq_true rfl⟩ hK hP hS hl.1 (rest := []) (Nat.le_of_ble_eq_true rfl) dX2_special_109 h9 (fun H locs hP hS => ?_)
      refine lv_goto (tgt := 156) hx hb dX2_special_112 (by decide) ?_
      exact u_vret hx hb hr hlocks hP hS hs dX2_special_156
  have hs := if_f c5 hs
  by_cases c7 : ((ush x1 3) &&& 7) = 5
  · have hs := if_t c7 hs
    refine u_table (k := 5) (a := 5) (off := 101) (tgt := 115) hx hb dX2_special_14 c7 (by decide) (by decide) (by decide) (by decide) (by decide) ?_
    refine lv_aload_n hx hb dX2_special_115 rfl (lv_at hl 1 rfl) ?_
    obtain ⟨b2, S9, h10, hs⟩ := bd_e hs
    refine kX2_permitted C tM_X2_165 ⟨Nat.le_of_ble_eq_true rfl, Nat.le_of_ble_eq_true rfl⟩ ⟨Nat.le_of_ble_eq_true rfl, Nat.le_of_ble_eq_true rfl⟩ hK hP hS hl.1 (rest := []) (Nat.le_of_ble_eq_true rfl) dX2_special_116 h10 (fun H locs hP hS => ?_)
    refine lv_if_eq (tgt := 156) hx hb dX2_special_119 (by decide) (fun c8 => ?_) (fun c8 => ?_)
    · have hs := if_t c8 hs
      exact u_vret hx hb hr hlocks hP hS hs dX2_special_156
    · have hs := if_f c8 hs
      refine lv_aload_n hx hb dX2_special_122 rfl (lv_at hl 1 rfl) ?_
      refine gB_X2_registers hx hb hT hown hK hP (hT _ tF_X2_9) dX2_special_123 ?_
      refine lv_iload_n hx hb dX2_special_126 rfl (lv_at hl 0 rfl) ?_
      refine lv_aload_n hx hb dX2_special_127 rfl (lv_at hl 1 rfl) ?_
      refine gB_X2_registers hx hb hT hown hK hP (hT _ tF_X2_9) dX2_special_128 ?_
      refine lv_iconst (v := 0) hx hb dX2_special_131 (by decide) ?_
      obtain ⟨r3, S10, h11, hs⟩ := bd_e hs
      refine kX4_stackOf C tM_X2_275 ⟨Nat.le_of_ble_eq_true rfl, Nat.le_of_ble_eq_true rfl⟩ ⟨Nat.le_of_ble_eq_true rfl, Nat.le_of_ble_eq_true rfl⟩ hK hP hS hl.1 (rest := [.int v1, .ref (ad 2)]) (Nat.le_of_ble_eq_true rfl) dX2_special_132 h11 (fun H locs hP hS => ?_)
      obtain ⟨S11, h12, hs⟩ := bv_e hs
      refine kX4_set C tM_X2_143 ⟨Nat.le_of_ble_eq_true rfl, Nat.le_of_ble_eq_true rfl⟩ ⟨Nat.le_of_ble_eq_true rfl, Nat.le_of_ble_eq_true rfl⟩ hK hP hS hl.1 (rest := []) (Nat.le_of_ble_eq_true rfl) dX2_special_135 h12 (fun H locs hP hS => ?_)
      refine lv_goto (tgt := 156) hx hb dX2_special_138 (by decide) ?_
      exact u_vret hx hb hr hlocks hP hS hs dX2_special_156
  have hs := if_f c7 hs
  by_cases c9 : ((ush x1 3) &&& 7) = 6
  · have hs := if_t c9 hs
    refine u_table (k := 6) (a := 6) (off := 127) (tgt := 141) hx hb dX2_special_14 c9 (by decide) (by decide) (by decide) (by decide) (by decide) ?_
    refine lv_aload_n hx hb dX2_special_141 rfl (lv_at hl 1 rfl) ?_
    refine lv_iload_n hx hb dX2_special_142 rfl (lv_at hl 2 rfl) ?_
    obtain ⟨r4, S12, h13, hs⟩ := bd_e hs
    refine kX2_lower C tM_X2_121 ⟨Nat.le_of_ble_eq_true rfl, Nat.le_of_ble_eq_true rfl⟩ ⟨Nat.le_of_ble_eq_true rfl, Nat.le_of_ble_eq_true rfl⟩ hK hP hS hl.1 (rest := [.ref (ad 4)]) (Nat.le_of_ble_eq_true rfl) dX2_special_143 h13 (fun H locs hP hS => ?_)
    obtain ⟨S13, h14, hs⟩ := bv_e hs
    refine kX2_alone C tM_X2_278 ⟨Nat.le_of_ble_eq_true rfl, Nat.le_of_ble_eq_true rfl⟩ ⟨Nat.le_of_ble_eq_true rfl, Nat.le_of_ble_eq_true rfl⟩ hK hP hS hl.1 (rest := []) (Nat.le_of_ble_eq_true rfl) dX2_special_146 h14 (fun H locs hP hS => ?_)
    refine lv_goto (tgt := 156) hx hb dX2_special_149 (by decide) ?_
    exact u_vret hx hb hr hlocks hP hS hs dX2_special_156
  have hs := if_f c9 hs
  refine u_tableD (tgt := 152) hx hb dX2_special_14 (fun hlo hhi => ?_) (by decide) ?_
  · have hz : (((ush x1 3) &&& 7)).toInt = 0 ∨ (((ush x1 3) &&& 7)).toInt = 1 ∨ (((ush x1 3) &&& 7)).toInt = 2 ∨ (((ush x1 3) &&& 7)).toInt = 3 ∨ (((ush x1 3) &&& 7)).toInt = 4 ∨ (((ush x1 3) &&& 7)).toInt = 5 ∨ (((ush x1 3) &&& 7)).toInt = 6 := by omega
    rcases hz with hz | hz | hz | hz | hz | hz | hz
    · exact absurd hz (lv_neT c1 (by decide))
    · exact absurd hz (lv_neT c2 (by decide))
    · exact absurd hz (lv_neT c3 (by decide))
    · exact absurd hz (lv_neT c4 (by decide))
    · exact absurd hz (lv_neT c5 (by decide))
    · exact absurd hz (lv_neT c7 (by decide))
    · exact absurd hz (lv_neT c9 (by decide))
  refine lv_aload_n hx hb dX2_special_152 rfl (lv_at hl 1 rfl) ?_
  obtain ⟨S14, h15, hs⟩ := bv_e hs
  refine kX2_illegal C tM_X2_178 ⟨Nat.le_of_ble_eq_true rfl, Nat.le_of_ble_eq_true rfl⟩ ⟨Nat.le_of_ble_eq_true rfl, Nat.le_of_ble_eq_true rfl⟩ hK hP hS hl.1 (rest := []) (Nat.le_of_ble_eq_true rfl) dX2_special_153 h15 (fun H locs hP hS => ?_)
  exact u_vret hx hb hr hlocks hP hS hs dX2_special_156
theorem kX2_special {p : Program} {l : Launch} {e : Env} {R : Room} {s : State} {m : MethodId} {args : Array Value} {below : List Frame} {meth : Method} {c : Code} {H : Heap} {locs : List Loc} {cells slots : Nat} {Q : State → Prop} {cc : ByteArray} {pc nL : Nat} {ls : Array Slot} {rest : List Value} {D : va_G} {ad : Nat → Nat} {cI cB : ClassId} {en : Nat → Nat} {S : St} {own : String} {index : Nat} {x1 : Int32} {So : St} (C : CallFix p m c cc nL s args wG own) (hlk : Cond.methodLink own index yX2_special ∈ wG) (hR : rmX2_special.frames + 1 ≤ R.frames ∧ 8 + (3 + 11) + rmX2_special.locals ≤ R.locals) (hc : cells ≤ R.cells ∧ slots ≤ R.slots) (hK : KB D ad cI cB en s) (hP : va_P D vwCl (wB ad cI cB S) H) (hS : va_S (AX 10 ad s.heap.size) s.heap H locs) (hls : ls.size = nL) (hrest : (rest.map fun v => v.category).sum ≤ 8) (hd : decode cc pc = .ok (.invokevirtual index, 3)) (hs : fX2_special x1 S = some So) (k : ∀ (H : Heap) (locs : List Loc), va_P D vwCl (wB ad cI cB So) H → va_S (AX 10 ad s.heap.size) s.heap H locs → W p l e R s m args below meth c H locs cells slots Q (F0 m (pc + 3) ls (rest))) : W p l e R s m args below meth c H locs cells slots Q (F0 m pc ls (.int x1 :: .ref (ad 4) :: rest)) :=
  u_callV (n := 1) (mX2_special l D ad cI cB en S x1 So hs) C uK_B (wg_V hlk tI_X2_special tS_X2_special tN_X2 tK_X2_special) rfl rfl rfl (by decide +kernel) hR rfl (va_recv hK.1 hP (ci := 2) (q0 := 4) rfl rfl) hK hP hS hls hrest hd hc rfl k
def fX2_jump (x1 : Int32) (S : St) : Option St :=
    (bd (fX2_operand x1 S) fun r1 S1 => (bd (fX2_misfits 2020 r1 S1) fun b1 S2 => (if (zI b1) = 0 then (bd (fX2_operand x1 S2) fun r2 S3 => (bd (fX0_locate 2 r2 S3) fun w1 S4 => (lt ((w1.toInt32) : Int32) fun v1 => (jn (fun (S5 : St) => (lt (sI S5 2 v1) fun S6 => (some S6))) fun K1 =>
    (if (x1 &&& 64) = 0 then (bv (fX0_push 2 (S4.1 2) S4) fun S7 => (K1 S7))
    else (K1 S4))))))
    else (some S2))))
abbrev rmX2_jump : Room := { frames := 3, cells := 0, slots := 0, locals := 70 }
set_option maxRecDepth 100000 in
set_option maxHeartbeats 4000000 in
theorem mX2_jump (l : Launch) (D : va_G) (ad : Nat → Nat) (cI cB : ClassId) (en : Nat → Nat) (S : St) (x1 : Int32) (So : St) (hs : fX2_jump x1 S = some So) : uM l yX2_jump (wg yX2_jump cX2_jump 3 none) rmX2_jump (KB D ad cI cB en) D (wB ad cI cB) (AX 10 ad) [.ref (ad 4), .int x1] S (none, So) := by
  refine uM_start (by decide) rfl ?_
  intro p e s m below meth c hx hb hr hlocks hml hown hts hK hP
  have hT : ∀ w ∈ wG, w.before _ s = true := fun w h => hts w (List.mem_cons_of_mem _ h)
  have hS : va_S (AX 10 ad s.heap.size) s.heap s.heap [] := va_S.rf
  have hown : s.vm.findClass RX2 = some m.cls := hown
  have C : CallFix p m c cX2_jump 3 s _ wG RX2 := ⟨hx, hb, hml, hown, hT⟩
  have hl := lv_entry ([.ref (ad 4), .int x1]) (n := 3) (Nat.le_of_ble_eq_true rfl)
  rw [lg_entry_eq]
  generalize (lg_sl ([.ref (ad 4), .int x1]) ++ List.replicate (3 - (lg_sl ([.ref (ad 4), .int x1])).length) Slot.unset).toArray = ls at hl ⊢
  have hl : lv_has ls 3 [(0, .ref (ad 4)), (1, .int x1)] := hl
  unfold fX2_jump at hs
  refine lv_aload_n hx hb dX2_jump_0 rfl (lv_at hl 0 rfl) ?_
  refine lv_sipush (v := 2020) hx hb dX2_jump_1 (by decide) ?_
  refine lv_iload_n hx hb dX2_jump_4 rfl (lv_at hl 1 rfl) ?_
  obtain ⟨r1, S1, h1, hs⟩ := bd_e hs
  refine kX2_operand C tM_X2_95 ⟨Nat.le_of_ble_eq_true rfl, Nat.le_of_ble_eq_true rfl⟩ ⟨Nat.le_of_ble_eq_true rfl, Nat.le_of_ble_eq_true rfl⟩ hK hP hS hl.1 (rest := [.int 2020, .ref (ad 4)]) (Nat.le_of_ble_eq_true rfl) dX2_jump_5 h1 (fun H locs hP hS => ?_)
  obtain ⟨b1, S2, h2, hs⟩ := bd_e hs
  refine kX2_misfits C tM_X2_146 ⟨Nat.le_of_ble_eq_true rfl, Nat.le_of_ble_eq_true rfl⟩ ⟨Nat.le_of_ble_eq_true rfl, Nat.le_of_ble_eq_true rfl⟩ hK hP hS hl.1 (rest := []) (Nat.le_of_ble_eq_true rfl) dX2_jump_8 h2 (fun H locs hP hS => ?_)
  refine lv_if_eq (tgt := 15) hx hb dX2_jump_11 (by decide) (fun c1 => ?_) (fun c1 => ?_)
  · have hs := if_t c1 hs
    refine lv_aload_n hx hb dX2_jump_15 rfl (lv_at hl 0 rfl) ?_
    refine gB_X2_access hx hb hT hown hK hP (hT _ tF_X2_15) dX2_jump_16 ?_
    refine gS_LONG hx hb hown hK hS (hT _ tF_X2_46) dX2_jump_19 ?_
    refine lv_iload_n hx hb dX2_jump_22 rfl (lv_at hl 1 rfl) ?_
    obtain ⟨r2, S3, h3, hs⟩ := bd_e hs
    refine kX2_operand C tM_X2_95 ⟨Nat.le_of_ble_eq_true rfl, Nat.le_of_ble_eq_true rfl⟩ ⟨Nat.le_of_ble_eq_true rfl, Nat.le_of_ble_eq_true rfl⟩ hK hP hS hl.1 (rest := [.ref (en 2), .ref (ad 3)]) (Nat.le_of_ble_eq_true rfl) dX2_jump_23 h3 (fun H locs hP hS => ?_)
    obtain ⟨w1, S4, h4, hs⟩ := bd_e hs
    refine kX0_locate C tM_X2_150 ⟨Nat.le_of_ble_eq_true rfl, Nat.le_of_ble_eq_true rfl⟩ ⟨Nat.le_of_ble_eq_true rfl, Nat.le_of_ble_eq_true rfl⟩ hK hP hS hl.1 (rest := []) (Nat.le_of_ble_eq_true rfl) dX2_jump_26 h4 (fun H locs hP hS => ?_)
    refine lv_l2i (v := (w1.toInt32)) hx hb dX2_jump_29 rfl ?_
    obtain ⟨v1, h5, hs⟩ := lt_e hs
    refine u_top h5 ?_
    refine lv_istore_n (lv' := [(2, .int v1), (0, .ref (ad 4)), (1, .int x1)]) hx hb dX2_jump_30 rfl hl (by decide) rfl (fun ls hl => ?_)
    refine lv_iload_n hx hb dX2_jump_31 rfl (lv_at hl 2 rfl) ?_
    refine lv_bipush (v := 64) hx hb dX2_jump_32 (by decide) ?_
    refine lv_iand hx hb dX2_jump_34 ?_
    refine jn_e hs (fun K1 => ∀ (S5 : St) (H : Heap) (locs : List Loc) (ls : Array Slot), lv_has ls 3 [(2, .int v1), (0, .ref (ad 4))] → va_P D vwCl (wB ad cI cB S5) H → va_S (AX 10 ad s.heap.size) s.heap H locs → K1 S5 = some So → W p l e rmX2_jump s m ([.ref (ad 4), .int x1] : List Value).toArray below meth c H locs 0 0 (MQ below (uQ D (wB ad cI cB) (none, So) (AX 10 ad s.heap.size)) ([.ref (ad 4), .int x1] : List Value).toArray s 0 0 (AX 10 ad s.heap.size)) (F0 m 55 ls [])) ?_ (fun K1 J1 hs => ?_)
    · intro S5 H locs ls hl hP hS hs
      refine lv_aload_n hx hb dX2_jump_55 rfl (lv_at hl 1 rfl) ?_
      refine gB_X2_registers hx hb hT hown hK hP (hT _ tF_X2_9) dX2_jump_56 ?_
      refine lv_iload_n hx hb dX2_jump_59 rfl (lv_at hl 0 rfl) ?_
      obtain ⟨S6, h6, hs⟩ := lt_e hs
      refine pB_X4_pc hx hb hT hown hK hP hS (hT _ tF_X2_284) dX2_jump_60 (v := v1) h6 (fun H locs hP hS => ?_)
      exact u_vret hx hb hr hlocks hP hS hs dX2_jump_63
    ·
      refine lv_if_ne (tgt := 55) hx hb dX2_jump_35 (by decide) (fun c2 => ?_) (fun c2 => ?_)
      · have hs := if_f c2 hs
        exact J1 S4 _ _ _ (lv_sub hl [0, 1] rfl) hP hS hs
      · have hs := if_t c2 hs
        refine lv_aload_n hx hb dX2_jump_38 rfl (lv_at hl 1 rfl) ?_
        refine gB_X2_access hx hb hT hown hK hP (hT _ tF_X2_15) dX2_jump_39 ?_
        refine gS_LONG hx hb hown hK hS (hT _ tF_X2_46) dX2_jump_42 ?_
        refine lv_aload_n hx hb dX2_jump_45 rfl (lv_at hl 1 rfl) ?_
        refine gB_X2_registers hx hb hT hown hK hP (hT _ tF_X2_9) dX2_jump_46 ?_
        refine gB_X4_pc hx hb hT hown hK hP (hT _ tF_X2_284) dX2_jump_49 ?_
        obtain ⟨S7, h7, hs⟩ := bv_e hs
        refine kX0_push C tM_X2_249 ⟨Nat.le_of_ble_eq_true rfl, Nat.le_of_ble_eq_true rfl⟩ ⟨Nat.le_of_ble_eq_true rfl, Nat.le_of_ble_eq_true rfl⟩ hK hP hS hl.1 (rest := []) (Nat.le_of_ble_eq_true rfl) dX2_jump_52 h7 (fun H locs hP hS => ?_)
        exact J1 S7 _ _ _ (lv_sub hl [0, 1] rfl) hP hS hs
  · have hs := if_f c1 hs
    exact u_vret hx hb hr hlocks hP hS hs dX2_jump_14
theorem kX2_jump {p : Program} {l : Launch} {e : Env} {R : Room} {s : State} {m : MethodId} {args : Array Value} {below : List Frame} {meth : Method} {c : Code} {H : Heap} {locs : List Loc} {cells slots : Nat} {Q : State → Prop} {cc : ByteArray} {pc nL : Nat} {ls : Array Slot} {rest : List Value} {D : va_G} {ad : Nat → Nat} {cI cB : ClassId} {en : Nat → Nat} {S : St} {own : String} {index : Nat} {x1 : Int32} {So : St} (C : CallFix p m c cc nL s args wG own) (hlk : Cond.methodLink own index yX2_jump ∈ wG) (hR : rmX2_jump.frames + 1 ≤ R.frames ∧ 8 + (3 + 11) + rmX2_jump.locals ≤ R.locals) (hc : cells ≤ R.cells ∧ slots ≤ R.slots) (hK : KB D ad cI cB en s) (hP : va_P D vwCl (wB ad cI cB S) H) (hS : va_S (AX 10 ad s.heap.size) s.heap H locs) (hls : ls.size = nL) (hrest : (rest.map fun v => v.category).sum ≤ 8) (hd : decode cc pc = .ok (.invokevirtual index, 3)) (hs : fX2_jump x1 S = some So) (k : ∀ (H : Heap) (locs : List Loc), va_P D vwCl (wB ad cI cB So) H → va_S (AX 10 ad s.heap.size) s.heap H locs → W p l e R s m args below meth c H locs cells slots Q (F0 m (pc + 3) ls (rest))) : W p l e R s m args below meth c H locs cells slots Q (F0 m pc ls (.int x1 :: .ref (ad 4) :: rest)) :=
  u_callV (n := 1) (mX2_jump l D ad cI cB en S x1 So hs) C uK_B (wg_V hlk tI_X2_jump tS_X2_jump tN_X2 tK_X2_jump) rfl rfl rfl (by decide +kernel) hR rfl (va_recv hK.1 hP (ci := 2) (q0 := 4) rfl rfl) hK hP hS hls hrest hd hc rfl k
def fX2_single (x1 : Int32) (S : St) : Option St :=
    (bd (fX2_upper x1 S) fun r1 S1 => (bd (fX2_isTo x1 S1) fun b1 S2 => (if (zI b1) = 0 then (bd (fX2_sizeBits x1 S2) fun r2 S4 => (if r2 = 3 then (bv (fX2_illegal S4) fun S5 => (some S5))
    else (if r1 ≤ 5 then (bd (fX2_operand x1 S4) fun r3 S6 => (bd (fX2_misfits 509 r3 S6) fun b2 S7 => (if (zI b2) = 0 then (bd (fX2_sizeBits x1 S7) fun r4 S8 => (bd (fX5_of r4 S8) fun e1 S9 => (gd (e1 < 3) (bd (fX2_operand x1 S9) fun r5 S10 => (bd (fX0_locate e1 r5 S10) fun w1 S11 => (bd (fX0_load e1 w1 S11) fun r6 S12 => (if r1 = 0 then (bd (fX1_joinedWithX 2 e1 0 r6 S12) fun r7 S13 => (bv (fX0_store e1 w1 r7 S13) fun S14 => (some S14)))
    else (if r1 = 1 then (bd (fX1_logic e1 0 S12) fun r8 S15 => (bv (fX0_store e1 w1 r8 S15) fun S16 => (some S16)))
    else (if r1 = 2 then (bd (fX1_joined 2 e1 0 r6 S12) fun r9 S17 => (bv (fX0_store e1 w1 r9 S17) fun S18 => (some S18)))
    else (if r1 = 3 then (bd (fX1_logic e1 (r6 ^^^ (-1 : Int32)) S12) fun r10 S19 => (bv (fX0_store e1 w1 r10 S19) fun S20 => (some S20)))
    else (bd (fX1_logic e1 r6 S12) fun r11 S21 => (some S21))))))))))))
    else (some S7))))
    else (bv (fX2_illegal S4) fun S22 => (some S22)))))
    else (bv (fX2_illegal S2) fun S3 => (some S3)))))
abbrev rmX2_single : Room := { frames := 3, cells := 0, slots := 0, locals := 78 }
set_option maxRecDepth 100000 in
set_option maxHeartbeats 4000000 in
theorem mX2_single (l : Launch) (D : va_G) (ad : Nat → Nat) (cI cB : ClassId) (en : Nat → Nat) (S : St) (x1 : Int32) (So : St) (hs : fX2_single x1 S = some So) : uM l yX2_single (wg yX2_single cX2_single 7 none) rmX2_single (KB D ad cI cB en) D (wB ad cI cB) (AX 10 ad) [.ref (ad 4), .int x1] S (none, So) := by
  refine uM_start (by decide) rfl ?_
  intro p e s m below meth c hx hb hr hlocks hml hown hts hK hP
  have hT : ∀ w ∈ wG, w.before _ s = true := fun w h => hts w (List.mem_cons_of_mem _ h)
  have hS : va_S (AX 10 ad s.heap.size) s.heap s.heap [] := va_S.rf
  have hown : s.vm.findClass RX2 = some m.cls := hown
  have C : CallFix p m c cX2_single 7 s _ wG RX2 := ⟨hx, hb, hml, hown, hT⟩
  have hl := lv_entry ([.ref (ad 4), .int x1]) (n := 7) (Nat.le_of_ble_eq_true rfl)
  rw [lg_entry_eq]
  generalize (lg_sl ([.ref (ad 4), .int x1]) ++ List.replicate (7 - (lg_sl ([.ref (ad 4), .int x1])).length) Slot.unset).toArray = ls at hl ⊢
  have hl : lv_has ls 7 [(0, .ref (ad 4)), (1, .int x1)] := hl
  unfold fX2_single at hs
  refine lv_iload_n hx hb dX2_single_0 rfl (lv_at hl 1 rfl) ?_
  obtain ⟨r1, S1, h1, hs⟩ := bd_e hs
  refine kX2_upper C tM_X2_101 ⟨Nat.le_of_ble_eq_true rfl, Nat.le_of_ble_eq_true rfl⟩ ⟨Nat.le_of_ble_eq_true rfl, Nat.le_of_ble_eq_true rfl⟩ hK hP hS hl.1 (rest := []) (Nat.le_of_ble_eq_true rfl) dX2_single_1 h1 (fun H locs hP hS => ?_)
  refine lv_istore_n (lv' := [(2, .int r1), (0, .ref (ad 4)), (1, .int x1)]) hx hb dX2_single_4 rfl hl (by decide) rfl (fun ls hl => ?_)
  refine lv_iload_n hx hb dX2_single_5 rfl (lv_at hl 2 rfl) ?_
  obtain ⟨b1, S2, h2, hs⟩ := bd_e hs
  refine kX2_isTo C tM_X2_107 ⟨Nat.le_of_ble_eq_true rfl, Nat.le_of_ble_eq_true rfl⟩ ⟨Nat.le_of_ble_eq_true rfl, Nat.le_of_ble_eq_true rfl⟩ hK hP hS hl.1 (rest := []) (Nat.le_of_ble_eq_true rfl) dX2_single_6 h2 (fun H locs hP hS => ?_)
  refine lv_if_ne (tgt := 25) hx hb dX2_single_9 (by decide) (fun c1 => ?_) (fun c1 => ?_)
  · have hs := if_f c1 hs
    refine lv_aload_n hx hb dX2_single_25 rfl (lv_at hl 1 rfl) ?_
    obtain ⟨S3, h3, hs⟩ := bv_e hs
    refine kX2_illegal C tM_X2_178 ⟨Nat.le_of_ble_eq_true rfl, Nat.le_of_ble_eq_true rfl⟩ ⟨Nat.le_of_ble_eq_true rfl, Nat.le_of_ble_eq_true rfl⟩ hK hP hS hl.1 (rest := []) (Nat.le_of_ble_eq_true rfl) dX2_single_26 h3 (fun H locs hP hS => ?_)
    exact u_vret hx hb hr hlocks hP hS hs dX2_single_29
  · have hs := if_t c1 hs
    refine lv_iload_n hx hb dX2_single_12 rfl (lv_at hl 2 rfl) ?_
    obtain ⟨r2, S4, h4, hs⟩ := bd_e hs
    refine kX2_sizeBits C tM_X2_98 ⟨Nat.le_of_ble_eq_true rfl, Nat.le_of_ble_eq_true rfl⟩ ⟨Nat.le_of_ble_eq_true rfl, Nat.le_of_ble_eq_true rfl⟩ hK hP hS hl.1 (rest := []) (Nat.le_of_ble_eq_true rfl) dX2_single_13 h4 (fun H locs hP hS => ?_)
    refine lv_iconst (v := 3) hx hb dX2_single_16 (by decide) ?_
    refine lv_icmp_eq (tgt := 25) hx hb dX2_single_17 (by decide) (fun c2 => ?_) (fun c2 => ?_)
    · have hs := if_t c2 hs
      refine lv_aload_n hx hb dX2_single_25 rfl (lv_at hl 1 rfl) ?_
      obtain ⟨S5, h5, hs⟩ := bv_e hs
      refine kX2_illegal C tM_X2_178 ⟨Nat.le_of_ble_eq_true rfl, Nat.le_of_ble_eq_true rfl⟩ ⟨Nat.le_of_ble_eq_true rfl, Nat.le_of_ble_eq_true rfl⟩ hK hP hS hl.1 (rest := []) (Nat.le_of_ble_eq_true rfl) dX2_single_26 h5 (fun H locs hP hS => ?_)
      exact u_vret hx hb hr hlocks hP hS hs dX2_single_29
    · have hs := if_f c2 hs
      refine lv_iload_n hx hb dX2_single_20 rfl (lv_at hl 0 rfl) ?_
      refine lv_iconst (v := 5) hx hb dX2_single_21 (by decide) ?_
      refine lv_icmp_le (tgt := 30) hx hb dX2_single_22 (by decide) (fun c3 => ?_) (fun c3 => ?_)
      · have hs := if_t c3 hs
        refine lv_aload_n hx hb dX2_single_30 rfl (lv_at hl 1 rfl) ?_
        refine lv_sipush (v := 509) hx hb dX2_single_31 (by decide) ?_
        refine lv_iload_n hx hb dX2_single_34 rfl (lv_at hl 2 rfl) ?_
        obtain ⟨r3, S6, h6, hs⟩ := bd_e hs
        refine kX2_operand C tM_X2_95 ⟨Nat.le_of_ble_eq_true rfl, Nat.le_of_ble_eq_true rfl⟩ ⟨Nat.le_of_ble_eq_true rfl, Nat.le_of_ble_eq_true rfl⟩ hK hP hS hl.1 (rest := [.int 509, .ref (ad 4)]) (Nat.le_of_ble_eq_true rfl) dX2_single_35 h6 (fun H locs hP hS => ?_)
        obtain ⟨b2, S7, h7, hs⟩ := bd_e hs
        refine kX2_misfits C tM_X2_146 ⟨Nat.le_of_ble_eq_true rfl, Nat.le_of_ble_eq_true rfl⟩ ⟨Nat.le_of_ble_eq_true rfl, Nat.le_of_ble_eq_true rfl⟩ hK hP hS hl.1 (rest := []) (Nat.le_of_ble_eq_true rfl) dX2_single_38 h7 (fun H locs hP hS => ?_)
        refine lv_if_eq (tgt := 45) hx hb dX2_single_41 (by decide) (fun c4 => ?_) (fun c4 => ?_)
        · have hs := if_t c4 hs
          refine lv_iload_n hx hb dX2_single_45 rfl (lv_at hl 2 rfl) ?_
          obtain ⟨r4, S8, h8, hs⟩ := bd_e hs
          refine kX2_sizeBits C tM_X2_98 ⟨Nat.le_of_ble_eq_true rfl, Nat.le_of_ble_eq_true rfl⟩ ⟨Nat.le_of_ble_eq_true rfl, Nat.le_of_ble_eq_true rfl⟩ hK hP hS hl.1 (rest := []) (Nat.le_of_ble_eq_true rfl) dX2_single_46 h8 (fun H locs hP hS => ?_)
          obtain ⟨e1, S9, h9, hs⟩ := bd_e hs
          refine kX5_of C tM_X2_181 ⟨Nat.le_of_ble_eq_true rfl, Nat.le_of_ble_eq_true rfl⟩ ⟨Nat.le_of_ble_eq_true rfl, Nat.le_of_ble_eq_true rfl⟩ hK hP hS hl.1 (rest := []) (Nat.le_of_ble_eq_true rfl) dX2_single_49 h9 (fun H locs hP hS => ?_)
          obtain ⟨h10, hs⟩ := gd_e hs
          refine lv_astore_n (lv' := [(3, .ref (en e1)), (2, .int r1), (0, .ref (ad 4)), (1, .int x1)]) hx hb dX2_single_52 rfl hl (by decide) rfl (fun ls hl => ?_)
          refine lv_aload_n hx hb dX2_single_53 rfl (lv_at hl 2 rfl) ?_
          refine gB_X2_access hx hb hT hown hK hP (hT _ tF_X2_15) dX2_single_54 ?_
          refine lv_aload_n hx hb dX2_single_57 rfl (lv_at hl 0 rfl) ?_
          refine lv_iload_n hx hb dX2_single_58 rfl (lv_at hl 3 rfl) ?_
          obtain ⟨r5, S10, h11, hs⟩ := bd_e hs
          refine kX2_operand C tM_X2_95 ⟨Nat.le_of_ble_eq_true rfl, Nat.le_of_ble_eq_true rfl⟩ ⟨Nat.le_of_ble_eq_true rfl, Nat.le_of_ble_eq_true rfl⟩ hK hP hS hl.1 (rest := [.ref (en e1), .ref (ad 3)]) (Nat.le_of_ble_eq_true rfl) dX2_single_59 h11 (fun H locs hP hS => ?_)
          obtain ⟨w1, S11, h12, hs⟩ := bd_e hs
          refine kX0_locate C tM_X2_150 ⟨Nat.le_of_ble_eq_true rfl, Nat.le_of_ble_eq_true rfl⟩ ⟨Nat.le_of_ble_eq_true rfl, Nat.le_of_ble_eq_true rfl⟩ hK hP hS hl.1 (rest := []) (Nat.le_of_ble_eq_true rfl) dX2_single_62 h12 (fun H locs hP hS => ?_)
          refine lv_lstore (lv' := [(4, .long w1), (3, .ref (en e1)), (2, .int r1), (0, .ref (ad 4)), (1, .int x1)]) hx hb dX2_single_65 hl (by decide) rfl (fun ls hl => ?_)
          refine lv_aload_n hx hb dX2_single_67 rfl (lv_at hl 3 rfl) ?_
          refine gB_X2_access hx hb hT hown hK hP (hT _ tF_X2_15) dX2_single_68 ?_
          refine lv_aload_n hx hb dX2_single_71 rfl (lv_at hl 1 rfl) ?_
          refine lv_lload hx hb dX2_single_72 (lv_at hl 0 rfl) ?_
          obtain ⟨r6, S12, h13, hs⟩ := bd_e hs
          refine kX0_load C tM_X2_154 ⟨Nat.le_of_ble_eq_true rfl, Nat.le_of_ble_eq_true rfl⟩ ⟨Nat.le_of_ble_eq_true rfl, Nat.le_of_ble_eq_true rfl⟩ hK hP hS hl.1 (rest := []) (Nat.le_of_ble_eq_true rfl) dX2_single_74 h13 (fun H locs hP hS => ?_)
          refine lv_istore (lv' := [(6, .int r6), (4, .long w1), (3, .ref (en e1)), (2, .int r1), (0, .ref (ad 4)), (1, .int x1)]) hx hb dX2_single_77 hl (by decide) rfl (fun ls hl => ?_)
          refine lv_iload_n hx hb dX2_single_79 rfl (lv_at hl 3 rfl) ?_
          by_cases c5 : r1 = 0
          · have hs := if_t c5 hs
            refine u_table (k := 0) (a := 0) (off := 32) (tgt := 112) hx hb dX2_single_80 c5 (by decide) (by decide) (by decide) (by decide) (by decide) ?_
            refine lv_aload_n hx hb dX2_single_112 rfl (lv_at hl 4 rfl) ?_
            refine gB_X2_access hx hb hT hown hK hP (hT _ tF_X2_15) dX2_single_113 ?_
            refine lv_aload_n hx hb dX2_single_116 rfl (lv_at hl 2 rfl) ?_
            refine lv_lload hx hb dX2_single_117 (lv_at hl 1 rfl) ?_
            refine lv_aload_n hx hb dX2_single_119 rfl (lv_at hl 4 rfl) ?_
            refine gB_X2_arithmetic hx hb hT hown hK hP (hT _ tF_X2_24) dX2_single_120 ?_
            refine lv_iconst (v := 2) hx hb dX2_single_123 (by decide) ?_
            refine lv_aload_n hx hb dX2_single_124 rfl (lv_at hl 2 rfl) ?_
            refine lv_iconst (v := 0) hx hb dX2_single_125 (by decide) ?_
            refine lv_iload hx hb dX2_single_126 (lv_at hl 0 rfl) ?_
            obtain ⟨r7, S13, h14, hs⟩ := bd_e hs
            refine kX1_joinedWithX C tM_X2_242 ⟨Nat.le_of_ble_eq_true rfl, Nat.le_of_ble_eq_true rfl⟩ ⟨Nat.le_of_ble_eq_true rfl, Nat.le_of_ble_eq_true rfl⟩ hK hP hS hl.1 (rest := [.long w1, .ref (en e1), .ref (ad 3)]) (Nat.le_of_ble_eq_true rfl) dX2_single_128 h14 (fun H locs hP hS => ?_)
            obtain ⟨S14, h15, hs⟩ := bv_e hs
            refine kX0_store C tM_X2_161 ⟨Nat.le_of_ble_eq_true rfl, Nat.le_of_ble_eq_true rfl⟩ ⟨Nat.le_of_ble_eq_true rfl, Nat.le_of_ble_eq_true rfl⟩ hK hP hS hl.1 (rest := []) (Nat.le_of_ble_eq_true rfl) dX2_single_131 h15 (fun H locs hP hS => ?_)
            refine lv_goto (tgt := 220) hx hb dX2_single_134 (by decide) ?_
            exact u_vret hx hb hr hlocks hP hS hs dX2_single_220
          have hs := if_f c5 hs
          by_cases c6 : r1 = 1
          · have hs := if_t c6 hs
            refine u_table (k := 1) (a := 1) (off := 57) (tgt := 137) hx hb dX2_single_80 c6 (by decide) (by decide) (by decide) (by decide) (by decide) ?_
            refine lv_aload_n hx hb dX2_single_137 rfl (lv_at hl 4 rfl) ?_
            refine gB_X2_access hx hb hT hown hK hP (hT _ tF_X2_15) dX2_single_138 ?_
            refine lv_aload_n hx hb dX2_single_141 rfl (lv_at hl 2 rfl) ?_
            refine lv_lload hx hb dX2_single_142 (lv_at hl 1 rfl) ?_
            refine lv_aload_n hx hb dX2_single_144 rfl (lv_at hl 4 rfl) ?_
            refine gB_X2_arithmetic hx hb hT hown hK hP (hT _ tF_X2_24) dX2_single_145 ?_
            refine lv_aload_n hx hb dX2_single_148 rfl (lv_at hl 2 rfl) ?_
            refine lv_iconst (v := 0) hx hb dX2_single_149 (by decide) ?_
            obtain ⟨r8, S15, h16, hs⟩ := bd_e hs
            refine kX1_logic C tM_X2_203 ⟨Nat.le_of_ble_eq_true rfl, Nat.le_of_ble_eq_true rfl⟩ ⟨Nat.le_of_ble_eq_true rfl, Nat.le_of_ble_eq_true rfl⟩ hK hP hS hl.1 (rest := [.long w1, .ref (en e1), .ref (ad 3)]) (Nat.le_of_ble_eq_true rfl) dX2_single_150 h16 (fun H locs hP hS => ?_)
            obtain ⟨S16, h17, hs⟩ := bv_e hs
            refine kX0_store C tM_X2_161 ⟨Nat.le_of_ble_eq_true rfl, Nat.le_of_ble_eq_true rfl⟩ ⟨Nat.le_of_ble_eq_true rfl, Nat.le_of_ble_eq_true rfl⟩ hK hP hS hl.1 (rest := []) (Nat.le_of_ble_eq_true rfl) dX2_single_153 h17 (fun H locs hP hS => ?_)
            refine lv_goto (tgt := 220) hx hb dX2_single_156 (by decide) ?_
            exact u_vret hx hb hr hlocks hP hS hs dX2_single_220
          have hs := if_f c6 hs
          by_cases c7 : r1 = 2
          · have hs := if_t c7 hs
            refine u_table (k := 2) (a := 2) (off := 79) (tgt := 159) hx hb dX2_single_80 c7 (by decide) (by decide) (by decide) (by decide) (by decide) ?_
            refine lv_aload_n hx hb dX2_single_159 rfl (lv_at hl 4 rfl) ?_
            refine gB_X2_access hx hb hT hown hK hP (hT _ tF_X2_15) dX2_single_160 ?_
            refine lv_aload_n hx hb dX2_single_163 rfl (lv_at hl 2 rfl) ?_
            refine lv_lload hx hb dX2_single_164 (lv_at hl 1 rfl) ?_
            refine lv_aload_n hx hb dX2_single_166 rfl (lv_at hl 4 rfl) ?_
            refine gB_X2_arithmetic hx hb hT hown hK hP (hT _ tF_X2_24) dX2_single_167 ?_
            refine lv_iconst (v := 2) hx hb dX2_single_170 (by decide) ?_
            refine lv_aload_n hx hb dX2_single_171 rfl (lv_at hl 2 rfl) ?_
            refine lv_iconst (v := 0) hx hb dX2_single_172 (by decide) ?_
            refine lv_iload hx hb dX2_single_173 (lv_at hl 0 rfl) ?_
            obtain ⟨r9, S17, h18, hs⟩ := bd_e hs
            refine kX1_joined C tM_X2_192 ⟨Nat.le_of_ble_eq_true rfl, Nat.le_of_ble_eq_true rfl⟩ ⟨Nat.le_of_ble_eq_true rfl, Nat.le_of_ble_eq_true rfl⟩ hK hP hS hl.1 (rest := [.long w1, .ref (en e1), .ref (ad 3)]) (Nat.le_of_ble_eq_true rfl) dX2_single_175 h18 (fun H locs hP hS => ?_)
            obtain ⟨S18, h19, hs⟩ := bv_e hs
            refine kX0_store C tM_X2_161 ⟨Nat.le_of_ble_eq_true rfl, Nat.le_of_ble_eq_true rfl⟩ ⟨Nat.le_of_ble_eq_true rfl, Nat.le_of_ble_eq_true rfl⟩ hK hP hS hl.1 (rest := []) (Nat.le_of_ble_eq_true rfl) dX2_single_178 h19 (fun H locs hP hS => ?_)
            refine lv_goto (tgt := 220) hx hb dX2_single_181 (by decide) ?_
            exact u_vret hx hb hr hlocks hP hS hs dX2_single_220
          have hs := if_f c7 hs
          by_cases c8 : r1 = 3
          · have hs := if_t c8 hs
            refine u_table (k := 3) (a := 3) (off := 104) (tgt := 184) hx hb dX2_single_80 c8 (by decide) (by decide) (by decide) (by decide) (by decide) ?_
            refine lv_aload_n hx hb dX2_single_184 rfl (lv_at hl 4 rfl) ?_
            refine gB_X2_access hx hb hT hown hK hP (hT _ tF_X2_15) dX2_single_185 ?_
            refine lv_aload_n hx hb dX2_single_188 rfl (lv_at hl 2 rfl) ?_
            refine lv_lload hx hb dX2_single_189 (lv_at hl 1 rfl) ?_
            refine lv_aload_n hx hb dX2_single_191 rfl (lv_at hl 4 rfl) ?_
            refine gB_X2_arithmetic hx hb hT hown hK hP (hT _ tF_X2_24) dX2_single_192 ?_
            refine lv_aload_n hx hb dX2_single_195 rfl (lv_at hl 2 rfl) ?_
            refine lv_iload hx hb dX2_single_196 (lv_at hl 0 rfl) ?_
            refine lv_iconst (v := (-1 : Int32)) hx hb dX2_single_198 (by decide) ?_
            refine lv_ixor hx hb dX2_single_199 ?_
            obtain ⟨r10, S19, h20, hs⟩ := bd_e hs
            refine kX1_logic C tM_X2_203 ⟨Nat.le_of_ble_eq_true rfl, Nat.le_of_ble_eq_true rfl⟩ ⟨Nat.le_of_ble_eq_true rfl, Nat.le_of_ble_eq_true rfl⟩ hK hP hS hl.1 (rest := [.long w1, .ref (en e1), .ref (ad 3)]) (Nat.le_of_ble_eq_true rfl) dX2_single_200 h20 (fun H locs hP hS => ?_)
            obtain ⟨S20, h21, hs⟩ := bv_e hs
            refine kX0_store C tM_X2_161 ⟨Nat.le_of_ble_eq_true rfl, Nat.le_of_ble_eq_true rfl⟩ ⟨Nat.le_of_ble_eq_true rfl, Nat.le_of_ble_eq_true rfl⟩ hK hP hS hl.1 (rest := []) (Nat.le_of_ble_eq_true rfl) dX2_single_203 h21 (fun H locs hP hS => ?_)
            refine lv_goto (tgt := 220) hx hb dX2_single_206 (by decide) ?_
            exact u_vret hx hb hr hlocks hP hS hs dX2_single_220
          have hs := if_f c8 hs
          refine u_tableD (tgt := 209) hx hb dX2_single_80 (fun hlo hhi => ?_) (by decide) ?_
          · have hz : (r1).toInt = 0 ∨ (r1).toInt = 1 ∨ (r1).toInt = 2 ∨ (r1).toInt = 3 := by omega
            rcases hz with hz | hz | hz | hz
            · exact absurd hz (lv_neT c5 (by decide))
            · exact absurd hz (lv_neT c6 (by decide))
            · exact absurd hz (lv_neT c7 (by decide))
            · exact absurd hz (lv_neT c8 (by decide))
          refine lv_aload_n hx hb dX2_single_209 rfl (lv_at hl 4 rfl) ?_
          refine gB_X2_arithmetic hx hb hT hown hK hP (hT _ tF_X2_24) dX2_single_210 ?_
          refine lv_aload_n hx hb dX2_single_213 rfl (lv_at hl 2 rfl) ?_
          refine lv_iload hx hb dX2_single_214 (lv_at hl 0 rfl) ?_
          obtain ⟨r11, S21, h22, hs⟩ := bd_e hs
          refine kX1_logic C tM_X2_203 ⟨Nat.le_of_ble_eq_true rfl, Nat.le_of_ble_eq_true rfl⟩ ⟨Nat.le_of_ble_eq_true rfl, Nat.le_of_ble_eq_true rfl⟩ hK hP hS hl.1 (rest := []) (Nat.le_of_ble_eq_true rfl) dX2_single_216 h22 (fun H locs hP hS => ?_)
          refine lv_pop hx hb dX2_single_219 rfl ?_
          exact u_vret hx hb hr hlocks hP hS hs dX2_single_220
        · have hs := if_f c4 hs
          exact u_vret hx hb hr hlocks hP hS hs dX2_single_44
      · have hs := if_f c3 hs
        refine lv_aload_n hx hb dX2_single_25 rfl (lv_at hl 1 rfl) ?_
        obtain ⟨S22, h23, hs⟩ := bv_e hs
        refine kX2_illegal C tM_X2_178 ⟨Nat.le_of_ble_eq_true rfl, Nat.le_of_ble_eq_true rfl⟩ ⟨Nat.le_of_ble_eq_true rfl, Nat.le_of_ble_eq_true rfl⟩ hK hP hS hl.1 (rest := []) (Nat.le_of_ble_eq_true rfl) dX2_single_26 h23 (fun H locs hP hS => ?_)
        exact u_vret hx hb hr hlocks hP hS hs dX2_single_29
theorem kX2_single {p : Program} {l : Launch} {e : Env} {R : Room} {s : State} {m : MethodId} {args : Array Value} {below : List Frame} {meth : Method} {c : Code} {H : Heap} {locs : List Loc} {cells slots : Nat} {Q : State → Prop} {cc : ByteArray} {pc nL : Nat} {ls : Array Slot} {rest : List Value} {D : va_G} {ad : Nat → Nat} {cI cB : ClassId} {en : Nat → Nat} {S : St} {own : String} {index : Nat} {x1 : Int32} {So : St} (C : CallFix p m c cc nL s args wG own) (hlk : Cond.methodLink own index yX2_single ∈ wG) (hR : rmX2_single.frames + 1 ≤ R.frames ∧ 8 + (7 + 11) + rmX2_single.locals ≤ R.locals) (hc : cells ≤ R.cells ∧ slots ≤ R.slots) (hK : KB D ad cI cB en s) (hP : va_P D vwCl (wB ad cI cB S) H) (hS : va_S (AX 10 ad s.heap.size) s.heap H locs) (hls : ls.size = nL) (hrest : (rest.map fun v => v.category).sum ≤ 8) (hd : decode cc pc = .ok (.invokevirtual index, 3)) (hs : fX2_single x1 S = some So) (k : ∀ (H : Heap) (locs : List Loc), va_P D vwCl (wB ad cI cB So) H → va_S (AX 10 ad s.heap.size) s.heap H locs → W p l e R s m args below meth c H locs cells slots Q (F0 m (pc + 3) ls (rest))) : W p l e R s m args below meth c H locs cells slots Q (F0 m pc ls (.int x1 :: .ref (ad 4) :: rest)) :=
  u_callV (n := 1) (mX2_single l D ad cI cB en S x1 So hs) C uK_B (wg_V hlk tI_X2_single tS_X2_single tN_X2 tK_X2_single) rfl rfl rfl (by decide +kernel) hR rfl (va_recv hK.1 hP (ci := 2) (q0 := 4) rfl rfl) hK hP hS hls hrest hd hc rfl k
def fX2_lineFour (x1 : Int32) (S : St) : Option St :=
    (bd (fX2_isTo x1 S) fun b1 S1 => (jn (fun (v1 : Int32) => (if v1 = 192 then (bv (fX2_moveFromStatus x1 S1) fun S2 => (some S2))
    else (if v1 = 384 then (bv (fX2_check x1 S1) fun S3 => (some S3))
    else (if v1 = 448 then (bv (fX2_loadAddress x1 S1) fun S4 => (some S4))
    else (if v1 = 1216 then (bv (fX2_moveToStatus x1 S1) fun S5 => (some S5))
    else (if v1 = 1728 then (bv (fX2_moveToStatus x1 S1) fun S6 => (some S6))
    else (if v1 = 2048 then (bv (fX2_negateDecimal x1 S1) fun S7 => (some S7))
    else (if v1 = 2112 then (bv (fX2_swapOrPushAddress x1 S1) fun S8 => (some S8))
    else (if v1 = 2176 then (bv (fX2_extendOrStoreMany x1 S1) fun S9 => (some S9))
    else (if v1 = 2240 then (bv (fX2_extendOrStoreMany x1 S1) fun S10 => (some S10))
    else (if v1 = 2752 then (bv (fX2_testAndSet x1 S1) fun S11 => (some S11))
    else (if v1 = 3200 then (bv (fX2_loadMany x1 S1) fun S12 => (some S12))
    else (if v1 = 3264 then (bv (fX2_loadMany x1 S1) fun S13 => (some S13))
    else (if v1 = 3648 then (bv (fX2_special x1 S1) fun S14 => (some S14))
    else (if v1 = 3712 then (bv (fX2_jump x1 S1) fun S15 => (some S15))
    else (if v1 = 3776 then (bv (fX2_jump x1 S1) fun S16 => (some S16))
    else (bv (fX2_single x1 S1) fun S17 => (some S17)))))))))))))))))) fun K1 =>
    (if (zI b1) = 0 then (K1 (x1 &&& 4032))
    else (K1 (x1 &&& 448)))))
abbrev rmX2_lineFour : Room := { frames := 4, cells := 0, slots := 0, locals := 104 }
set_option maxRecDepth 100000 in
set_option maxHeartbeats 4000000 in
theorem mX2_lineFour (l : Launch) (D : va_G) (ad : Nat → Nat) (cI cB : ClassId) (en : Nat → Nat) (S : St) (x1 : Int32) (So : St) (hs : fX2_lineFour x1 S = some So) : uM l yX2_lineFour (wg yX2_lineFour cX2_lineFour 2 none) rmX2_lineFour (KB D ad cI cB en) D (wB ad cI cB) (AX 10 ad) [.ref (ad 4), .int x1] S (none, So) := by
  refine uM_start (by decide) rfl ?_
  intro p e s m below meth c hx hb hr hlocks hml hown hts hK hP
  have hT : ∀ w ∈ wG, w.before _ s = true := fun w h => hts w (List.mem_cons_of_mem _ h)
  have hS : va_S (AX 10 ad s.heap.size) s.heap s.heap [] := va_S.rf
  have hown : s.vm.findClass RX2 = some m.cls := hown
  have C : CallFix p m c cX2_lineFour 2 s _ wG RX2 := ⟨hx, hb, hml, hown, hT⟩
  have hl := lv_entry ([.ref (ad 4), .int x1]) (n := 2) (Nat.le_of_ble_eq_true rfl)
  rw [lg_entry_eq]
  generalize (lg_sl ([.ref (ad 4), .int x1]) ++ List.replicate (2 - (lg_sl ([.ref (ad 4), .int x1])).length) Slot.unset).toArray = ls at hl ⊢
  have hl : lv_has ls 2 [(0, .ref (ad 4)), (1, .int x1)] := hl
  unfold fX2_lineFour at hs
  refine lv_iload_n hx hb dX2_lineFour_0 rfl (lv_at hl 1 rfl) ?_
  obtain ⟨b1, S1, h1, hs⟩ := bd_e hs
  refine kX2_isTo C tM_X2_107 ⟨Nat.le_of_ble_eq_true rfl, Nat.le_of_ble_eq_true rfl⟩ ⟨Nat.le_of_ble_eq_true rfl, Nat.le_of_ble_eq_true rfl⟩ hK hP hS hl.1 (rest := []) (Nat.le_of_ble_eq_true rfl) dX2_lineFour_1 h1 (fun H locs hP hS => ?_)
  refine jn_e hs (fun K1 => ∀ (v1 : Int32) (H : Heap) (locs : List Loc) (ls : Array Slot), lv_has ls 2 [(0, .ref (ad 4)), (1, .int x1)] → va_P D vwCl (wB ad cI cB S1) H → va_S (AX 10 ad s.heap.size) s.heap H locs → K1 v1 = some So → W p l e rmX2_lineFour s m ([.ref (ad 4), .int x1] : List Value).toArray below meth c H locs 0 0 (MQ below (uQ D (wB ad cI cB) (none, So) (AX 10 ad s.heap.size)) ([.ref (ad 4), .int x1] : List Value).toArray s 0 0 (AX 10 ad s.heap.size)) (F0 m 20 ls [.int v1])) ?_ (fun K1 J1 hs => ?_)
  · intro v1 H locs ls hl hP hS hs
    by_cases c1 : v1 = 192
    · have hs := if_t c1 hs
      refine lv_lookup (off := 148) (tgt := 168) hx hb dX2_lineFour_20 (by decide) (by rw [c1]; decide) (by decide) ?_
      refine lv_aload_n hx hb dX2_lineFour_168 rfl (lv_at hl 0 rfl) ?_
      refine lv_iload_n hx hb dX2_lineFour_169 rfl (lv_at hl 1 rfl) ?_
      obtain ⟨S2, h2, hs⟩ := bv_e hs
      refine kX2_moveFromStatus C tM_X2_212 ⟨Nat.le_of_ble_eq_true rfl, Nat.le_of_ble_eq_true rfl⟩ ⟨Nat.le_of_ble_eq_true rfl, Nat.le_of_ble_eq_true rfl⟩ hK hP hS hl.1 (rest := []) (Nat.le_of_ble_eq_true rfl) dX2_lineFour_170 h2 (fun H locs hP hS => ?_)
      refine lv_goto (tgt := 245) hx hb dX2_lineFour_173 (by decide) ?_
      exact u_vret hx hb hr hlocks hP hS hs dX2_lineFour_245
    have hs := if_f c1 hs
    by_cases c2 : v1 = 384
    · have hs := if_t c2 hs
      refine lv_lookup (off := 132) (tgt := 152) hx hb dX2_lineFour_20 (by decide) (by rw [c2]; decide) (by decide) ?_
      refine lv_aload_n hx hb dX2_lineFour_152 rfl (lv_at hl 0 rfl) ?_
      refine lv_iload_n hx hb dX2_lineFour_153 rfl (lv_at hl 1 rfl) ?_
      obtain ⟨S3, h3, hs⟩ := bv_e hs
      refine kX2_check C tM_X2_206 ⟨Nat.le_of_ble_eq_true rfl, Nat.le_of_ble_eq_true rfl⟩ ⟨Nat.le_of_ble_eq_true rfl, Nat.le_of_ble_eq_true rfl⟩ hK hP hS hl.1 (rest := []) (Nat.le_of_ble_eq_true rfl) dX2_lineFour_154 h3 (fun H locs hP hS => ?_)
      refine lv_goto (tgt := 245) hx hb dX2_lineFour_157 (by decide) ?_
      exact u_vret hx hb hr hlocks hP hS hs dX2_lineFour_245
    have hs := if_f c2 hs
    by_cases c3 : v1 = 448
    · have hs := if_t c3 hs
      refine lv_lookup (off := 140) (tgt := 160) hx hb dX2_lineFour_20 (by decide) (by rw [c3]; decide) (by decide) ?_
      refine lv_aload_n hx hb dX2_lineFour_160 rfl (lv_at hl 0 rfl) ?_
      refine lv_iload_n hx hb dX2_lineFour_161 rfl (lv_at hl 1 rfl) ?_
      obtain ⟨S4, h4, hs⟩ := bv_e hs
      refine kX2_loadAddress C tM_X2_209 ⟨Nat.le_of_ble_eq_true rfl, Nat.le_of_ble_eq_true rfl⟩ ⟨Nat.le_of_ble_eq_true rfl, Nat.le_of_ble_eq_true rfl⟩ hK hP hS hl.1 (rest := []) (Nat.le_of_ble_eq_true rfl) dX2_lineFour_162 h4 (fun H locs hP hS => ?_)
      refine lv_goto (tgt := 245) hx hb dX2_lineFour_165 (by decide) ?_
      exact u_vret hx hb hr hlocks hP hS hs dX2_lineFour_245
    have hs := if_f c3 hs
    by_cases c4 : v1 = 1216
    · have hs := if_t c4 hs
      refine lv_lookup (off := 156) (tgt := 176) hx hb dX2_lineFour_20 (by decide) (by rw [c4]; decide) (by decide) ?_
      refine lv_aload_n hx hb dX2_lineFour_176 rfl (lv_at hl 0 rfl) ?_
      refine lv_iload_n hx hb dX2_lineFour_177 rfl (lv_at hl 1 rfl) ?_
      obtain ⟨S5, h5, hs⟩ := bv_e hs
      refine kX2_moveToStatus C tM_X2_215 ⟨Nat.le_of_ble_eq_true rfl, Nat.le_of_ble_eq_true rfl⟩ ⟨Nat.le_of_ble_eq_true rfl, Nat.le_of_ble_eq_true rfl⟩ hK hP hS hl.1 (rest := []) (Nat.le_of_ble_eq_true rfl) dX2_lineFour_178 h5 (fun H locs hP hS => ?_)
      refine lv_goto (tgt := 245) hx hb dX2_lineFour_181 (by decide) ?_
      exact u_vret hx hb hr hlocks hP hS hs dX2_lineFour_245
    have hs := if_f c4 hs
    by_cases c5 : v1 = 1728
    · have hs := if_t c5 hs
      refine lv_lookup (off := 156) (tgt := 176) hx hb dX2_lineFour_20 (by decide) (by rw [c5]; decide) (by decide) ?_
      refine lv_aload_n hx hb dX2_lineFour_176 rfl (lv_at hl 0 rfl) ?_
      refine lv_iload_n hx hb dX2_lineFour_177 rfl (lv_at hl 1 rfl) ?_
      obtain ⟨S6, h6, hs⟩ := bv_e hs
      refine kX2_moveToStatus C tM_X2_215 ⟨Nat.le_of_ble_eq_true rfl, Nat.le_of_ble_eq_true rfl⟩ ⟨Nat.le_of_ble_eq_true rfl, Nat.le_of_ble_eq_true rfl⟩ hK hP hS hl.1 (rest := []) (Nat.le_of_ble_eq_true rfl) dX2_lineFour_178 h6 (fun H locs hP hS => ?_)
      refine lv_goto (tgt := 245) hx hb dX2_lineFour_181 (by decide) ?_
      exact u_vret hx hb hr hlocks hP hS hs dX2_lineFour_245
    have hs := if_f c5 hs
    by_cases c6 : v1 = 2048
    · have hs := if_t c6 hs
      refine lv_lookup (off := 164) (tgt := 184) hx hb dX2_lineFour_20 (by decide) (by rw [c6]; decide) (by decide) ?_
      refine lv_aload_n hx hb dX2_lineFour_184 rfl (lv_at hl 0 rfl) ?_
      refine lv_iload_n hx hb dX2_lineFour_185 rfl (lv_at hl 1 rfl) ?_
      obtain ⟨S7, h7, hs⟩ := bv_e hs
      refine kX2_negateDecimal C tM_X2_218 ⟨Nat.le_of_ble_eq_true rfl, Nat.le_of_ble_eq_true rfl⟩ ⟨Nat.le_of_ble_eq_true rfl, Nat.le_of_ble_eq_true rfl⟩ hK hP hS hl.1 (rest := []) (Nat.le_of_ble_eq_true rfl) dX2_lineFour_186 h7 (fun H locs hP hS => ?_)
      refine lv_goto (tgt := 245) hx hb dX2_lineFour_189 (by decide) ?_
      exact u_vret hx hb hr hlocks hP hS hs dX2_lineFour_245
    have hs := if_f c6 hs
    by_cases c7 : v1 = 2112
    · have hs := if_t c7 hs
      refine lv_lookup (off := 172) (tgt := 192) hx hb dX2_lineFour_20 (by decide) (by rw [c7]; decide) (by decide) ?_
      refine lv_aload_n hx hb dX2_lineFour_192 rfl (lv_at hl 0 rfl) ?_
      refine lv_iload_n hx hb dX2_lineFour_193 rfl (lv_at hl 1 rfl) ?_
      obtain ⟨S8, h8, hs⟩ := bv_e hs
      refine kX2_swapOrPushAddress C tM_X2_221 ⟨Nat.le_of_ble_eq_true rfl, Nat.le_of_ble_eq_true rfl⟩ ⟨Nat.le_of_ble_eq_true rfl, Nat.le_of_ble_eq_true rfl⟩ hK hP hS hl.1 (rest := []) (Nat.le_of_ble_eq_true rfl) dX2_lineFour_194 h8 (fun H locs hP hS => ?_)
      refine lv_goto (tgt := 245) hx hb dX2_lineFour_197 (by decide) ?_
      exact u_vret hx hb hr hlocks hP hS hs dX2_lineFour_245
    have hs := if_f c7 hs
    by_cases c8 : v1 = 2176
    · have hs := if_t c8 hs
      refine lv_lookup (off := 180) (tgt := 200) hx hb dX2_lineFour_20 (by decide) (by rw [c8]; decide) (by decide) ?_
      refine lv_aload_n hx hb dX2_lineFour_200 rfl (lv_at hl 0 rfl) ?_
      refine lv_iload_n hx hb dX2_lineFour_201 rfl (lv_at hl 1 rfl) ?_
      obtain ⟨S9, h9, hs⟩ := bv_e hs
      refine kX2_extendOrStoreMany C tM_X2_224 ⟨Nat.le_of_ble_eq_true rfl, Nat.le_of_ble_eq_true rfl⟩ ⟨Nat.le_of_ble_eq_true rfl, Nat.le_of_ble_eq_true rfl⟩ hK hP hS hl.1 (rest := []) (Nat.le_of_ble_eq_true rfl) dX2_lineFour_202 h9 (fun H locs hP hS => ?_)
      refine lv_goto (tgt := 245) hx hb dX2_lineFour_205 (by decide) ?_
      exact u_vret hx hb hr hlocks hP hS hs dX2_lineFour_245
    have hs := if_f c8 hs
    by_cases c9 : v1 = 2240
    · have hs := if_t c9 hs
      refine lv_lookup (off := 180) (tgt := 200) hx hb dX2_lineFour_20 (by decide) (by rw [c9]; decide) (by decide) ?_
      refine lv_aload_n hx hb dX2_lineFour_200 rfl (lv_at hl 0 rfl) ?_
      refine lv_iload_n hx hb dX2_lineFour_201 rfl (lv_at hl 1 rfl) ?_
      obtain ⟨S10, h10, hs⟩ := bv_e hs
      refine kX2_extendOrStoreMany C tM_X2_224 ⟨Nat.le_of_ble_eq_true rfl, Nat.le_of_ble_eq_true rfl⟩ ⟨Nat.le_of_ble_eq_true rfl, Nat.le_of_ble_eq_true rfl⟩ hK hP hS hl.1 (rest := []) (Nat.le_of_ble_eq_true rfl) dX2_lineFour_202 h10 (fun H locs hP hS => ?_)
      refine lv_goto (tgt := 245) hx hb dX2_lineFour_205 (by decide) ?_
      exact u_vret hx hb hr hlocks hP hS hs dX2_lineFour_245
    have hs := if_f c9 hs
    by_cases c10 : v1 = 2752
    · have hs := if_t c10 hs
      refine lv_lookup (off := 188) (tgt := 208) hx hb dX2_lineFour_20 (by decide) (by rw [c10]; decide) (by decide) ?_
      refine lv_aload_n hx hb dX2_lineFour_208 rfl (lv_at hl 0 rfl) ?_
      refine lv_iload_n hx hb dX2_lineFour_209 rfl (lv_at hl 1 rfl) ?_
      obtain ⟨S11, h11, hs⟩ := bv_e hs
      refine kX2_testAndSet C tM_X2_227 ⟨Nat.le_of_ble_eq_true rfl, Nat.le_of_ble_eq_true rfl⟩ ⟨Nat.le_of_ble_eq_true rfl, Nat.le_of_ble_eq_true rfl⟩ hK hP hS hl.1 (rest := []) (Nat.le_of_ble_eq_true rfl) dX2_lineFour_210 h11 (fun H locs hP hS => ?_)
      refine lv_goto (tgt := 245) hx hb dX2_lineFour_213 (by decide) ?_
      exact u_vret hx hb hr hlocks hP hS hs dX2_lineFour_245
    have hs := if_f c10 hs
    by_cases c11 : v1 = 3200
    · have hs := if_t c11 hs
      refine lv_lookup (off := 196) (tgt := 216) hx hb dX2_lineFour_20 (by decide) (by rw [c11]; decide) (by decide) ?_
      refine lv_aload_n hx hb dX2_lineFour_216 rfl (lv_at hl 0 rfl) ?_
      refine lv_iload_n hx hb dX2_lineFour_217 rfl (lv_at hl 1 rfl) ?_
      obtain ⟨S12, h12, hs⟩ := bv_e hs
      refine kX2_loadMany C tM_X2_230 ⟨Nat.le_of_ble_eq_true rfl, Nat.le_of_ble_eq_true rfl⟩ ⟨Nat.le_of_ble_eq_true rfl, Nat.le_of_ble_eq_true rfl⟩ hK hP hS hl.1 (rest := []) (Nat.le_of_ble_eq_true rfl) dX2_lineFour_218 h12 (fun H locs hP hS => ?_)
      refine lv_goto (tgt := 245) hx hb dX2_lineFour_221 (by decide) ?_
      exact u_vret hx hb hr hlocks hP hS hs dX2_lineFour_245
    have hs := if_f c11 hs
    by_cases c12 : v1 = 3264
    · have hs := if_t c12 hs
      refine lv_lookup (off := 196) (tgt := 216) hx hb dX2_lineFour_20 (by decide) (by rw [c12]; decide) (by decide) ?_
      refine lv_aload_n hx hb dX2_lineFour_216 rfl (lv_at hl 0 rfl) ?_
      refine lv_iload_n hx hb dX2_lineFour_217 rfl (lv_at hl 1 rfl) ?_
      obtain ⟨S13, h13, hs⟩ := bv_e hs
      refine kX2_loadMany C tM_X2_230 ⟨Nat.le_of_ble_eq_true rfl, Nat.le_of_ble_eq_true rfl⟩ ⟨Nat.le_of_ble_eq_true rfl, Nat.le_of_ble_eq_true rfl⟩ hK hP hS hl.1 (rest := []) (Nat.le_of_ble_eq_true rfl) dX2_lineFour_218 h13 (fun H locs hP hS => ?_)
      refine lv_goto (tgt := 245) hx hb dX2_lineFour_221 (by decide) ?_
      exact u_vret hx hb hr hlocks hP hS hs dX2_lineFour_245
    have hs := if_f c12 hs
    by_cases c13 : v1 = 3648
    · have hs := if_t c13 hs
      refine lv_lookup (off := 204) (tgt := 224) hx hb dX2_lineFour_20 (by decide) (by rw [c13]; decide) (by decide) ?_
      refine lv_aload_n hx hb dX2_lineFour_224 rfl (lv_at hl 0 rfl) ?_
      refine lv_iload_n hx hb dX2_lineFour_225 rfl (lv_at hl 1 rfl) ?_
      obtain ⟨S14, h14, hs⟩ := bv_e hs
      refine kX2_special C tM_X2_233 ⟨Nat.le_of_ble_eq_true rfl, Nat.le_of_ble_eq_true rfl⟩ ⟨Nat.le_of_ble_eq_true rfl, Nat.le_of_ble_eq_true rfl⟩ hK hP hS hl.1 (rest := []) (Nat.le_of_ble_eq_true rfl) dX2_lineFour_226 h14 (fun H locs hP hS => ?_)
      refine lv_goto (tgt := 245) hx hb dX2_lineFour_229 (by decide) ?_
      exact u_vret hx hb hr hlocks hP hS hs dX2_lineFour_245
    have hs := if_f c13 hs
    by_cases c14 : v1 = 3712
    · have hs := if_t c14 hs
      refine lv_lookup (off := 212) (tgt := 232) hx hb dX2_lineFour_20 (by decide) (by rw [c14]; decide) (by decide) ?_
      refine lv_aload_n hx hb dX2_lineFour_232 rfl (lv_at hl 0 rfl) ?_
      refine lv_iload_n hx hb dX2_lineFour_233 rfl (lv_at hl 1 rfl) ?_
      obtain ⟨S15, h15, hs⟩ := bv_e hs
      refine kX2_jump C tM_X2_236 ⟨Nat.le_of_ble_eq_true rfl, Nat.le_of_ble_eq_true rfl⟩ ⟨Nat.le_of_ble_eq_true rfl, Nat.le_of_ble_eq_true rfl⟩ hK hP hS hl.1 (rest := []) (Nat.le_of_ble_eq_true rfl) dX2_lineFour_234 h15 (fun H locs hP hS => ?_)
      refine lv_goto (tgt := 245) hx hb dX2_lineFour_237 (by decide) ?_
      exact u_vret hx hb hr hlocks hP hS hs dX2_lineFour_245
    have hs := if_f c14 hs
    by_cases c15 : v1 = 3776
    · have hs := if_t c15 hs
      refine lv_lookup (off := 212) (tgt := 232) hx hb dX2_lineFour_20 (by decide) (by rw [c15]; decide) (by decide) ?_
      refine lv_aload_n hx hb dX2_lineFour_232 rfl (lv_at hl 0 rfl) ?_
      refine lv_iload_n hx hb dX2_lineFour_233 rfl (lv_at hl 1 rfl) ?_
      obtain ⟨S16, h16, hs⟩ := bv_e hs
      refine kX2_jump C tM_X2_236 ⟨Nat.le_of_ble_eq_true rfl, Nat.le_of_ble_eq_true rfl⟩ ⟨Nat.le_of_ble_eq_true rfl, Nat.le_of_ble_eq_true rfl⟩ hK hP hS hl.1 (rest := []) (Nat.le_of_ble_eq_true rfl) dX2_lineFour_234 h16 (fun H locs hP hS => ?_)
      refine lv_goto (tgt := 245) hx hb dX2_lineFour_237 (by decide) ?_
      exact u_vret hx hb hr hlocks hP hS hs dX2_lineFour_245
    have hs := if_f c15 hs
    refine lv_lookup (off := 220) (tgt := 240) hx hb dX2_lineFour_20 (by decide) ((lv_osw c1 (by decide)).trans ((lv_osw c2 (by decide)).trans ((lv_osw c3 (by decide)).trans ((lv_osw c4 (by decide)).trans ((lv_osw c5 (by decide)).trans ((lv_osw c6 (by decide)).trans ((lv_osw c7 (by decide)).trans ((lv_osw c8 (by decide)).trans ((lv_osw c9 (by decide)).trans ((lv_osw c10 (by decide)).trans ((lv_osw c11 (by decide)).trans ((lv_osw c12 (by decide)).trans ((lv_osw c13 (by decide)).trans ((lv_osw c14 (by decide)).trans ((lv_osw c15 (by decide)).trans (rfl)))))))))))))))) (by decide) ?_
    refine lv_aload_n hx hb dX2_lineFour_240 rfl (lv_at hl 0 rfl) ?_
    refine lv_iload_n hx hb dX2_lineFour_241 rfl (lv_at hl 1 rfl) ?_
    obtain ⟨S17, h17, hs⟩ := bv_e hs
    refine kX2_single C tM_X2_239 ⟨Nat.le_of_ble_eq_true rfl, Nat.le_of_ble_eq_true rfl⟩ ⟨Nat.le_of_ble_eq_true rfl, Nat.le_of_ble_eq_true rfl⟩ hK hP hS hl.1 (rest := []) (Nat.le_of_ble_eq_true rfl) dX2_lineFour_242 h17 (fun H locs hP hS => ?_)
    exact u_vret hx hb hr hlocks hP hS hs dX2_lineFour_245
  ·
    refine lv_if_eq (tgt := 15) hx hb dX2_lineFour_4 (by decide) (fun c16 => ?_) (fun c16 => ?_)
    · have hs := if_t c16 hs
      refine lv_iload_n hx hb dX2_lineFour_15 rfl (lv_at hl 1 rfl) ?_
      refine lv_sipush (v := 4032) hx hb dX2_lineFour_16 (by decide) ?_
      refine lv_iand hx hb dX2_lineFour_19 ?_
      exact J1 (x1 &&& 4032) _ _ _ (lv_sub hl [0, 1] rfl) hP hS hs
    · have hs := if_f c16 hs
      refine lv_iload_n hx hb dX2_lineFour_7 rfl (lv_at hl 1 rfl) ?_
      refine lv_sipush (v := 448) hx hb dX2_lineFour_8 (by decide) ?_
      refine lv_iand hx hb dX2_lineFour_11 ?_
      refine lv_goto (tgt := 20) hx hb dX2_lineFour_12 (by decide) ?_
      exact J1 (x1 &&& 448) _ _ _ (lv_sub hl [0, 1] rfl) hP hS hs
theorem kX2_lineFour {p : Program} {l : Launch} {e : Env} {R : Room} {s : State} {m : MethodId} {args : Array Value} {below : List Frame} {meth : Method} {c : Code} {H : Heap} {locs : List Loc} {cells slots : Nat} {Q : State → Prop} {cc : ByteArray} {pc nL : Nat} {ls : Array Slot} {rest : List Value} {D : va_G} {ad : Nat → Nat} {cI cB : ClassId} {en : Nat → Nat} {S : St} {own : String} {index : Nat} {x1 : Int32} {So : St} (C : CallFix p m c cc nL s args wG own) (hlk : Cond.methodLink own index yX2_lineFour ∈ wG) (hR : rmX2_lineFour.frames + 1 ≤ R.frames ∧ 8 + (2 + 11) + rmX2_lineFour.locals ≤ R.locals) (hc : cells ≤ R.cells ∧ slots ≤ R.slots) (hK : KB D ad cI cB en s) (hP : va_P D vwCl (wB ad cI cB S) H) (hS : va_S (AX 10 ad s.heap.size) s.heap H locs) (hls : ls.size = nL) (hrest : (rest.map fun v => v.category).sum ≤ 8) (hd : decode cc pc = .ok (.invokevirtual index, 3)) (hs : fX2_lineFour x1 S = some So) (k : ∀ (H : Heap) (locs : List Loc), va_P D vwCl (wB ad cI cB So) H → va_S (AX 10 ad s.heap.size) s.heap H locs → W p l e R s m args below meth c H locs cells slots Q (F0 m (pc + 3) ls (rest))) : W p l e R s m args below meth c H locs cells slots Q (F0 m pc ls (.int x1 :: .ref (ad 4) :: rest)) :=
  u_callV (n := 1) (mX2_lineFour l D ad cI cB en S x1 So hs) C uK_B (wg_V hlk tI_X2_lineFour tS_X2_lineFour tN_X2 tK_X2_lineFour) rfl rfl rfl (by decide +kernel) hR rfl (va_recv hK.1 hP (ci := 2) (q0 := 4) rfl rfl) hK hP hS hls hrest hd hc rfl k
def fX2_quick (x1 : Int32) (S : St) : Option St :=
    (bd (fX2_sizeBits x1 S) fun r1 S1 => (bd (fX5_of r1 S1) fun e1 S2 => (gd (e1 < 3) (bd (fX2_ofSize 511 e1 S2) fun r2 S3 => (bd (fX2_operand x1 S3) fun r3 S4 => (bd (fX2_misfits r2 r3 S4) fun b1 S5 => (if (zI b1) = 0 then (bd (fX2_upper x1 S5) fun r4 S6 => (jn (fun (v1 : Int32) (S7 : St) => (bd (fX2_operand x1 S7) fun r5 S8 => (if (ush r5 3) = 1 then (bd (fX2_lower x1 S8) fun r9 S15 => (lt ((8 + r9) : Int32) fun v3 => (bd (fX4_get v3 S15) fun r10 S16 => (bd (fX2_isTo x1 S16) fun b3 S17 => (jn (fun (v4 : Int32) => (bv (fX4_set v3 (r10 + v4) S17) fun S18 => (some S18))) fun K3 =>
    (if (zI b3) = 0 then (K3 v1)
    else (K3 (-v1))))))))
    else (bd (fX2_operand x1 S8) fun r6 S9 => (bd (fX0_locate e1 r6 S9) fun w1 S10 => (bd (fX0_load e1 w1 S10) fun r7 S11 => (bd (fX2_isTo x1 S11) fun b2 S12 => (jn (fun (v2 : Int32) => (bd (fX1_joined v2 e1 r7 v1 S12) fun r8 S13 => (bv (fX0_store e1 w1 r8 S13) fun S14 => (some S14)))) fun K2 =>
    (if (zI b2) = 0 then (K2 3)
    else (K2 2)))))))))) fun K1 =>
    (if r4 = 0 then (K1 8 S6)
    else (bd (fX2_upper x1 S6) fun r11 S19 => (K1 r11 S19)))))
    else (some S5))))))))
abbrev rmX2_quick : Room := { frames := 3, cells := 0, slots := 0, locals := 76 }
set_option maxRecDepth 100000 in
set_option maxHeartbeats 4000000 in
theorem mX2_quick (l : Launch) (D : va_G) (ad : Nat → Nat) (cI cB : ClassId) (en : Nat → Nat) (S : St) (x1 : Int32) (So : St) (hs : fX2_quick x1 S = some So) : uM l yX2_quick (wg yX2_quick cX2_quick 7 none) rmX2_quick (KB D ad cI cB en) D (wB ad cI cB) (AX 10 ad) [.ref (ad 4), .int x1] S (none, So) := by
  refine uM_start (by decide) rfl ?_
  intro p e s m below meth c hx hb hr hlocks hml hown hts hK hP
  have hT : ∀ w ∈ wG, w.before _ s = true := fun w h => hts w (List.mem_cons_of_mem _ h)
  have hS : va_S (AX 10 ad s.heap.size) s.heap s.heap [] := va_S.rf
  have hown : s.vm.findClass RX2 = some m.cls := hown
  have C : CallFix p m c cX2_quick 7 s _ wG RX2 := ⟨hx, hb, hml, hown, hT⟩
  have hl := lv_entry ([.ref (ad 4), .int x1]) (n := 7) (Nat.le_of_ble_eq_true rfl)
  rw [lg_entry_eq]
  generalize (lg_sl ([.ref (ad 4), .int x1]) ++ List.replicate (7 - (lg_sl ([.ref (ad 4), .int x1])).length) Slot.unset).toArray = ls at hl ⊢
  have hl : lv_has ls 7 [(0, .ref (ad 4)), (1, .int x1)] := hl
  unfold fX2_quick at hs
  refine lv_iload_n hx hb dX2_quick_0 rfl (lv_at hl 1 rfl) ?_
  obtain ⟨r1, S1, h1, hs⟩ := bd_e hs
  refine kX2_sizeBits C tM_X2_98 ⟨Nat.le_of_ble_eq_true rfl, Nat.le_of_ble_eq_true rfl⟩ ⟨Nat.le_of_ble_eq_true rfl, Nat.le_of_ble_eq_true rfl⟩ hK hP hS hl.1 (rest := []) (Nat.le_of_ble_eq_true rfl) dX2_quick_1 h1 (fun H locs hP hS => ?_)
  obtain ⟨e1, S2, h2, hs⟩ := bd_e hs
  refine kX5_of C tM_X2_181 ⟨Nat.le_of_ble_eq_true rfl, Nat.le_of_ble_eq_true rfl⟩ ⟨Nat.le_of_ble_eq_true rfl, Nat.le_of_ble_eq_true rfl⟩ hK hP hS hl.1 (rest := []) (Nat.le_of_ble_eq_true rfl) dX2_quick_4 h2 (fun H locs hP hS => ?_)
  obtain ⟨h3, hs⟩ := gd_e hs
  refine lv_astore_n (lv' := [(2, .ref (en e1)), (0, .ref (ad 4)), (1, .int x1)]) hx hb dX2_quick_7 rfl hl (by decide) rfl (fun ls hl => ?_)
  refine lv_aload_n hx hb dX2_quick_8 rfl (lv_at hl 1 rfl) ?_
  refine lv_sipush (v := 511) hx hb dX2_quick_9 (by decide) ?_
  refine lv_aload_n hx hb dX2_quick_12 rfl (lv_at hl 0 rfl) ?_
  obtain ⟨r2, S3, h4, hs⟩ := bd_e hs
  refine kX2_ofSize C tM_X2_196 ⟨Nat.le_of_ble_eq_true rfl, Nat.le_of_ble_eq_true rfl⟩ ⟨Nat.le_of_ble_eq_true rfl, Nat.le_of_ble_eq_true rfl⟩ hK hP hS hl.1 (rest := [.ref (ad 4)]) (Nat.le_of_ble_eq_true rfl) dX2_quick_13 h4 (fun H locs hP hS => ?_)
  refine lv_iload_n hx hb dX2_quick_16 rfl (lv_at hl 2 rfl) ?_
  obtain ⟨r3, S4, h5, hs⟩ := bd_e hs
  refine kX2_operand C tM_X2_95 ⟨Nat.le_of_ble_eq_true rfl, Nat.le_of_ble_eq_true rfl⟩ ⟨Nat.le_of_ble_eq_true rfl, Nat.le_of_ble_eq_true rfl⟩ hK hP hS hl.1 (rest := [.int r2, .ref (ad 4)]) (Nat.le_of_ble_eq_true rfl) dX2_quick_17 h5 (fun H locs hP hS => ?_)
  obtain ⟨b1, S5, h6, hs⟩ := bd_e hs
  refine kX2_misfits C tM_X2_146 ⟨Nat.le_of_ble_eq_true rfl, Nat.le_of_ble_eq_true rfl⟩ ⟨Nat.le_of_ble_eq_true rfl, Nat.le_of_ble_eq_true rfl⟩ hK hP hS hl.1 (rest := []) (Nat.le_of_ble_eq_true rfl) dX2_quick_20 h6 (fun H locs hP hS => ?_)
  refine lv_if_eq (tgt := 27) hx hb dX2_quick_23 (by decide) (fun c1 => ?_) (fun c1 => ?_)
  · have hs := if_t c1 hs
    refine lv_iload_n hx hb dX2_quick_27 rfl (lv_at hl 2 rfl) ?_
    obtain ⟨r4, S6, h7, hs⟩ := bd_e hs
    refine kX2_upper C tM_X2_101 ⟨Nat.le_of_ble_eq_true rfl, Nat.le_of_ble_eq_true rfl⟩ ⟨Nat.le_of_ble_eq_true rfl, Nat.le_of_ble_eq_true rfl⟩ hK hP hS hl.1 (rest := []) (Nat.le_of_ble_eq_true rfl) dX2_quick_28 h7 (fun H locs hP hS => ?_)
    refine jn_e hs (fun K1 => ∀ (v1 : Int32) (S7 : St) (H : Heap) (locs : List Loc) (ls : Array Slot), lv_has ls 7 [(2, .ref (en e1)), (0, .ref (ad 4)), (1, .int x1)] → va_P D vwCl (wB ad cI cB S7) H → va_S (AX 10 ad s.heap.size) s.heap H locs → K1 v1 S7 = some So → W p l e rmX2_quick s m ([.ref (ad 4), .int x1] : List Value).toArray below meth c H locs 0 0 (MQ below (uQ D (wB ad cI cB) (none, So) (AX 10 ad s.heap.size)) ([.ref (ad 4), .int x1] : List Value).toArray s 0 0 (AX 10 ad s.heap.size)) (F0 m 43 ls [.int v1])) ?_ (fun K1 J1 hs => ?_)
    · intro v1 S7 H locs ls hl hP hS hs
      refine lv_istore_n (lv' := [(3, .int v1), (2, .ref (en e1)), (0, .ref (ad 4)), (1, .int x1)]) hx hb dX2_quick_43 rfl hl (by decide) rfl (fun ls hl => ?_)
      refine lv_iload_n hx hb dX2_quick_44 rfl (lv_at hl 3 rfl) ?_
      obtain ⟨r5, S8, h8, hs⟩ := bd_e hs
      refine kX2_operand C tM_X2_95 ⟨Nat.le_of_ble_eq_true rfl, Nat.le_of_ble_eq_true rfl⟩ ⟨Nat.le_of_ble_eq_true rfl, Nat.le_of_ble_eq_true rfl⟩ hK hP hS hl.1 (rest := []) (Nat.le_of_ble_eq_true rfl) dX2_quick_45 h8 (fun H locs hP hS => ?_)
      refine lv_iconst (v := 3) hx hb dX2_quick_48 (by decide) ?_
      refine lv_iushr (v := (ush r5 3)) hx hb dX2_quick_49 rfl ?_
      refine lv_iconst (v := 1) hx hb dX2_quick_50 (by decide) ?_
      refine lv_icmp_ne (tgt := 98) hx hb dX2_quick_51 (by decide) (fun c2 => ?_) (fun c2 => ?_)
      · have hs := if_f c2 hs
        refine lv_aload_n hx hb dX2_quick_98 rfl (lv_at hl 2 rfl) ?_
        refine gB_X2_access hx hb hT hown hK hP (hT _ tF_X2_15) dX2_quick_99 ?_
        refine lv_aload_n hx hb dX2_quick_102 rfl (lv_at hl 1 rfl) ?_
        refine lv_iload_n hx hb dX2_quick_103 rfl (lv_at hl 3 rfl) ?_
        obtain ⟨r6, S9, h9, hs⟩ := bd_e hs
        refine kX2_operand C tM_X2_95 ⟨Nat.le_of_ble_eq_true rfl, Nat.le_of_ble_eq_true rfl⟩ ⟨Nat.le_of_ble_eq_true rfl, Nat.le_of_ble_eq_true rfl⟩ hK hP hS hl.1 (rest := [.ref (en e1), .ref (ad 3)]) (Nat.le_of_ble_eq_true rfl) dX2_quick_104 h9 (fun H locs hP hS => ?_)
        obtain ⟨w1, S10, h10, hs⟩ := bd_e hs
        refine kX0_locate C tM_X2_150 ⟨Nat.le_of_ble_eq_true rfl, Nat.le_of_ble_eq_true rfl⟩ ⟨Nat.le_of_ble_eq_true rfl, Nat.le_of_ble_eq_true rfl⟩ hK hP hS hl.1 (rest := []) (Nat.le_of_ble_eq_true rfl) dX2_quick_107 h10 (fun H locs hP hS => ?_)
        refine lv_lstore (lv' := [(4, .long w1), (3, .int v1), (2, .ref (en e1)), (0, .ref (ad 4)), (1, .int x1)]) hx hb dX2_quick_110 hl (by decide) rfl (fun ls hl => ?_)
        refine lv_aload_n hx hb dX2_quick_112 rfl (lv_at hl 3 rfl) ?_
        refine gB_X2_access hx hb hT hown hK hP (hT _ tF_X2_15) dX2_quick_113 ?_
        refine lv_aload_n hx hb dX2_quick_116 rfl (lv_at hl 2 rfl) ?_
        refine lv_lload hx hb dX2_quick_117 (lv_at hl 0 rfl) ?_
        obtain ⟨r7, S11, h11, hs⟩ := bd_e hs
        refine kX0_load C tM_X2_154 ⟨Nat.le_of_ble_eq_true rfl, Nat.le_of_ble_eq_true rfl⟩ ⟨Nat.le_of_ble_eq_true rfl, Nat.le_of_ble_eq_true rfl⟩ hK hP hS hl.1 (rest := []) (Nat.le_of_ble_eq_true rfl) dX2_quick_119 h11 (fun H locs hP hS => ?_)
        refine lv_istore (lv' := [(6, .int r7), (4, .long w1), (3, .int v1), (2, .ref (en e1)), (0, .ref (ad 4)), (1, .int x1)]) hx hb dX2_quick_122 hl (by decide) rfl (fun ls hl => ?_)
        refine lv_aload_n hx hb dX2_quick_124 rfl (lv_at hl 4 rfl) ?_
        refine gB_X2_access hx hb hT hown hK hP (hT _ tF_X2_15) dX2_quick_125 ?_
        refine lv_aload_n hx hb dX2_quick_128 rfl (lv_at hl 3 rfl) ?_
        refine lv_lload hx hb dX2_quick_129 (lv_at hl 1 rfl) ?_
        refine lv_aload_n hx hb dX2_quick_131 rfl (lv_at hl 4 rfl) ?_
        refine gB_X2_arithmetic hx hb hT hown hK hP (hT _ tF_X2_24) dX2_quick_132 ?_
        refine lv_iload_n hx hb dX2_quick_135 rfl (lv_at hl 5 rfl) ?_
        obtain ⟨b2, S12, h12, hs⟩ := bd_e hs
        refine kX2_isTo C tM_X2_107 ⟨Nat.le_of_ble_eq_true rfl, Nat.le_of_ble_eq_true rfl⟩ ⟨Nat.le_of_ble_eq_true rfl, Nat.le_of_ble_eq_true rfl⟩ hK hP hS hl.1 (rest := [.ref (ad 5), .long w1, .ref (en e1), .ref (ad 3)]) (Nat.le_of_ble_eq_true rfl) dX2_quick_136 h12 (fun H locs hP hS => ?_)
        refine jn_e hs (fun K2 => ∀ (v2 : Int32) (H : Heap) (locs : List Loc) (ls : Array Slot), lv_has ls 7 [(6, .int r7), (3, .int v1), (2, .ref (en e1))] → va_P D vwCl (wB ad cI cB S12) H → va_S (AX 10 ad s.heap.size) s.heap H locs → K2 v2 = some So → W p l e rmX2_quick s m ([.ref (ad 4), .int x1] : List Value).toArray below meth c H locs 0 0 (MQ below (uQ D (wB ad cI cB) (none, So) (AX 10 ad s.heap.size)) ([.ref (ad 4), .int x1] : List Value).toArray s 0 0 (AX 10 ad s.heap.size)) (F0 m 147 ls [.int v2, .ref (ad 5), .long w1, .ref (en e1), .ref (ad 3)])) ?_ (fun K2 J2 hs => ?_)
        · intro v2 H locs ls hl hP hS hs
          refine lv_aload_n hx hb dX2_quick_147 rfl (lv_at hl 2 rfl) ?_
          refine lv_iload hx hb dX2_quick_148 (lv_at hl 0 rfl) ?_
          refine lv_iload_n hx hb dX2_quick_150 rfl (lv_at hl 1 rfl) ?_
          obtain ⟨r8, S13, h13, hs⟩ := bd_e hs
          refine kX1_joined C tM_X2_192 ⟨Nat.le_of_ble_eq_true rfl, Nat.le_of_ble_eq_true rfl⟩ ⟨Nat.le_of_ble_eq_true rfl, Nat.le_of_ble_eq_true rfl⟩ hK hP hS hl.1 (rest := [.long w1, .ref (en e1), .ref (ad 3)]) (Nat.le_of_ble_eq_true rfl) dX2_quick_151 h13 (fun H locs hP hS => ?_)
          obtain ⟨S14, h14, hs⟩ := bv_e hs
          refine kX0_store C tM_X2_161 ⟨Nat.le_of_ble_eq_true rfl, Nat.le_of_ble_eq_true rfl⟩ ⟨Nat.le_of_ble_eq_true rfl, Nat.le_of_ble_eq_true rfl⟩ hK hP hS hl.1 (rest := []) (Nat.le_of_ble_eq_true rfl) dX2_quick_154 h14 (fun H locs hP hS => ?_)
          exact u_vret hx hb hr hlocks hP hS hs dX2_quick_157
        ·
          refine lv_if_eq (tgt := 146) hx hb dX2_quick_139 (by decide) (fun c3 => ?_) (fun c3 => ?_)
          · have hs := if_t c3 hs
            refine lv_iconst (v := 3) hx hb dX2_quick_146 (by decide) ?_
            exact J2 3 _ _ _ (lv_sub hl [0, 2, 3] rfl) hP hS hs
          · have hs := if_f c3 hs
            refine lv_iconst (v := 2) hx hb dX2_quick_142 (by decide) ?_
            refine lv_goto (tgt := 147) hx hb dX2_quick_143 (by decide) ?_
            exact J2 2 _ _ _ (lv_sub hl [0, 2, 3] rfl) hP hS hs
      · have hs := if_t c2 hs
        refine lv_bipush (v := 8) hx hb dX2_quick_54 (by decide) ?_
        refine lv_iload_n hx hb dX2_quick_56 rfl (lv_at hl 3 rfl) ?_
        obtain ⟨r9, S15, h15, hs⟩ := bd_e hs
        refine kX2_lower C tM_X2_121 ⟨Nat.le_of_ble_eq_true rfl, Nat.le_of_ble_eq_true rfl⟩ ⟨Nat.le_of_ble_eq_true rfl, Nat.le_of_ble_eq_true rfl⟩ hK hP hS hl.1 (rest := [.int 8]) (Nat.le_of_ble_eq_true rfl) dX2_quick_57 h15 (fun H locs hP hS => ?_)
        refine lv_iadd hx hb dX2_quick_60 ?_
        obtain ⟨v3, h16, hs⟩ := lt_e hs
        refine u_top h16 ?_
        refine lv_istore (lv' := [(4, .int v3), (3, .int v1), (2, .ref (en e1)), (0, .ref (ad 4)), (1, .int x1)]) hx hb dX2_quick_61 hl (by decide) rfl (fun ls hl => ?_)
        refine lv_aload_n hx hb dX2_quick_63 rfl (lv_at hl 3 rfl) ?_
        refine gB_X2_registers hx hb hT hown hK hP (hT _ tF_X2_9) dX2_quick_64 ?_
        refine lv_iload hx hb dX2_quick_67 (lv_at hl 0 rfl) ?_
        refine lv_aload_n hx hb dX2_quick_69 rfl (lv_at hl 3 rfl) ?_
        refine gB_X2_registers hx hb hT hown hK hP (hT _ tF_X2_9) dX2_quick_70 ?_
        refine lv_iload hx hb dX2_quick_73 (lv_at hl 0 rfl) ?_
        obtain ⟨r10, S16, h17, hs⟩ := bd_e hs
        refine kX4_get C tM_X2_124 ⟨Nat.le_of_ble_eq_true rfl, Nat.le_of_ble_eq_true rfl⟩ ⟨Nat.le_of_ble_eq_true rfl, Nat.le_of_ble_eq_true rfl⟩ hK hP hS hl.1 (rest := [.int v3, .ref (ad 2)]) (Nat.le_of_ble_eq_true rfl) dX2_quick_75 h17 (fun H locs hP hS => ?_)
        refine lv_iload_n hx hb dX2_quick_78 rfl (lv_at hl 4 rfl) ?_
        obtain ⟨b3, S17, h18, hs⟩ := bd_e hs
        refine kX2_isTo C tM_X2_107 ⟨Nat.le_of_ble_eq_true rfl, Nat.le_of_ble_eq_true rfl⟩ ⟨Nat.le_of_ble_eq_true rfl, Nat.le_of_ble_eq_true rfl⟩ hK hP hS hl.1 (rest := [.int r10, .int v3, .ref (ad 2)]) (Nat.le_of_ble_eq_true rfl) dX2_quick_79 h18 (fun H locs hP hS => ?_)
        refine jn_e hs (fun K3 => ∀ (v4 : Int32) (H : Heap) (locs : List Loc) (ls : Array Slot), lv_has ls 7 [] → va_P D vwCl (wB ad cI cB S17) H → va_S (AX 10 ad s.heap.size) s.heap H locs → K3 v4 = some So → W p l e rmX2_quick s m ([.ref (ad 4), .int x1] : List Value).toArray below meth c H locs 0 0 (MQ below (uQ D (wB ad cI cB) (none, So) (AX 10 ad s.heap.size)) ([.ref (ad 4), .int x1] : List Value).toArray s 0 0 (AX 10 ad s.heap.size)) (F0 m 91 ls [.int v4, .int r10, .int v3, .ref (ad 2)])) ?_ (fun K3 J3 hs => ?_)
        · intro v4 H locs ls hl hP hS hs
          refine lv_iadd hx hb dX2_quick_91 ?_
          obtain ⟨S18, h19, hs⟩ := bv_e hs
          refine kX4_set C tM_X2_143 ⟨Nat.le_of_ble_eq_true rfl, Nat.le_of_ble_eq_true rfl⟩ ⟨Nat.le_of_ble_eq_true rfl, Nat.le_of_ble_eq_true rfl⟩ hK hP hS hl.1 (rest := []) (Nat.le_of_ble_eq_true rfl) dX2_quick_92 h19 (fun H locs hP hS => ?_)
          refine lv_goto (tgt := 157) hx hb dX2_quick_95 (by decide) ?_
          exact u_vret hx hb hr hlocks hP hS hs dX2_quick_157
        ·
          refine lv_if_eq (tgt := 90) hx hb dX2_quick_82 (by decide) (fun c4 => ?_) (fun c4 => ?_)
          · have hs := if_t c4 hs
            refine lv_iload_n hx hb dX2_quick_90 rfl (lv_at hl 1 rfl) ?_
            exact J3 v1 _ _ _ (lv_sub hl [] rfl) hP hS hs
          · have hs := if_f c4 hs
            refine lv_iload_n hx hb dX2_quick_85 rfl (lv_at hl 1 rfl) ?_
            refine lv_ineg hx hb dX2_quick_86 ?_
            refine lv_goto (tgt := 91) hx hb dX2_quick_87 (by decide) ?_
            exact J3 (-v1) _ _ _ (lv_sub hl [] rfl) hP hS hs
    ·
      refine lv_if_ne (tgt := 39) hx hb dX2_quick_31 (by decide) (fun c5 => ?_) (fun c5 => ?_)
      · have hs := if_f c5 hs
        refine lv_iload_n hx hb dX2_quick_39 rfl (lv_at hl 2 rfl) ?_
        obtain ⟨r11, S19, h20, hs⟩ := bd_e hs
        refine kX2_upper C tM_X2_101 ⟨Nat.le_of_ble_eq_true rfl, Nat.le_of_ble_eq_true rfl⟩ ⟨Nat.le_of_ble_eq_true rfl, Nat.le_of_ble_eq_true rfl⟩ hK hP hS hl.1 (rest := []) (Nat.le_of_ble_eq_true rfl) dX2_quick_40 h20 (fun H locs hP hS => ?_)
        exact J1 r11 S19 _ _ _ (lv_sub hl [0, 1, 2] rfl) hP hS hs
      · have hs := if_t c5 hs
        refine lv_bipush (v := 8) hx hb dX2_quick_34 (by decide) ?_
        refine lv_goto (tgt := 43) hx hb dX2_quick_36 (by decide) ?_
        exact J1 8 S6 _ _ _ (lv_sub hl [0, 1, 2] rfl) hP hS hs
  · have hs := if_f c1 hs
    exact u_vret hx hb hr hlocks hP hS hs dX2_quick_26
theorem kX2_quick {p : Program} {l : Launch} {e : Env} {R : Room} {s : State} {m : MethodId} {args : Array Value} {below : List Frame} {meth : Method} {c : Code} {H : Heap} {locs : List Loc} {cells slots : Nat} {Q : State → Prop} {cc : ByteArray} {pc nL : Nat} {ls : Array Slot} {rest : List Value} {D : va_G} {ad : Nat → Nat} {cI cB : ClassId} {en : Nat → Nat} {S : St} {own : String} {index : Nat} {x1 : Int32} {So : St} (C : CallFix p m c cc nL s args wG own) (hlk : Cond.methodLink own index yX2_quick ∈ wG) (hR : rmX2_quick.frames + 1 ≤ R.frames ∧ 8 + (7 + 11) + rmX2_quick.locals ≤ R.locals) (hc : cells ≤ R.cells ∧ slots ≤ R.slots) (hK : KB D ad cI cB en s) (hP : va_P D vwCl (wB ad cI cB S) H) (hS : va_S (AX 10 ad s.heap.size) s.heap H locs) (hls : ls.size = nL) (hrest : (rest.map fun v => v.category).sum ≤ 8) (hd : decode cc pc = .ok (.invokevirtual index, 3)) (hs : fX2_quick x1 S = some So) (k : ∀ (H : Heap) (locs : List Loc), va_P D vwCl (wB ad cI cB So) H → va_S (AX 10 ad s.heap.size) s.heap H locs → W p l e R s m args below meth c H locs cells slots Q (F0 m (pc + 3) ls (rest))) : W p l e R s m args below meth c H locs cells slots Q (F0 m pc ls (.int x1 :: .ref (ad 4) :: rest)) :=
  u_callV (n := 1) (mX2_quick l D ad cI cB en S x1 So hs) C uK_B (wg_V hlk tI_X2_quick tS_X2_quick tN_X2 tK_X2_quick) rfl rfl rfl (by decide +kernel) hR rfl (va_recv hK.1 hP (ci := 2) (q0 := 4) rfl rfl) hK hP hS hls hrest hd hc rfl k
def fX2_countDown (x1 : Int32) (S : St) : Option St :=
    (lt ((S.1 2) : Int32) fun v1 => (bd (fX0_nextWord S) fun r1 S1 => (lt ((r1.toInt16.toInt32) : Int32) fun v2 => (bd (fX4_holds ((ush x1 8) &&& 15) S1) fun b1 S2 => (if (zI b1) = 0 then (bd (fX2_lower x1 S2) fun r2 S3 => (bd (fX0_inRegister r2 S3) fun w1 S4 => (bd (fX0_load 1 w1 S4) fun r3 S5 => (lt ((r3 - 1) : Int32) fun v3 => (bv (fX0_store 1 w1 v3 S5) fun S6 => (if v3 = (-1 : Int32) then (some S6)
    else (lt (sI S6 2 (v1 + v2)) fun S7 => (some S7))))))))
    else (some S2))))))
abbrev rmX2_countDown : Room := { frames := 3, cells := 0, slots := 0, locals := 73 }
set_option maxRecDepth 100000 in
set_option maxHeartbeats 4000000 in
theorem mX2_countDown (l : Launch) (D : va_G) (ad : Nat → Nat) (cI cB : ClassId) (en : Nat → Nat) (S : St) (x1 : Int32) (So : St) (hs : fX2_countDown x1 S = some So) : uM l yX2_countDown (wg yX2_countDown cX2_countDown 7 none) rmX2_countDown (KB D ad cI cB en) D (wB ad cI cB) (AX 10 ad) [.ref (ad 4), .int x1] S (none, So) := by
  refine uM_start (by decide) rfl ?_
  intro p e s m below meth c hx hb hr hlocks hml hown hts hK hP
  have hT : ∀ w ∈ wG, w.before _ s = true := fun w h => hts w (List.mem_cons_of_mem _ h)
  have hS : va_S (AX 10 ad s.heap.size) s.heap s.heap [] := va_S.rf
  have hown : s.vm.findClass RX2 = some m.cls := hown
  have C : CallFix p m c cX2_countDown 7 s _ wG RX2 := ⟨hx, hb, hml, hown, hT⟩
  have hl := lv_entry ([.ref (ad 4), .int x1]) (n := 7) (Nat.le_of_ble_eq_true rfl)
  rw [lg_entry_eq]
  generalize (lg_sl ([.ref (ad 4), .int x1]) ++ List.replicate (7 - (lg_sl ([.ref (ad 4), .int x1])).length) Slot.unset).toArray = ls at hl ⊢
  have hl : lv_has ls 7 [(0, .ref (ad 4)), (1, .int x1)] := hl
  unfold fX2_countDown at hs
  refine lv_aload_n hx hb dX2_countDown_0 rfl (lv_at hl 0 rfl) ?_
  refine gB_X2_registers hx hb hT hown hK hP (hT _ tF_X2_9) dX2_countDown_1 ?_
  refine gB_X4_pc hx hb hT hown hK hP (hT _ tF_X2_284) dX2_countDown_4 ?_
  obtain ⟨v1, h1, hs⟩ := lt_e hs
  refine u_top h1 ?_
  refine lv_istore_n (lv' := [(2, .int v1), (0, .ref (ad 4)), (1, .int x1)]) hx hb dX2_countDown_7 rfl hl (by decide) rfl (fun ls hl => ?_)
  refine lv_aload_n hx hb dX2_countDown_8 rfl (lv_at hl 1 rfl) ?_
  refine gB_X2_access hx hb hT hown hK hP (hT _ tF_X2_15) dX2_countDown_9 ?_
  obtain ⟨r1, S1, h2, hs⟩ := bd_e hs
  refine kX0_nextWord C tM_X2_127 ⟨Nat.le_of_ble_eq_true rfl, Nat.le_of_ble_eq_true rfl⟩ ⟨Nat.le_of_ble_eq_true rfl, Nat.le_of_ble_eq_true rfl⟩ hK hP hS hl.1 (rest := []) (Nat.le_of_ble_eq_true rfl) dX2_countDown_12 h2 (fun H locs hP hS => ?_)
  refine lv_i2s (v := (r1.toInt16.toInt32)) hx hb dX2_countDown_15 rfl ?_
  obtain ⟨v2, h3, hs⟩ := lt_e hs
  refine u_top h3 ?_
  refine lv_istore_n (lv' := [(3, .int v2), (2, .int v1), (0, .ref (ad 4)), (1, .int x1)]) hx hb dX2_countDown_16 rfl hl (by decide) rfl (fun ls hl => ?_)
  refine lv_aload_n hx hb dX2_countDown_17 rfl (lv_at hl 2 rfl) ?_
  refine gB_X2_registers hx hb hT hown hK hP (hT _ tF_X2_9) dX2_countDown_18 ?_
  refine lv_iload_n hx hb dX2_countDown_21 rfl (lv_at hl 3 rfl) ?_
  refine lv_bipush (v := 8) hx hb dX2_countDown_22 (by decide) ?_
  refine lv_iushr (v := (ush x1 8)) hx hb dX2_countDown_24 rfl ?_
  refine lv_bipush (v := 15) hx hb dX2_countDown_25 (by decide) ?_
  refine lv_iand hx hb dX2_countDown_27 ?_
  obtain ⟨b1, S2, h4, hs⟩ := bd_e hs
  refine kX4_holds C tM_X2_293 ⟨Nat.le_of_ble_eq_true rfl, Nat.le_of_ble_eq_true rfl⟩ ⟨Nat.le_of_ble_eq_true rfl, Nat.le_of_ble_eq_true rfl⟩ hK hP hS hl.1 (rest := []) (Nat.le_of_ble_eq_true rfl) dX2_countDown_28 h4 (fun H locs hP hS => ?_)
  refine lv_if_eq (tgt := 35) hx hb dX2_countDown_31 (by decide) (fun c1 => ?_) (fun c1 => ?_)
  · have hs := if_t c1 hs
    refine lv_iload_n hx hb dX2_countDown_35 rfl (lv_at hl 3 rfl) ?_
    obtain ⟨r2, S3, h5, hs⟩ := bd_e hs
    refine kX2_lower C tM_X2_121 ⟨Nat.le_of_ble_eq_true rfl, Nat.le_of_ble_eq_true rfl⟩ ⟨Nat.le_of_ble_eq_true rfl, Nat.le_of_ble_eq_true rfl⟩ hK hP hS hl.1 (rest := []) (Nat.le_of_ble_eq_true rfl) dX2_countDown_36 h5 (fun H locs hP hS => ?_)
    obtain ⟨w1, S4, h6, hs⟩ := bd_e hs
    refine kX0_inRegister C tM_X2_256 ⟨Nat.le_of_ble_eq_true rfl, Nat.le_of_ble_eq_true rfl⟩ ⟨Nat.le_of_ble_eq_true rfl, Nat.le_of_ble_eq_true rfl⟩ hK hP hS hl.1 (rest := []) (Nat.le_of_ble_eq_true rfl) dX2_countDown_39 h6 (fun H locs hP hS => ?_)
    refine lv_lstore (lv' := [(4, .long w1), (3, .int v2), (2, .int v1), (0, .ref (ad 4)), (1, .int x1)]) hx hb dX2_countDown_42 hl (by decide) rfl (fun ls hl => ?_)
    refine lv_aload_n hx hb dX2_countDown_44 rfl (lv_at hl 3 rfl) ?_
    refine gB_X2_access hx hb hT hown hK hP (hT _ tF_X2_15) dX2_countDown_45 ?_
    refine gS_WORD hx hb hown hK hS (hT _ tF_X2_49) dX2_countDown_48 ?_
    refine lv_lload hx hb dX2_countDown_51 (lv_at hl 0 rfl) ?_
    obtain ⟨r3, S5, h7, hs⟩ := bd_e hs
    refine kX0_load C tM_X2_154 ⟨Nat.le_of_ble_eq_true rfl, Nat.le_of_ble_eq_true rfl⟩ ⟨Nat.le_of_ble_eq_true rfl, Nat.le_of_ble_eq_true rfl⟩ hK hP hS hl.1 (rest := []) (Nat.le_of_ble_eq_true rfl) dX2_countDown_53 h7 (fun H locs hP hS => ?_)
    refine lv_iconst (v := 1) hx hb dX2_countDown_56 (by decide) ?_
    refine lv_isub hx hb dX2_countDown_57 ?_
    obtain ⟨v3, h8, hs⟩ := lt_e hs
    refine u_top h8 ?_
    refine lv_istore (lv' := [(6, .int v3), (4, .long w1), (3, .int v2), (2, .int v1), (0, .ref (ad 4)), (1, .int x1)]) hx hb dX2_countDown_58 hl (by decide) rfl (fun ls hl => ?_)
    refine lv_aload_n hx hb dX2_countDown_60 rfl (lv_at hl 4 rfl) ?_
    refine gB_X2_access hx hb hT hown hK hP (hT _ tF_X2_15) dX2_countDown_61 ?_
    refine gS_WORD hx hb hown hK hS (hT _ tF_X2_49) dX2_countDown_64 ?_
    refine lv_lload hx hb dX2_countDown_67 (lv_at hl 1 rfl) ?_
    refine lv_iload hx hb dX2_countDown_69 (lv_at hl 0 rfl) ?_
    obtain ⟨S6, h9, hs⟩ := bv_e hs
    refine kX0_store C tM_X2_161 ⟨Nat.le_of_ble_eq_true rfl, Nat.le_of_ble_eq_true rfl⟩ ⟨Nat.le_of_ble_eq_true rfl, Nat.le_of_ble_eq_true rfl⟩ hK hP hS hl.1 (rest := []) (Nat.le_of_ble_eq_true rfl) dX2_countDown_71 h9 (fun H locs hP hS => ?_)
    refine lv_iload hx hb dX2_countDown_74 (lv_at hl 0 rfl) ?_
    refine lv_iconst (v := (-1 : Int32)) hx hb dX2_countDown_76 (by decide) ?_
    refine lv_icmp_eq (tgt := 90) hx hb dX2_countDown_77 (by decide) (fun c2 => ?_) (fun c2 => ?_)
    · have hs := if_t c2 hs
      exact u_vret hx hb hr hlocks hP hS hs dX2_countDown_90
    · have hs := if_f c2 hs
      refine lv_aload_n hx hb dX2_countDown_80 rfl (lv_at hl 4 rfl) ?_
      refine gB_X2_registers hx hb hT hown hK hP (hT _ tF_X2_9) dX2_countDown_81 ?_
      refine lv_iload_n hx hb dX2_countDown_84 rfl (lv_at hl 3 rfl) ?_
      refine lv_iload_n hx hb dX2_countDown_85 rfl (lv_at hl 2 rfl) ?_
      refine lv_iadd hx hb dX2_countDown_86 ?_
      obtain ⟨S7, h10, hs⟩ := lt_e hs
      refine pB_X4_pc hx hb hT hown hK hP hS (hT _ tF_X2_284) dX2_countDown_87 (v := (v1 + v2)) h10 (fun H locs hP hS => ?_)
      exact u_vret hx hb hr hlocks hP hS hs dX2_countDown_90
  · have hs := if_f c1 hs
    exact u_vret hx hb hr hlocks hP hS hs dX2_countDown_34
theorem kX2_countDown {p : Program} {l : Launch} {e : Env} {R : Room} {s : State} {m : MethodId} {args : Array Value} {below : List Frame} {meth : Method} {c : Code} {H : Heap} {locs : List Loc} {cells slots : Nat} {Q : State → Prop} {cc : ByteArray} {pc nL : Nat} {ls : Array Slot} {rest : List Value} {D : va_G} {ad : Nat → Nat} {cI cB : ClassId} {en : Nat → Nat} {S : St} {own : String} {index : Nat} {x1 : Int32} {So : St} (C : CallFix p m c cc nL s args wG own) (hlk : Cond.methodLink own index yX2_countDown ∈ wG) (hR : rmX2_countDown.frames + 1 ≤ R.frames ∧ 8 + (7 + 11) + rmX2_countDown.locals ≤ R.locals) (hc : cells ≤ R.cells ∧ slots ≤ R.slots) (hK : KB D ad cI cB en s) (hP : va_P D vwCl (wB ad cI cB S) H) (hS : va_S (AX 10 ad s.heap.size) s.heap H locs) (hls : ls.size = nL) (hrest : (rest.map fun v => v.category).sum ≤ 8) (hd : decode cc pc = .ok (.invokevirtual index, 3)) (hs : fX2_countDown x1 S = some So) (k : ∀ (H : Heap) (locs : List Loc), va_P D vwCl (wB ad cI cB So) H → va_S (AX 10 ad s.heap.size) s.heap H locs → W p l e R s m args below meth c H locs cells slots Q (F0 m (pc + 3) ls (rest))) : W p l e R s m args below meth c H locs cells slots Q (F0 m pc ls (.int x1 :: .ref (ad 4) :: rest)) :=
  u_callV (n := 1) (mX2_countDown l D ad cI cB en S x1 So hs) C uK_B (wg_V hlk tI_X2_countDown tS_X2_countDown tN_X2 tK_X2_countDown) rfl rfl rfl (by decide +kernel) hR rfl (va_recv hK.1 hP (ci := 2) (q0 := 4) rfl rfl) hK hP hS hls hrest hd hc rfl k
def fX2_lineFive (x1 : Int32) (S : St) : Option St :=
    (bd (fX2_sizeBits x1 S) fun r1 S1 => (if r1 = 3 then (bd (fX2_operand x1 S1) fun r2 S2 => (if (ush r2 3) = 1 then (bv (fX2_countDown x1 S2) fun S9 => (some S9))
    else (bd (fX2_operand x1 S2) fun r3 S3 => (bd (fX2_misfits 509 r3 S3) fun b1 S4 => (if (zI b1) = 0 then (bd (fX4_holds ((ush x1 8) &&& 15) S4) fun b2 S5 => (bd (fX2_operand x1 S5) fun r4 S6 => (bd (fX0_locate 0 r4 S6) fun w1 S7 => (jn (fun (v1 : Int32) => (bv (fX0_store 0 w1 v1 S7) fun S8 => (some S8))) fun K1 =>
    (if (zI b2) = 0 then (K1 0)
    else (K1 255))))))
    else (some S4))))))
    else (bv (fX2_quick x1 S1) fun S10 => (some S10))))
abbrev rmX2_lineFive : Room := { frames := 4, cells := 0, slots := 0, locals := 102 }
set_option maxRecDepth 100000 in
set_option maxHeartbeats 4000000 in
theorem mX2_lineFive (l : Launch) (D : va_G) (ad : Nat → Nat) (cI cB : ClassId) (en : Nat → Nat) (S : St) (x1 : Int32) (So : St) (hs : fX2_lineFive x1 S = some So) : uM l yX2_lineFive (wg yX2_lineFive cX2_lineFive 3 none) rmX2_lineFive (KB D ad cI cB en) D (wB ad cI cB) (AX 10 ad) [.ref (ad 4), .int x1] S (none, So) := by
  refine uM_start (by decide) rfl ?_
  intro p e s m below meth c hx hb hr hlocks hml hown hts hK hP
  have hT : ∀ w ∈ wG, w.before _ s = true := fun w h => hts w (List.mem_cons_of_mem _ h)
  have hS : va_S (AX 10 ad s.heap.size) s.heap s.heap [] := va_S.rf
  have hown : s.vm.findClass RX2 = some m.cls := hown
  have C : CallFix p m c cX2_lineFive 3 s _ wG RX2 := ⟨hx, hb, hml, hown, hT⟩
  have hl := lv_entry ([.ref (ad 4), .int x1]) (n := 3) (Nat.le_of_ble_eq_true rfl)
  rw [lg_entry_eq]
  generalize (lg_sl ([.ref (ad 4), .int x1]) ++ List.replicate (3 - (lg_sl ([.ref (ad 4), .int x1])).length) Slot.unset).toArray = ls at hl ⊢
  have hl : lv_has ls 3 [(0, .ref (ad 4)), (1, .int x1)] := hl
  unfold fX2_lineFive at hs
  refine lv_iload_n hx hb dX2_lineFive_0 rfl (lv_at hl 1 rfl) ?_
  obtain ⟨r1, S1, h1, hs⟩ := bd_e hs
  refine kX2_sizeBits C tM_X2_98 ⟨Nat.le_of_ble_eq_true rfl, Nat.le_of_ble_eq_true rfl⟩ ⟨Nat.le_of_ble_eq_true rfl, Nat.le_of_ble_eq_true rfl⟩ hK hP hS hl.1 (rest := []) (Nat.le_of_ble_eq_true rfl) dX2_lineFive_1 h1 (fun H locs hP hS => ?_)
  refine lv_iconst (v := 3) hx hb dX2_lineFive_4 (by decide) ?_
  refine lv_icmp_eq (tgt := 16) hx hb dX2_lineFive_5 (by decide) (fun c1 => ?_) (fun c1 => ?_)
  · have hs := if_t c1 hs
    refine lv_iload_n hx hb dX2_lineFive_16 rfl (lv_at hl 1 rfl) ?_
    obtain ⟨r2, S2, h2, hs⟩ := bd_e hs
    refine kX2_operand C tM_X2_95 ⟨Nat.le_of_ble_eq_true rfl, Nat.le_of_ble_eq_true rfl⟩ ⟨Nat.le_of_ble_eq_true rfl, Nat.le_of_ble_eq_true rfl⟩ hK hP hS hl.1 (rest := []) (Nat.le_of_ble_eq_true rfl) dX2_lineFive_17 h2 (fun H locs hP hS => ?_)
    refine lv_iconst (v := 3) hx hb dX2_lineFive_20 (by decide) ?_
    refine lv_iushr (v := (ush r2 3)) hx hb dX2_lineFive_21 rfl ?_
    refine lv_iconst (v := 1) hx hb dX2_lineFive_22 (by decide) ?_
    refine lv_icmp_ne (tgt := 34) hx hb dX2_lineFive_23 (by decide) (fun c2 => ?_) (fun c2 => ?_)
    · have hs := if_f c2 hs
      refine lv_aload_n hx hb dX2_lineFive_34 rfl (lv_at hl 0 rfl) ?_
      refine lv_sipush (v := 509) hx hb dX2_lineFive_35 (by decide) ?_
      refine lv_iload_n hx hb dX2_lineFive_38 rfl (lv_at hl 1 rfl) ?_
      obtain ⟨r3, S3, h3, hs⟩ := bd_e hs
      refine kX2_operand C tM_X2_95 ⟨Nat.le_of_ble_eq_true rfl, Nat.le_of_ble_eq_true rfl⟩ ⟨Nat.le_of_ble_eq_true rfl, Nat.le_of_ble_eq_true rfl⟩ hK hP hS hl.1 (rest := [.int 509, .ref (ad 4)]) (Nat.le_of_ble_eq_true rfl) dX2_lineFive_39 h3 (fun H locs hP hS => ?_)
      obtain ⟨b1, S4, h4, hs⟩ := bd_e hs
      refine kX2_misfits C tM_X2_146 ⟨Nat.le_of_ble_eq_true rfl, Nat.le_of_ble_eq_true rfl⟩ ⟨Nat.le_of_ble_eq_true rfl, Nat.le_of_ble_eq_true rfl⟩ hK hP hS hl.1 (rest := []) (Nat.le_of_ble_eq_true rfl) dX2_lineFive_42 h4 (fun H locs hP hS => ?_)
      refine lv_if_ne (tgt := 98) hx hb dX2_lineFive_45 (by decide) (fun c3 => ?_) (fun c3 => ?_)
      · have hs := if_f c3 hs
        exact u_vret hx hb hr hlocks hP hS hs dX2_lineFive_98
      · have hs := if_t c3 hs
        refine lv_aload_n hx hb dX2_lineFive_48 rfl (lv_at hl 0 rfl) ?_
        refine gB_X2_registers hx hb hT hown hK hP (hT _ tF_X2_9) dX2_lineFive_49 ?_
        refine lv_iload_n hx hb dX2_lineFive_52 rfl (lv_at hl 1 rfl) ?_
        refine lv_bipush (v := 8) hx hb dX2_lineFive_53 (by decide) ?_
        refine lv_iushr (v := (ush x1 8)) hx hb dX2_lineFive_55 rfl ?_
        refine lv_bipush (v := 15) hx hb dX2_lineFive_56 (by decide) ?_
        refine lv_iand hx hb dX2_lineFive_58 ?_
        obtain ⟨b2, S5, h5, hs⟩ := bd_e hs
        refine kX4_holds C tM_X2_293 ⟨Nat.le_of_ble_eq_true rfl, Nat.le_of_ble_eq_true rfl⟩ ⟨Nat.le_of_ble_eq_true rfl, Nat.le_of_ble_eq_true rfl⟩ hK hP hS hl.1 (rest := []) (Nat.le_of_ble_eq_true rfl) dX2_lineFive_59 h5 (fun H locs hP hS => ?_)
        refine lv_istore_n (lv' := [(2, .int (zI b2)), (0, .ref (ad 4)), (1, .int x1)]) hx hb dX2_lineFive_62 rfl hl (by decide) rfl (fun ls hl => ?_)
        refine lv_aload_n hx hb dX2_lineFive_63 rfl (lv_at hl 1 rfl) ?_
        refine gB_X2_access hx hb hT hown hK hP (hT _ tF_X2_15) dX2_lineFive_64 ?_
        refine gS_BYTE hx hb hown hK hS (hT _ tF_X2_36) dX2_lineFive_67 ?_
        refine lv_aload_n hx hb dX2_lineFive_70 rfl (lv_at hl 1 rfl) ?_
        refine gB_X2_access hx hb hT hown hK hP (hT _ tF_X2_15) dX2_lineFive_71 ?_
        refine gS_BYTE hx hb hown hK hS (hT _ tF_X2_36) dX2_lineFive_74 ?_
        refine lv_iload_n hx hb dX2_lineFive_77 rfl (lv_at hl 2 rfl) ?_
        obtain ⟨r4, S6, h6, hs⟩ := bd_e hs
        refine kX2_operand C tM_X2_95 ⟨Nat.le_of_ble_eq_true rfl, Nat.le_of_ble_eq_true rfl⟩ ⟨Nat.le_of_ble_eq_true rfl, Nat.le_of_ble_eq_true rfl⟩ hK hP hS hl.1 (rest := [.ref (en 0), .ref (ad 3), .ref (en 0), .ref (ad 3)]) (Nat.le_of_ble_eq_true rfl) dX2_lineFive_78 h6 (fun H locs hP hS => ?_)
        obtain ⟨w1, S7, h7, hs⟩ := bd_e hs
        refine kX0_locate C tM_X2_150 ⟨Nat.le_of_ble_eq_true rfl, Nat.le_of_ble_eq_true rfl⟩ ⟨Nat.le_of_ble_eq_true rfl, Nat.le_of_ble_eq_true rfl⟩ hK hP hS hl.1 (rest := [.ref (en 0), .ref (ad 3)]) (Nat.le_of_ble_eq_true rfl) dX2_lineFive_81 h7 (fun H locs hP hS => ?_)
        refine lv_iload_n hx hb dX2_lineFive_84 rfl (lv_at hl 0 rfl) ?_
        refine jn_e hs (fun K1 => ∀ (v1 : Int32) (H : Heap) (locs : List Loc) (ls : Array Slot), lv_has ls 3 [] → va_P D vwCl (wB ad cI cB S7) H → va_S (AX 10 ad s.heap.size) s.heap H locs → K1 v1 = some So → W p l e rmX2_lineFive s m ([.ref (ad 4), .int x1] : List Value).toArray below meth c H locs 0 0 (MQ below (uQ D (wB ad cI cB) (none, So) (AX 10 ad s.heap.size)) ([.ref (ad 4), .int x1] : List Value).toArray s 0 0 (AX 10 ad s.heap.size)) (F0 m 95 ls [.int v1, .long w1, .ref (en 0), .ref (ad 3)])) ?_ (fun K1 J1 hs => ?_)
        · intro v1 H locs ls hl hP hS hs
          obtain ⟨S8, h8, hs⟩ := bv_e hs
          refine kX0_store C tM_X2_161 ⟨Nat.le_of_ble_eq_true rfl, Nat.le_of_ble_eq_true rfl⟩ ⟨Nat.le_of_ble_eq_true rfl, Nat.le_of_ble_eq_true rfl⟩ hK hP hS hl.1 (rest := []) (Nat.le_of_ble_eq_true rfl) dX2_lineFive_95 h8 (fun H locs hP hS => ?_)
          exact u_vret hx hb hr hlocks hP hS hs dX2_lineFive_98
        ·
          refine lv_if_eq (tgt := 94) hx hb dX2_lineFive_85 (by decide) (fun c4 => ?_) (fun c4 => ?_)
          · have hs := if_t c4 hs
            refine lv_iconst (v := 0) hx hb dX2_lineFive_94 (by decide) ?_
            exact J1 0 _ _ _ (lv_sub hl [] rfl) hP hS hs
          · have hs := if_f c4 hs
            refine lv_sipush (v := 255) hx hb dX2_lineFive_88 (by decide) ?_
            refine lv_goto (tgt := 95) hx hb dX2_lineFive_91 (by decide) ?_
            exact J1 255 _ _ _ (lv_sub hl [] rfl) hP hS hs
    · have hs := if_t c2 hs
      refine lv_aload_n hx hb dX2_lineFive_26 rfl (lv_at hl 0 rfl) ?_
      refine lv_iload_n hx hb dX2_lineFive_27 rfl (lv_at hl 1 rfl) ?_
      obtain ⟨S9, h9, hs⟩ := bv_e hs
      refine kX2_countDown C tM_X2_290 ⟨Nat.le_of_ble_eq_true rfl, Nat.le_of_ble_eq_true rfl⟩ ⟨Nat.le_of_ble_eq_true rfl, Nat.le_of_ble_eq_true rfl⟩ hK hP hS hl.1 (rest := []) (Nat.le_of_ble_eq_true rfl) dX2_lineFive_28 h9 (fun H locs hP hS => ?_)
      refine lv_goto (tgt := 98) hx hb dX2_lineFive_31 (by decide) ?_
      exact u_vret hx hb hr hlocks hP hS hs dX2_lineFive_98
  · have hs := if_f c1 hs
    refine lv_aload_n hx hb dX2_lineFive_8 rfl (lv_at hl 0 rfl) ?_
    refine lv_iload_n hx hb dX2_lineFive_9 rfl (lv_at hl 1 rfl) ?_
    obtain ⟨S10, h10, hs⟩ := bv_e hs
    refine kX2_quick C tM_X2_287 ⟨Nat.le_of_ble_eq_true rfl, Nat.le_of_ble_eq_true rfl⟩ ⟨Nat.le_of_ble_eq_true rfl, Nat.le_of_ble_eq_true rfl⟩ hK hP hS hl.1 (rest := []) (Nat.le_of_ble_eq_true rfl) dX2_lineFive_10 h10 (fun H locs hP hS => ?_)
    refine lv_goto (tgt := 98) hx hb dX2_lineFive_13 (by decide) ?_
    exact u_vret hx hb hr hlocks hP hS hs dX2_lineFive_98
theorem kX2_lineFive {p : Program} {l : Launch} {e : Env} {R : Room} {s : State} {m : MethodId} {args : Array Value} {below : List Frame} {meth : Method} {c : Code} {H : Heap} {locs : List Loc} {cells slots : Nat} {Q : State → Prop} {cc : ByteArray} {pc nL : Nat} {ls : Array Slot} {rest : List Value} {D : va_G} {ad : Nat → Nat} {cI cB : ClassId} {en : Nat → Nat} {S : St} {own : String} {index : Nat} {x1 : Int32} {So : St} (C : CallFix p m c cc nL s args wG own) (hlk : Cond.methodLink own index yX2_lineFive ∈ wG) (hR : rmX2_lineFive.frames + 1 ≤ R.frames ∧ 8 + (3 + 11) + rmX2_lineFive.locals ≤ R.locals) (hc : cells ≤ R.cells ∧ slots ≤ R.slots) (hK : KB D ad cI cB en s) (hP : va_P D vwCl (wB ad cI cB S) H) (hS : va_S (AX 10 ad s.heap.size) s.heap H locs) (hls : ls.size = nL) (hrest : (rest.map fun v => v.category).sum ≤ 8) (hd : decode cc pc = .ok (.invokevirtual index, 3)) (hs : fX2_lineFive x1 S = some So) (k : ∀ (H : Heap) (locs : List Loc), va_P D vwCl (wB ad cI cB So) H → va_S (AX 10 ad s.heap.size) s.heap H locs → W p l e R s m args below meth c H locs cells slots Q (F0 m (pc + 3) ls (rest))) : W p l e R s m args below meth c H locs cells slots Q (F0 m pc ls (.int x1 :: .ref (ad 4) :: rest)) :=
  u_callV (n := 1) (mX2_lineFive l D ad cI cB en S x1 So hs) C uK_B (wg_V hlk tI_X2_lineFive tS_X2_lineFive tN_X2 tK_X2_lineFive) rfl rfl rfl (by decide +kernel) hR rfl (va_recv hK.1 hP (ci := 2) (q0 := 4) rfl rfl) hK hP hS hls hrest hd hc rfl k
def fX2_branch (x1 : Int32) (S : St) : Option St :=
    (lt ((S.1 2) : Int32) fun v1 => (lt ((x1.toInt8.toInt32) : Int32) fun v2 => (jn (fun (v3 : Int32) (S1 : St) => (lt (((ush x1 8) &&& 15) : Int32) fun v4 => (jn (fun (S2 : St) => (if v4 = 1 then (lt (sI S2 2 (v1 + v3)) fun S3 => (some S3))
    else (bd (fX4_holds v4 S2) fun b1 S4 => (if (zI b1) = 0 then (some S4)
    else (lt (sI S4 2 (v1 + v3)) fun S5 => (some S5)))))) fun K2 =>
    (if v4 = 1 then (bv (fX0_push 2 (S1.1 2) S1) fun S6 => (K2 S6))
    else (K2 S1))))) fun K1 =>
    (if v2 = 0 then (bd (fX0_nextWord S) fun r1 S7 => (lt ((r1.toInt16.toInt32) : Int32) fun v5 => (K1 v5 S7)))
    else (K1 v2 S)))))
abbrev rmX2_branch : Room := { frames := 2, cells := 0, slots := 0, locals := 48 }
set_option maxRecDepth 100000 in
set_option maxHeartbeats 4000000 in
theorem mX2_branch (l : Launch) (D : va_G) (ad : Nat → Nat) (cI cB : ClassId) (en : Nat → Nat) (S : St) (x1 : Int32) (So : St) (hs : fX2_branch x1 S = some So) : uM l yX2_branch (wg yX2_branch cX2_branch 5 none) rmX2_branch (KB D ad cI cB en) D (wB ad cI cB) (AX 10 ad) [.ref (ad 4), .int x1] S (none, So) := by
  refine uM_start (by decide) rfl ?_
  intro p e s m below meth c hx hb hr hlocks hml hown hts hK hP
  have hT : ∀ w ∈ wG, w.before _ s = true := fun w h => hts w (List.mem_cons_of_mem _ h)
  have hS : va_S (AX 10 ad s.heap.size) s.heap s.heap [] := va_S.rf
  have hown : s.vm.findClass RX2 = some m.cls := hown
  have C : CallFix p m c cX2_branch 5 s _ wG RX2 := ⟨hx, hb, hml, hown, hT⟩
  have hl := lv_entry ([.ref (ad 4), .int x1]) (n := 5) (Nat.le_of_ble_eq_true rfl)
  rw [lg_entry_eq]
  generalize (lg_sl ([.ref (ad 4), .int x1]) ++ List.replicate (5 - (lg_sl ([.ref (ad 4), .int x1])).length) Slot.unset).toArray = ls at hl ⊢
  have hl : lv_has ls 5 [(0, .ref (ad 4)), (1, .int x1)] := hl
  unfold fX2_branch at hs
  refine lv_aload_n hx hb dX2_branch_0 rfl (lv_at hl 0 rfl) ?_
  refine gB_X2_registers hx hb hT hown hK hP (hT _ tF_X2_9) dX2_branch_1 ?_
  refine gB_X4_pc hx hb hT hown hK hP (hT _ tF_X2_284) dX2_branch_4 ?_
  obtain ⟨v1, h1, hs⟩ := lt_e hs
  refine u_top h1 ?_
  refine lv_istore_n (lv' := [(2, .int v1), (0, .ref (ad 4)), (1, .int x1)]) hx hb dX2_branch_7 rfl hl (by decide) rfl (fun ls hl => ?_)
  refine lv_iload_n hx hb dX2_branch_8 rfl (lv_at hl 2 rfl) ?_
  refine lv_i2b (v := (x1.toInt8.toInt32)) hx hb dX2_branch_9 rfl ?_
  obtain ⟨v2, h2, hs⟩ := lt_e hs
  refine u_top h2 ?_
  refine lv_istore_n (lv' := [(3, .int v2), (2, .int v1), (0, .ref (ad 4)), (1, .int x1)]) hx hb dX2_branch_10 rfl hl (by decide) rfl (fun ls hl => ?_)
  refine lv_iload_n hx hb dX2_branch_11 rfl (lv_at hl 0 rfl) ?_
  refine jn_e hs (fun K1 => ∀ (v3 : Int32) (S1 : St) (H : Heap) (locs : List Loc) (ls : Array Slot), lv_has ls 5 [(3, .int v3), (2, .int v1), (0, .ref (ad 4)), (1, .int x1)] → va_P D vwCl (wB ad cI cB S1) H → va_S (AX 10 ad s.heap.size) s.heap H locs → K1 v3 S1 = some So → W p l e rmX2_branch s m ([.ref (ad 4), .int x1] : List Value).toArray below meth c H locs 0 0 (MQ below (uQ D (wB ad cI cB) (none, So) (AX 10 ad s.heap.size)) ([.ref (ad 4), .int x1] : List Value).toArray s 0 0 (AX 10 ad s.heap.size)) (F0 m 24 ls [])) ?_ (fun K1 J1 hs => ?_)
  · intro v3 S1 H locs ls hl hP hS hs
    refine lv_iload_n hx hb dX2_branch_24 rfl (lv_at hl 3 rfl) ?_
    refine lv_bipush (v := 8) hx hb dX2_branch_25 (by decide) ?_
    refine lv_iushr (v := (ush x1 8)) hx hb dX2_branch_27 rfl ?_
    refine lv_bipush (v := 15) hx hb dX2_branch_28 (by decide) ?_
    refine lv_iand hx hb dX2_branch_30 ?_
    obtain ⟨v4, h3, hs⟩ := lt_e hs
    refine u_top h3 ?_
    refine lv_istore (lv' := [(4, .int v4), (3, .int v3), (2, .int v1), (0, .ref (ad 4)), (1, .int x1)]) hx hb dX2_branch_31 hl (by decide) rfl (fun ls hl => ?_)
    refine lv_iload hx hb dX2_branch_33 (lv_at hl 0 rfl) ?_
    refine lv_iconst (v := 1) hx hb dX2_branch_35 (by decide) ?_
    refine jn_e hs (fun K2 => ∀ (S2 : St) (H : Heap) (locs : List Loc) (ls : Array Slot), lv_has ls 5 [(4, .int v4), (3, .int v3), (2, .int v1), (0, .ref (ad 4))] → va_P D vwCl (wB ad cI cB S2) H → va_S (AX 10 ad s.heap.size) s.heap H locs → K2 S2 = some So → W p l e rmX2_branch s m ([.ref (ad 4), .int x1] : List Value).toArray below meth c H locs 0 0 (MQ below (uQ D (wB ad cI cB) (none, So) (AX 10 ad s.heap.size)) ([.ref (ad 4), .int x1] : List Value).toArray s 0 0 (AX 10 ad s.heap.size)) (F0 m 56 ls [])) ?_ (fun K2 J2 hs => ?_)
    · intro S2 H locs ls hl hP hS hs
      refine lv_iload hx hb dX2_branch_56 (lv_at hl 0 rfl) ?_
      refine lv_iconst (v := 1) hx hb dX2_branch_58 (by decide) ?_
      refine lv_icmp_eq (tgt := 74) hx hb dX2_branch_59 (by decide) (fun c1 => ?_) (fun c1 => ?_)
      · have hs := if_t c1 hs
        refine lv_aload_n hx hb dX2_branch_74 rfl (lv_at hl 3 rfl) ?_
        refine gB_X2_registers hx hb hT hown hK hP (hT _ tF_X2_9) dX2_branch_75 ?_
        refine lv_iload_n hx hb dX2_branch_78 rfl (lv_at hl 2 rfl) ?_
        refine lv_iload_n hx hb dX2_branch_79 rfl (lv_at hl 1 rfl) ?_
        refine lv_iadd hx hb dX2_branch_80 ?_
        obtain ⟨S3, h4, hs⟩ := lt_e hs
        refine pB_X4_pc hx hb hT hown hK hP hS (hT _ tF_X2_284) dX2_branch_81 (v := (v1 + v3)) h4 (fun H locs hP hS => ?_)
        exact u_vret hx hb hr hlocks hP hS hs dX2_branch_84
      · have hs := if_f c1 hs
        refine lv_aload_n hx hb dX2_branch_62 rfl (lv_at hl 3 rfl) ?_
        refine gB_X2_registers hx hb hT hown hK hP (hT _ tF_X2_9) dX2_branch_63 ?_
        refine lv_iload hx hb dX2_branch_66 (lv_at hl 0 rfl) ?_
        obtain ⟨b1, S4, h5, hs⟩ := bd_e hs
        refine kX4_holds C tM_X2_293 ⟨Nat.le_of_ble_eq_true rfl, Nat.le_of_ble_eq_true rfl⟩ ⟨Nat.le_of_ble_eq_true rfl, Nat.le_of_ble_eq_true rfl⟩ hK hP hS hl.1 (rest := []) (Nat.le_of_ble_eq_true rfl) dX2_branch_68 h5 (fun H locs hP hS => ?_)
        refine lv_if_eq (tgt := 84) hx hb dX2_branch_71 (by decide) (fun c2 => ?_) (fun c2 => ?_)
        · have hs := if_t c2 hs
          exact u_vret hx hb hr hlocks hP hS hs dX2_branch_84
        · have hs := if_f c2 hs
          refine lv_aload_n hx hb dX2_branch_74 rfl (lv_at hl 3 rfl) ?_
          refine gB_X2_registers hx hb hT hown hK hP (hT _ tF_X2_9) dX2_branch_75 ?_
          refine lv_iload_n hx hb dX2_branch_78 rfl (lv_at hl 2 rfl) ?_
          refine lv_iload_n hx hb dX2_branch_79 rfl (lv_at hl 1 rfl) ?_
          refine lv_iadd hx hb dX2_branch_80 ?_
          obtain ⟨S5, h6, hs⟩ := lt_e hs
          refine pB_X4_pc hx hb hT hown hK hP hS (hT _ tF_X2_284) dX2_branch_81 (v := (v1 + v3)) h6 (fun H locs hP hS => ?_)
          exact u_vret hx hb hr hlocks hP hS hs dX2_branch_84
    ·
      refine lv_icmp_ne (tgt := 56) hx hb dX2_branch_36 (by decide) (fun c3 => ?_) (fun c3 => ?_)
      · have hs := if_f c3 hs
        exact J2 S1 _ _ _ (lv_sub hl [0, 1, 2, 3] rfl) hP hS hs
      · have hs := if_t c3 hs
        refine lv_aload_n hx hb dX2_branch_39 rfl (lv_at hl 3 rfl) ?_
        refine gB_X2_access hx hb hT hown hK hP (hT _ tF_X2_15) dX2_branch_40 ?_
        refine gS_LONG hx hb hown hK hS (hT _ tF_X2_46) dX2_branch_43 ?_
        refine lv_aload_n hx hb dX2_branch_46 rfl (lv_at hl 3 rfl) ?_
        refine gB_X2_registers hx hb hT hown hK hP (hT _ tF_X2_9) dX2_branch_47 ?_
        refine gB_X4_pc hx hb hT hown hK hP (hT _ tF_X2_284) dX2_branch_50 ?_
        obtain ⟨S6, h7, hs⟩ := bv_e hs
        refine kX0_push C tM_X2_249 ⟨Nat.le_of_ble_eq_true rfl, Nat.le_of_ble_eq_true rfl⟩ ⟨Nat.le_of_ble_eq_true rfl, Nat.le_of_ble_eq_true rfl⟩ hK hP hS hl.1 (rest := []) (Nat.le_of_ble_eq_true rfl) dX2_branch_53 h7 (fun H locs hP hS => ?_)
        exact J2 S6 _ _ _ (lv_sub hl [0, 1, 2, 3] rfl) hP hS hs
  ·
    refine lv_if_ne (tgt := 24) hx hb dX2_branch_12 (by decide) (fun c4 => ?_) (fun c4 => ?_)
    · have hs := if_f c4 hs
      exact J1 v2 S _ _ _ (lv_sub hl [0, 1, 2, 3] rfl) hP hS hs
    · have hs := if_t c4 hs
      refine lv_aload_n hx hb dX2_branch_15 rfl (lv_at hl 2 rfl) ?_
      refine gB_X2_access hx hb hT hown hK hP (hT _ tF_X2_15) dX2_branch_16 ?_
      obtain ⟨r1, S7, h8, hs⟩ := bd_e hs
      refine kX0_nextWord C tM_X2_127 ⟨Nat.le_of_ble_eq_true rfl, Nat.le_of_ble_eq_true rfl⟩ ⟨Nat.le_of_ble_eq_true rfl, Nat.le_of_ble_eq_true rfl⟩ hK hP hS hl.1 (rest := []) (Nat.le_of_ble_eq_true rfl) dX2_branch_19 h8 (fun H locs hP hS => ?_)
      refine lv_i2s (v := (r1.toInt16.toInt32)) hx hb dX2_branch_22 rfl ?_
      obtain ⟨v5, h9, hs⟩ := lt_e hs
      refine u_top h9 ?_
      refine lv_istore_n (lv' := [(3, .int v5), (2, .int v1), (0, .ref (ad 4)), (1, .int x1)]) hx hb dX2_branch_23 rfl hl (by decide) rfl (fun ls hl => ?_)
      exact J1 v5 S7 _ _ _ (lv_sub hl [0, 1, 2, 3] rfl) hP hS hs
theorem kX2_branch {p : Program} {l : Launch} {e : Env} {R : Room} {s : State} {m : MethodId} {args : Array Value} {below : List Frame} {meth : Method} {c : Code} {H : Heap} {locs : List Loc} {cells slots : Nat} {Q : State → Prop} {cc : ByteArray} {pc nL : Nat} {ls : Array Slot} {rest : List Value} {D : va_G} {ad : Nat → Nat} {cI cB : ClassId} {en : Nat → Nat} {S : St} {own : String} {index : Nat} {x1 : Int32} {So : St} (C : CallFix p m c cc nL s args wG own) (hlk : Cond.methodLink own index yX2_branch ∈ wG) (hR : rmX2_branch.frames + 1 ≤ R.frames ∧ 8 + (5 + 11) + rmX2_branch.locals ≤ R.locals) (hc : cells ≤ R.cells ∧ slots ≤ R.slots) (hK : KB D ad cI cB en s) (hP : va_P D vwCl (wB ad cI cB S) H) (hS : va_S (AX 10 ad s.heap.size) s.heap H locs) (hls : ls.size = nL) (hrest : (rest.map fun v => v.category).sum ≤ 8) (hd : decode cc pc = .ok (.invokevirtual index, 3)) (hs : fX2_branch x1 S = some So) (k : ∀ (H : Heap) (locs : List Loc), va_P D vwCl (wB ad cI cB So) H → va_S (AX 10 ad s.heap.size) s.heap H locs → W p l e R s m args below meth c H locs cells slots Q (F0 m (pc + 3) ls (rest))) : W p l e R s m args below meth c H locs cells slots Q (F0 m pc ls (.int x1 :: .ref (ad 4) :: rest)) :=
  u_callV (n := 1) (mX2_branch l D ad cI cB en S x1 So hs) C uK_B (wg_V hlk tI_X2_branch tS_X2_branch tN_X2 tK_X2_branch) rfl rfl rfl (by decide +kernel) hR rfl (va_recv hK.1 hP (ci := 2) (q0 := 4) rfl rfl) hK hP hS hls hrest hd hc rfl k
