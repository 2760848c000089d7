def fX7_thrown  (S : St) : Option (Int32 × St) :=
    (some ((S.1 0), S))
abbrev rmX7_thrown : Room := { frames := 0, cells := 0, slots := 0, locals := 0 }
set_option maxRecDepth 100000 in
set_option maxHeartbeats 4000000 in
theorem mX7_thrown (l : Launch) (D : va_G) (ad : Nat → Nat) (cI cB : ClassId) (en : Nat → Nat) (S : St)  (ro : Int32) (So : St) (hs : fX7_thrown  S = some (ro, So)) : uM l yX7_thrown (wg yX7_thrown cX7_thrown 1 (some .int)) rmX7_thrown (KM D ad cI cB en) D (wM ad cI cB) (AX 11 ad) [.ref (ad 0)] S (some (.int ro), So) := by
  refine uM_start (by decide) rfl ?_
  intro p e s m below meth c hx hb hr hlocks hml hown hts hK hP
  have hT : ∀ w ∈ wG, w.before _ s = true := fun w h => hts w (List.mem_cons_of_mem _ h)
  have hS : va_S (AX 11 ad s.heap.size) s.heap s.heap [] := va_S.rf
  have hown : s.vm.findClass RX7 = some m.cls := hown
  have C : CallFix p m c cX7_thrown 1 s _ wG RX7 := ⟨hx, hb, hml, hown, hT⟩
  have hl := lv_entry ([.ref (ad 0)]) (n := 1) (Nat.le_of_ble_eq_true rfl)
  rw [lg_entry_eq]
  generalize (lg_sl ([.ref (ad 0)]) ++ List.replicate (1 - (lg_sl ([.ref (ad 0)])).length) Slot.unset).toArray = ls at hl ⊢
  have hl : lv_has ls 1 [(0, .ref (ad 0))] := hl
  unfold fX7_thrown at hs
  refine lv_aload_n hx hb dX7_thrown_0 rfl (lv_at hl 0 rfl) ?_
  refine gM_X7_thrown hx hb hT hown hK hP (hT _ tF_X7_43) dX7_thrown_1 ?_
  exact u_iret hx hb hr hlocks hP hS hs dX7_thrown_4
theorem kX7_thrown {p : Program} {l : Launch} {e : Env} {R : Room} {s : State} {m : MethodId} {args : Array Value} {below : List Frame} {meth : Method} {c : Code} {H : Heap} {locs : List Loc} {cells slots : Nat} {Q : State → Prop} {cc : ByteArray} {pc nL : Nat} {ls : Array Slot} {rest : List Value} {D : va_G} {ad : Nat → Nat} {cI cB : ClassId} {en : Nat → Nat} {S : St} {own : String} {index : Nat}  {ro : Int32} {So : St} (C : CallFix p m c cc nL s args wG own) (hlk : Cond.methodLink own index yX7_thrown ∈ wG) (hR : rmX7_thrown.frames + 1 ≤ R.frames ∧ 8 + (1 + 11) + rmX7_thrown.locals ≤ R.locals) (hc : cells ≤ R.cells ∧ slots ≤ R.slots) (hK : KM D ad cI cB en s) (hP : va_P D vwCl (wM ad cI cB S) H) (hS : va_S (AX 11 ad s.heap.size) s.heap H locs) (hls : ls.size = nL) (hrest : (rest.map fun v => v.category).sum ≤ 8) (hd : decode cc pc = .ok (.invokevirtual index, 3)) (hs : fX7_thrown  S = some (ro, So)) (k : ∀ (H : Heap) (locs : List Loc), va_P D vwCl (wM ad cI cB So) H → va_S (AX 11 ad s.heap.size) s.heap H locs → W p l e R s m args below meth c H locs cells slots Q (F0 m (pc + 3) ls (.int ro :: rest))) : W p l e R s m args below meth c H locs cells slots Q (F0 m pc ls (.ref (ad 0) :: rest)) :=
  u_callV (n := 0) (mX7_thrown l D ad cI cB en S  ro So hs) C uK_M (wg_V hlk tI_X7_thrown tS_X7_thrown tN_X7 tK_X7_thrown) rfl rfl rfl (by decide +kernel) hR rfl (va_recv hK.1 hP (ci := 6) (q0 := 0) rfl rfl) hK hP hS hls hrest hd hc rfl k
def fX7_clear_b3  (k3 : Int32 → St → Option St) (v3 : Int32) (S11 : St) : Option St :=
    (if 64 ≤ v3 then (some S11)
    else (gd (ixo v3 64 = true) (lt (sA S11 4 v3.toNatClampNeg 0) fun S12 => (lt (v3 + 1) fun v4 => (k3 v4 S12)))))
def fX7_clear_l3  : Nat → Int32 → St → Option St
  | 0 => fun _ _ => none
  | n + 1 => fX7_clear_b3  (fX7_clear_l3  n)
def fX7_clear_b2  (k2 : Int32 → St → Option St) (v2 : Int32) (S2 : St) : Option St :=
    (if 7 ≤ v2 then (gd (ixo 0 2 = true) (lt (sA S2 3 (0 : Int32).toNatClampNeg 0) fun S3 => (gd (ixo 1 2 = true) (lt (sA S3 3 (1 : Int32).toNatClampNeg 1024) fun S4 => (lt (sI S4 1 1024) fun S5 => (lt (sI S5 2 8192) fun S6 => (lt (sZ S6 0 false) fun S7 => (lt (sZ S7 1 false) fun S8 => (lt (sI S8 3 0) fun S9 => (lt (sI S9 4 0) fun S10 => (fX7_clear_l3  65 0 S10)))))))))))
    else (gd (ixo v2 7 = true) (lt (sA S2 2 v2.toNatClampNeg 0) fun S13 => (lt (v2 + 1) fun v5 => (k2 v5 S13)))))
def fX7_clear_l2  : Nat → Int32 → St → Option St
  | 0 => fun _ _ => none
  | n + 1 => fX7_clear_b2  (fX7_clear_l2  n)
def fX7_clear_b1  (k1 : Int32 → St → Option St) (v1 : Int32) (S1 : St) : Option St :=
    (if 8 ≤ v1 then (fX7_clear_l2  65 0 S1)
    else (gd (ixo v1 8 = true) (lt (sA S1 1 v1.toNatClampNeg 0) fun S14 => (lt (v1 + 1) fun v6 => (k1 v6 S14)))))
def fX7_clear_l1  : Nat → Int32 → St → Option St
  | 0 => fun _ _ => none
  | n + 1 => fX7_clear_b1  (fX7_clear_l1  n)
def fX7_clear  (S : St) : Option St :=
    (fX7_clear_l1  65 0 S)
abbrev rmX7_clear : Room := { frames := 0, cells := 0, slots := 0, locals := 0 }
set_option maxRecDepth 100000 in
set_option maxHeartbeats 4000000 in
theorem mX7_clear (l : Launch) (D : va_G) (ad : Nat → Nat) (cI cB : ClassId) (en : Nat → Nat) (S : St)  (So : St) (hs : fX7_clear  S = some So) : uM l yX7_clear (wg yX7_clear cX7_clear 2 none) rmX7_clear (KM D ad cI cB en) D (wM ad cI cB) (AX 11 ad) [.ref (ad 0)] S (none, So) := by
  refine uM_start (by decide) rfl ?_
  intro p e s m below meth c hx hb hr hlocks hml hown hts hK hP
  have hT : ∀ w ∈ wG, w.before _ s = true := fun w h => hts w (List.mem_cons_of_mem _ h)
  have hS : va_S (AX 11 ad s.heap.size) s.heap s.heap [] := va_S.rf
  have hown : s.vm.findClass RX7 = some m.cls := hown
  have C : CallFix p m c cX7_clear 2 s _ wG RX7 := ⟨hx, hb, hml, hown, hT⟩
  have hl := lv_entry ([.ref (ad 0)]) (n := 2) (Nat.le_of_ble_eq_true rfl)
  rw [lg_entry_eq]
  generalize (lg_sl ([.ref (ad 0)]) ++ List.replicate (2 - (lg_sl ([.ref (ad 0)])).length) Slot.unset).toArray = ls at hl ⊢
  have hl : lv_has ls 2 [(0, .ref (ad 0))] := hl
  unfold fX7_clear at hs
  refine lv_iconst (v := 0) hx hb dX7_clear_0 (by decide) ?_
  refine lv_istore_n (lv' := [(1, .int 0), (0, .ref (ad 0))]) hx hb dX7_clear_1 rfl hl (by decide) rfl (fun ls hl => ?_)
  have L3 : ∀ (n : Nat) (v1 : Int32) (S1 : St) (H : Heap) (locs : List Loc) (ls : Array Slot), lv_has ls 2 [(1, .int v1), (0, .ref (ad 0))] → va_P D vwCl (wM ad cI cB S1) H → va_S (AX 11 ad s.heap.size) s.heap H locs → fX7_clear_l1  n v1 S1 = some So → W p l e rmX7_clear s m ([.ref (ad 0)] : List Value).toArray below meth c H locs 0 0 (MQ below (uQ D (wM ad cI cB) (none, So) (AX 11 ad s.heap.size)) ([.ref (ad 0)] : List Value).toArray s 0 0 (AX 11 ad s.heap.size)) (F0 m 2 ls []) := by
    intro n
    induction n with
    | zero => intro v1 S1 H locs ls hl hP hS hs; cases hs
    | succ n ih =>
      intro v1 S1 H locs ls hl hP hS hs
      have hs : fX7_clear_b1  (fX7_clear_l1  n) v1 S1 = some So := hs
      unfold fX7_clear_b1 at hs
      refine lv_iload_n hx hb dX7_clear_2 rfl (lv_at hl 0 rfl) ?_
      refine lv_bipush (v := 8) hx hb dX7_clear_3 (by decide) ?_
      refine lv_icmp_ge (tgt := 21) hx hb dX7_clear_5 (by decide) (fun c1 => ?_) (fun c1 => ?_)
      · have hs := if_t c1 hs
        refine lv_iconst (v := 0) hx hb dX7_clear_21 (by decide) ?_
        refine lv_istore_n (lv' := [(1, .int 0), (0, .ref (ad 0))]) hx hb dX7_clear_22 rfl hl (by decide) rfl (fun ls hl => ?_)
        have L2 : ∀ (n : Nat) (v2 : Int32) (S2 : St) (H : Heap) (locs : List Loc) (ls : Array Slot), lv_has ls 2 [(1, .int v2), (0, .ref (ad 0))] → va_P D vwCl (wM ad cI cB S2) H → va_S (AX 11 ad s.heap.size) s.heap H locs → fX7_clear_l2  n v2 S2 = some So → W p l e rmX7_clear s m ([.ref (ad 0)] : List Value).toArray below meth c H locs 0 0 (MQ below (uQ D (wM ad cI cB) (none, So) (AX 11 ad s.heap.size)) ([.ref (ad 0)] : List Value).toArray s 0 0 (AX 11 ad s.heap.size)) (F0 m 23 ls []) := by
          intro n
          induction n with
          | zero => intro v2 S2 H locs ls hl hP hS hs; cases hs
          | succ n ih =>
            intro v2 S2 H locs ls hl hP hS hs
            have hs : fX7_clear_b2  (fX7_clear_l2  n) v2 S2 = some So := hs
            unfold fX7_clear_b2 at hs
            refine lv_iload_n hx hb dX7_clear_23 rfl (lv_at hl 0 rfl) ?_
            refine lv_bipush (v := 7) hx hb dX7_clear_24 (by decide) ?_
            refine lv_icmp_ge (tgt := 42) hx hb dX7_clear_26 (by decide) (fun c2 => ?_) (fun c2 => ?_)
            · have hs := if_t c2 hs
              refine lv_aload_n hx hb dX7_clear_42 rfl (lv_at hl 1 rfl) ?_
              refine gM_X7_stack hx hb hT hown hK hP (hT _ tF_X7_19) dX7_clear_43 ?_
              refine lv_iconst (v := 0) hx hb dX7_clear_46 (by decide) ?_
              refine lv_iconst (v := 0) hx hb dX7_clear_47 (by decide) ?_
              obtain ⟨h1, hs⟩ := gd_e hs
              obtain ⟨S3, h2, hs⟩ := lt_e hs
              refine sM_stack hx hb hK hP hS (v := 0) (ixo_in h1) dX7_clear_48 h2 (fun H locs hP hS => ?_)
              refine lv_aload_n hx hb dX7_clear_49 rfl (lv_at hl 1 rfl) ?_
              refine gM_X7_stack hx hb hT hown hK hP (hT _ tF_X7_19) dX7_clear_50 ?_
              refine lv_iconst (v := 1) hx hb dX7_clear_53 (by decide) ?_
              refine lv_sipush (v := 1024) hx hb dX7_clear_54 (by decide) ?_
              obtain ⟨h3, hs⟩ := gd_e hs
              obtain ⟨S4, h4, hs⟩ := lt_e hs
              refine sM_stack hx hb hK hP hS (v := 1024) (ixo_in h3) dX7_clear_57 h4 (fun H locs hP hS => ?_)
              refine lv_aload_n hx hb dX7_clear_58 rfl (lv_at hl 1 rfl) ?_
              refine lv_sipush (v := 1024) hx hb dX7_clear_59 (by decide) ?_
              obtain ⟨S5, h5, hs⟩ := lt_e hs
              refine pM_X7_pc hx hb hT hown hK hP hS (hT _ tF_X7_47) dX7_clear_62 (v := 1024) h5 (fun H locs hP hS => ?_)
              refine lv_aload_n hx hb dX7_clear_65 rfl (lv_at hl 1 rfl) ?_
              refine lv_sipush (v := 8192) hx hb dX7_clear_66 (by decide) ?_
              obtain ⟨S6, h6, hs⟩ := lt_e hs
              refine pM_X7_sr hx hb hT hown hK hP hS (hT _ tF_X7_50) dX7_clear_69 (v := 8192) h6 (fun H locs hP hS => ?_)
              refine lv_aload_n hx hb dX7_clear_72 rfl (lv_at hl 1 rfl) ?_
              refine lv_iconst (v := 0) hx hb dX7_clear_73 (by decide) ?_
              obtain ⟨S7, h7, hs⟩ := lt_e hs
              refine pM_X7_waits hx hb hT hown hK hP hS (hT _ tF_X7_53) dX7_clear_74 (v := false) h7 (fun H locs hP hS => ?_)
              refine lv_aload_n hx hb dX7_clear_77 rfl (lv_at hl 1 rfl) ?_
              refine lv_iconst (v := 0) hx hb dX7_clear_78 (by decide) ?_
              obtain ⟨S8, h8, hs⟩ := lt_e hs
              refine pM_X7_halted hx hb hT hown hK hP hS (hT _ tF_X7_57) dX7_clear_79 (v := false) h8 (fun H locs hP hS => ?_)
              refine lv_aload_n hx hb dX7_clear_82 rfl (lv_at hl 1 rfl) ?_
              refine lv_iconst (v := 0) hx hb dX7_clear_83 (by decide) ?_
              obtain ⟨S9, h9, hs⟩ := lt_e hs
              refine pM_X7_wanted hx hb hT hown hK hP hS (hT _ tF_X7_60) dX7_clear_84 (v := 0) h9 (fun H locs hP hS => ?_)
              refine lv_aload_n hx hb dX7_clear_87 rfl (lv_at hl 1 rfl) ?_
              refine lv_iconst (v := 0) hx hb dX7_clear_88 (by decide) ?_
              obtain ⟨S10, h10, hs⟩ := lt_e hs
              refine pM_X7_all hx hb hT hown hK hP hS (hT _ tF_X7_63) dX7_clear_89 (v := 0) h10 (fun H locs hP hS => ?_)
              refine lv_iconst (v := 0) hx hb dX7_clear_92 (by decide) ?_
              refine lv_istore_n (lv' := [(1, .int 0), (0, .ref (ad 0))]) hx hb dX7_clear_93 rfl hl (by decide) rfl (fun ls hl => ?_)
              have L1 : ∀ (n : Nat) (v3 : Int32) (S11 : St) (H : Heap) (locs : List Loc) (ls : Array Slot), lv_has ls 2 [(1, .int v3), (0, .ref (ad 0))] → va_P D vwCl (wM ad cI cB S11) H → va_S (AX 11 ad s.heap.size) s.heap H locs → fX7_clear_l3  n v3 S11 = some So → W p l e rmX7_clear s m ([.ref (ad 0)] : List Value).toArray below meth c H locs 0 0 (MQ below (uQ D (wM ad cI cB) (none, So) (AX 11 ad s.heap.size)) ([.ref (ad 0)] : List Value).toArray s 0 0 (AX 11 ad s.heap.size)) (F0 m 94 ls []) := by
                intro n
                induction n with
                | zero => intro v3 S11 H locs ls hl hP hS hs; cases hs
                | succ n ih =>
                  intro v3 S11 H locs ls hl hP hS hs
                  have hs : fX7_clear_b3  (fX7_clear_l3  n) v3 S11 = some So := hs
                  unfold fX7_clear_b3 at hs
                  refine lv_iload_n hx hb dX7_clear_94 rfl (lv_at hl 0 rfl) ?_
                  refine lv_bipush (v := 64) hx hb dX7_clear_95 (by decide) ?_
                  refine lv_icmp_ge (tgt := 113) hx hb dX7_clear_97 (by decide) (fun c3 => ?_) (fun c3 => ?_)
                  · have hs := if_t c3 hs
                    exact u_vret hx hb hr hlocks hP hS hs dX7_clear_113
                  · have hs := if_f c3 hs
                    refine lv_aload_n hx hb dX7_clear_100 rfl (lv_at hl 1 rfl) ?_
                    refine gM_X7_counts hx hb hT hown hK hP (hT _ tF_X7_22) dX7_clear_101 ?_
                    refine lv_iload_n hx hb dX7_clear_104 rfl (lv_at hl 0 rfl) ?_
                    refine lv_iconst (v := 0) hx hb dX7_clear_105 (by decide) ?_
                    obtain ⟨h11, hs⟩ := gd_e hs
                    obtain ⟨S12, h12, hs⟩ := lt_e hs
                    refine sM_counts hx hb hK hP hS (v := 0) (ixo_in h11) dX7_clear_106 h12 (fun H locs hP hS => ?_)
                    obtain ⟨v4, h13, hs⟩ := lt_e hs
                    refine lv_iinc (v := v4) (lv' := [(1, .int v4), (0, .ref (ad 0))]) hx hb dX7_clear_107 hl (k := 0) rfl (by rw [h13]; rfl) (by decide) rfl (fun ls hl => ?_)
                    refine lv_goto (tgt := 94) hx hb dX7_clear_110 (by decide) ?_
                    exact ih v4 S12 _ _ _ (lv_sub hl [0, 1] rfl) hP hS hs
              exact L1 65 0 S10 _ _ _ (lv_sub hl [0, 1] rfl) hP hS hs
            · have hs := if_f c2 hs
              refine lv_aload_n hx hb dX7_clear_29 rfl (lv_at hl 1 rfl) ?_
              refine gM_X7_a hx hb hT hown hK hP (hT _ tF_X7_16) dX7_clear_30 ?_
              refine lv_iload_n hx hb dX7_clear_33 rfl (lv_at hl 0 rfl) ?_
              refine lv_iconst (v := 0) hx hb dX7_clear_34 (by decide) ?_
              obtain ⟨h14, hs⟩ := gd_e hs
              obtain ⟨S13, h15, hs⟩ := lt_e hs
              refine sM_a hx hb hK hP hS (v := 0) (ixo_in h14) dX7_clear_35 h15 (fun H locs hP hS => ?_)
              obtain ⟨v5, h16, hs⟩ := lt_e hs
              refine lv_iinc (v := v5) (lv' := [(1, .int v5), (0, .ref (ad 0))]) hx hb dX7_clear_36 hl (k := 0) rfl (by rw [h16]; rfl) (by decide) rfl (fun ls hl => ?_)
              refine lv_goto (tgt := 23) hx hb dX7_clear_39 (by decide) ?_
              exact ih v5 S13 _ _ _ (lv_sub hl [0, 1] rfl) hP hS hs
        exact L2 65 0 S1 _ _ _ (lv_sub hl [0, 1] rfl) hP hS hs
      · have hs := if_f c1 hs
        refine lv_aload_n hx hb dX7_clear_8 rfl (lv_at hl 1 rfl) ?_
        refine gM_X7_d hx hb hT hown hK hP (hT _ tF_X7_13) dX7_clear_9 ?_
        refine lv_iload_n hx hb dX7_clear_12 rfl (lv_at hl 0 rfl) ?_
        refine lv_iconst (v := 0) hx hb dX7_clear_13 (by decide) ?_
        obtain ⟨h17, hs⟩ := gd_e hs
        obtain ⟨S14, h18, hs⟩ := lt_e hs
        refine sM_d hx hb hK hP hS (v := 0) (ixo_in h17) dX7_clear_14 h18 (fun H locs hP hS => ?_)
        obtain ⟨v6, h19, hs⟩ := lt_e hs
        refine lv_iinc (v := v6) (lv' := [(1, .int v6), (0, .ref (ad 0))]) hx hb dX7_clear_15 hl (k := 0) rfl (by rw [h19]; rfl) (by decide) rfl (fun ls hl => ?_)
        refine lv_goto (tgt := 2) hx hb dX7_clear_18 (by decide) ?_
        exact ih v6 S14 _ _ _ (lv_sub hl [0, 1] rfl) hP hS hs
  exact L3 65 0 S _ _ _ (lv_sub hl [0, 1] rfl) hP hS hs
theorem kX7_clear {p : Program} {l : Launch} {e : Env} {R : Room} {s : State} {m : MethodId} {args : Array Value} {below : List Frame} {meth : Method} {c : Code} {H : Heap} {locs : List Loc} {cells slots : Nat} {Q : State → Prop} {cc : ByteArray} {pc nL : Nat} {ls : Array Slot} {rest : List Value} {D : va_G} {ad : Nat → Nat} {cI cB : ClassId} {en : Nat → Nat} {S : St} {own : String} {index : Nat}  {So : St} (C : CallFix p m c cc nL s args wG own) (hlk : Cond.methodLink own index yX7_clear ∈ wG) (hR : rmX7_clear.frames + 1 ≤ R.frames ∧ 8 + (2 + 11) + rmX7_clear.locals ≤ R.locals) (hc : cells ≤ R.cells ∧ slots ≤ R.slots) (hK : KM D ad cI cB en s) (hP : va_P D vwCl (wM ad cI cB S) H) (hS : va_S (AX 11 ad s.heap.size) s.heap H locs) (hls : ls.size = nL) (hrest : (rest.map fun v => v.category).sum ≤ 8) (hd : decode cc pc = .ok (.invokevirtual index, 3)) (hs : fX7_clear  S = some So) (k : ∀ (H : Heap) (locs : List Loc), va_P D vwCl (wM ad cI cB So) H → va_S (AX 11 ad s.heap.size) s.heap H locs → W p l e R s m args below meth c H locs cells slots Q (F0 m (pc + 3) ls (rest))) : W p l e R s m args below meth c H locs cells slots Q (F0 m pc ls (.ref (ad 0) :: rest)) :=
  u_callV (n := 0) (mX7_clear l D ad cI cB en S  So hs) C uK_M (wg_V hlk tI_X7_clear tS_X7_clear tN_X7 tK_X7_clear) rfl rfl rfl (by decide +kernel) hR rfl (va_recv hK.1 hP (ci := 6) (q0 := 0) rfl rfl) hK hP hS hls hrest hd hc rfl k
def fX7_reset  (S : St) : Option St :=
    (lt (sI S 0 0) fun S1 => (bv (fX7_clear S1) fun S2 => (some S2)))
abbrev rmX7_reset : Room := { frames := 1, cells := 0, slots := 0, locals := 21 }
set_option maxRecDepth 100000 in
set_option maxHeartbeats 4000000 in
theorem mX7_reset (l : Launch) (D : va_G) (ad : Nat → Nat) (cI cB : ClassId) (en : Nat → Nat) (S : St)  (So : St) (hs : fX7_reset  S = some So) : uM l yX7_reset (wg yX7_reset cX7_reset 1 none) rmX7_reset (KM D ad cI cB en) D (wM ad cI cB) (AX 11 ad) [.ref (ad 0)] S (none, So) := by
  refine uM_start (by decide) rfl ?_
  intro p e s m below meth c hx hb hr hlocks hml hown hts hK hP
  have hT : ∀ w ∈ wG, w.before _ s = true := fun w h => hts w (List.mem_cons_of_mem _ h)
  have hS : va_S (AX 11 ad s.heap.size) s.heap s.heap [] := va_S.rf
  have hown : s.vm.findClass RX7 = some m.cls := hown
  have C : CallFix p m c cX7_reset 1 s _ wG RX7 := ⟨hx, hb, hml, hown, hT⟩
  have hl := lv_entry ([.ref (ad 0)]) (n := 1) (Nat.le_of_ble_eq_true rfl)
  rw [lg_entry_eq]
  generalize (lg_sl ([.ref (ad 0)]) ++ List.replicate (1 - (lg_sl ([.ref (ad 0)])).length) Slot.unset).toArray = ls at hl ⊢
  have hl : lv_has ls 1 [(0, .ref (ad 0))] := hl
  unfold fX7_reset at hs
  refine lv_aload_n hx hb dX7_reset_0 rfl (lv_at hl 0 rfl) ?_
  refine lv_iconst (v := 0) hx hb dX7_reset_1 (by decide) ?_
  obtain ⟨S1, h1, hs⟩ := lt_e hs
  refine pM_X7_thrown hx hb hT hown hK hP hS (hT _ tF_X7_43) dX7_reset_2 (v := 0) h1 (fun H locs hP hS => ?_)
  refine lv_aload_n hx hb dX7_reset_5 rfl (lv_at hl 0 rfl) ?_
  obtain ⟨S2, h2, hs⟩ := bv_e hs
  refine kX7_clear C tM_X7_40 ⟨Nat.le_of_ble_eq_true rfl, Nat.le_of_ble_eq_true rfl⟩ ⟨Nat.le_of_ble_eq_true rfl, Nat.le_of_ble_eq_true rfl⟩ hK hP hS hl.1 (rest := []) (Nat.le_of_ble_eq_true rfl) dX7_reset_6 h2 (fun H locs hP hS => ?_)
  exact u_vret hx hb hr hlocks hP hS hs dX7_reset_9
theorem kX7_reset {p : Program} {l : Launch} {e : Env} {R : Room} {s : State} {m : MethodId} {args : Array Value} {below : List Frame} {meth : Method} {c : Code} {H : Heap} {locs : List Loc} {cells slots : Nat} {Q : State → Prop} {cc : ByteArray} {pc nL : Nat} {ls : Array Slot} {rest : List Value} {D : va_G} {ad : Nat → Nat} {cI cB : ClassId} {en : Nat → Nat} {S : St} {own : String} {index : Nat}  {So : St} (C : CallFix p m c cc nL s args wG own) (hlk : Cond.methodLink own index yX7_reset ∈ wG) (hR : rmX7_reset.frames + 1 ≤ R.frames ∧ 8 + (1 + 11) + rmX7_reset.locals ≤ R.locals) (hc : cells ≤ R.cells ∧ slots ≤ R.slots) (hK : KM D ad cI cB en s) (hP : va_P D vwCl (wM ad cI cB S) H) (hS : va_S (AX 11 ad s.heap.size) s.heap H locs) (hls : ls.size = nL) (hrest : (rest.map fun v => v.category).sum ≤ 8) (hd : decode cc pc = .ok (.invokevirtual index, 3)) (hs : fX7_reset  S = some So) (k : ∀ (H : Heap) (locs : List Loc), va_P D vwCl (wM ad cI cB So) H → va_S (AX 11 ad s.heap.size) s.heap H locs → W p l e R s m args below meth c H locs cells slots Q (F0 m (pc + 3) ls (rest))) : W p l e R s m args below meth c H locs cells slots Q (F0 m pc ls (.ref (ad 0) :: rest)) :=
  u_callV (n := 0) (mX7_reset l D ad cI cB en S  So hs) C uK_M (wg_V hlk tI_X7_reset tS_X7_reset tN_X7 tK_X7_reset) rfl rfl rfl (by decide +kernel) hR rfl (va_recv hK.1 hP (ci := 6) (q0 := 0) rfl rfl) hK hP hS hls hrest hd hc rfl k
def fX7_mode  (S : St) : Option (Int32 × St) :=
    (if ((S.1 2) &&& 8192) = 0 then (some (0, S))
    else (some (1, S)))
abbrev rmX7_mode : Room := { frames := 0, cells := 0, slots := 0, locals := 0 }
set_option maxRecDepth 100000 in
set_option maxHeartbeats 4000000 in
theorem mX7_mode (l : Launch) (D : va_G) (ad : Nat → Nat) (cI cB : ClassId) (en : Nat → Nat) (S : St)  (ro : Int32) (So : St) (hs : fX7_mode  S = some (ro, So)) : uM l yX7_mode (wg yX7_mode cX7_mode 1 (some .int)) rmX7_mode (KM D ad cI cB en) D (wM ad cI cB) (AX 11 ad) [.ref (ad 0)] S (some (.int ro), So) := by
  refine uM_start (by decide) rfl ?_
  intro p e s m below meth c hx hb hr hlocks hml hown hts hK hP
  have hT : ∀ w ∈ wG, w.before _ s = true := fun w h => hts w (List.mem_cons_of_mem _ h)
  have hS : va_S (AX 11 ad s.heap.size) s.heap s.heap [] := va_S.rf
  have hown : s.vm.findClass RX7 = some m.cls := hown
  have C : CallFix p m c cX7_mode 1 s _ wG RX7 := ⟨hx, hb, hml, hown, hT⟩
  have hl := lv_entry ([.ref (ad 0)]) (n := 1) (Nat.le_of_ble_eq_true rfl)
  rw [lg_entry_eq]
  generalize (lg_sl ([.ref (ad 0)]) ++ List.replicate (1 - (lg_sl ([.ref (ad 0)])).length) Slot.unset).toArray = ls at hl ⊢
  have hl : lv_has ls 1 [(0, .ref (ad 0))] := hl
  unfold fX7_mode at hs
  refine lv_aload_n hx hb dX7_mode_0 rfl (lv_at hl 0 rfl) ?_
  refine gM_X7_sr hx hb hT hown hK hP (hT _ tF_X7_50) dX7_mode_1 ?_
  refine lv_sipush (v := 8192) hx hb dX7_mode_4 (by decide) ?_
  refine lv_iand hx hb dX7_mode_7 ?_
  refine lv_if_eq (tgt := 15) hx hb dX7_mode_8 (by decide) (fun c1 => ?_) (fun c1 => ?_)
  · have hs := if_t c1 hs
    refine lv_iconst (v := 0) hx hb dX7_mode_15 (by decide) ?_
    exact u_iret hx hb hr hlocks hP hS hs dX7_mode_16
  · have hs := if_f c1 hs
    refine lv_iconst (v := 1) hx hb dX7_mode_11 (by decide) ?_
    refine lv_goto (tgt := 16) hx hb dX7_mode_12 (by decide) ?_
    exact u_iret hx hb hr hlocks hP hS hs dX7_mode_16
theorem kX7_mode {p : Program} {l : Launch} {e : Env} {R : Room} {s : State} {m : MethodId} {args : Array Value} {below : List Frame} {meth : Method} {c : Code} {H : Heap} {locs : List Loc} {cells slots : Nat} {Q : State → Prop} {cc : ByteArray} {pc nL : Nat} {ls : Array Slot} {rest : List Value} {D : va_G} {ad : Nat → Nat} {cI cB : ClassId} {en : Nat → Nat} {S : St} {own : String} {index : Nat}  {ro : Int32} {So : St} (C : CallFix p m c cc nL s args wG own) (hlk : Cond.methodLink own index yX7_mode ∈ wG) (hR : rmX7_mode.frames + 1 ≤ R.frames ∧ 8 + (1 + 11) + rmX7_mode.locals ≤ R.locals) (hc : cells ≤ R.cells ∧ slots ≤ R.slots) (hK : KM D ad cI cB en s) (hP : va_P D vwCl (wM ad cI cB S) H) (hS : va_S (AX 11 ad s.heap.size) s.heap H locs) (hls : ls.size = nL) (hrest : (rest.map fun v => v.category).sum ≤ 8) (hd : decode cc pc = .ok (.invokevirtual index, 3)) (hs : fX7_mode  S = some (ro, So)) (k : ∀ (H : Heap) (locs : List Loc), va_P D vwCl (wM ad cI cB So) H → va_S (AX 11 ad s.heap.size) s.heap H locs → W p l e R s m args below meth c H locs cells slots Q (F0 m (pc + 3) ls (.int ro :: rest))) : W p l e R s m args below meth c H locs cells slots Q (F0 m pc ls (.ref (ad 0) :: rest)) :=
  u_callV (n := 0) (mX7_mode l D ad cI cB en S  ro So hs) C uK_M (wg_V hlk tI_X7_mode tS_X7_mode tN_X7 tK_X7_mode) rfl rfl rfl (by decide +kernel) hR rfl (va_recv hK.1 hP (ci := 6) (q0 := 0) rfl rfl) hK hP hS hls hrest hd hc rfl k
def fX7_getA (x1 : Int32) (S : St) : Option (Int32 × St) :=
    (if x1 = 7 then (bd (fX7_mode S) fun r1 S1 => (gd (ixo r1 2 = true) (some ((S1.2.2 3 r1.toNatClampNeg), S1))))
    else (gd (ixo x1 7 = true) (some ((S.2.2 2 x1.toNatClampNeg), S))))
abbrev rmX7_getA : Room := { frames := 1, cells := 0, slots := 0, locals := 20 }
set_option maxRecDepth 100000 in
set_option maxHeartbeats 4000000 in
theorem mX7_getA (l : Launch) (D : va_G) (ad : Nat → Nat) (cI cB : ClassId) (en : Nat → Nat) (S : St) (x1 : Int32) (ro : Int32) (So : St) (hs : fX7_getA x1 S = some (ro, So)) : uM l yX7_getA (wg yX7_getA cX7_getA 2 (some .int)) rmX7_getA (KM D ad cI cB en) D (wM ad cI cB) (AX 11 ad) [.ref (ad 0), .int x1] S (some (.int ro), So) := by
  refine uM_start (by decide) rfl ?_
  intro p e s m below meth c hx hb hr hlocks hml hown hts hK hP
  have hT : ∀ w ∈ wG, w.before _ s = true := fun w h => hts w (List.mem_cons_of_mem _ h)
  have hS : va_S (AX 11 ad s.heap.size) s.heap s.heap [] := va_S.rf
  have hown : s.vm.findClass RX7 = some m.cls := hown
  have C : CallFix p m c cX7_getA 2 s _ wG RX7 := ⟨hx, hb, hml, hown, hT⟩
  have hl := lv_entry ([.ref (ad 0), .int x1]) (n := 2) (Nat.le_of_ble_eq_true rfl)
  rw [lg_entry_eq]
  generalize (lg_sl ([.ref (ad 0), .int x1]) ++ List.replicate (2 - (lg_sl ([.ref (ad 0), .int x1])).length) Slot.unset).toArray = ls at hl ⊢
  have hl : lv_has ls 2 [(0, .ref (ad 0)), (1, .int x1)] := hl
  unfold fX7_getA at hs
  refine lv_iload_n hx hb dX7_getA_0 rfl (lv_at hl 1 rfl) ?_
  refine lv_bipush (v := 7) hx hb dX7_getA_1 (by decide) ?_
  refine lv_icmp_ne (tgt := 18) hx hb dX7_getA_3 (by decide) (fun c1 => ?_) (fun c1 => ?_)
  · have hs := if_f c1 hs
    refine lv_aload_n hx hb dX7_getA_18 rfl (lv_at hl 0 rfl) ?_
    refine gM_X7_a hx hb hT hown hK hP (hT _ tF_X7_16) dX7_getA_19 ?_
    refine lv_iload_n hx hb dX7_getA_22 rfl (lv_at hl 1 rfl) ?_
    obtain ⟨h1, hs⟩ := gd_e hs
    refine lM_a hx hb hK hP (ixo_in h1) dX7_getA_23 ?_
    exact u_iret hx hb hr hlocks hP hS hs dX7_getA_24
  · have hs := if_t c1 hs
    refine lv_aload_n hx hb dX7_getA_6 rfl (lv_at hl 0 rfl) ?_
    refine gM_X7_stack hx hb hT hown hK hP (hT _ tF_X7_19) dX7_getA_7 ?_
    refine lv_aload_n hx hb dX7_getA_10 rfl (lv_at hl 0 rfl) ?_
    obtain ⟨r1, S1, h2, hs⟩ := bd_e hs
    refine kX7_mode C tM_X7_66 ⟨Nat.le_of_ble_eq_true rfl, Nat.le_of_ble_eq_true rfl⟩ ⟨Nat.le_of_ble_eq_true rfl, Nat.le_of_ble_eq_true rfl⟩ hK hP hS hl.1 (rest := [.ref (ad 4)]) (Nat.le_of_ble_eq_true rfl) dX7_getA_11 h2 (fun H locs hP hS => ?_)
    obtain ⟨h3, hs⟩ := gd_e hs
    refine lM_stack hx hb hK hP (ixo_in h3) dX7_getA_14 ?_
    refine lv_goto (tgt := 24) hx hb dX7_getA_15 (by decide) ?_
    exact u_iret hx hb hr hlocks hP hS hs dX7_getA_24
theorem kX7_getA {p : Program} {l : Launch} {e : Env} {R : Room} {s : State} {m : MethodId} {args : Array Value} {below : List Frame} {meth : Method} {c : Code} {H : Heap} {locs : List Loc} {cells slots : Nat} {Q : State → Prop} {cc : ByteArray} {pc nL : Nat} {ls : Array Slot} {rest : List Value} {D : va_G} {ad : Nat → Nat} {cI cB : ClassId} {en : Nat → Nat} {S : St} {own : String} {index : Nat} {x1 : Int32} {ro : Int32} {So : St} (C : CallFix p m c cc nL s args wG own) (hlk : Cond.methodLink own index yX7_getA ∈ wG) (hR : rmX7_getA.frames + 1 ≤ R.frames ∧ 8 + (2 + 11) + rmX7_getA.locals ≤ R.locals) (hc : cells ≤ R.cells ∧ slots ≤ R.slots) (hK : KM D ad cI cB en s) (hP : va_P D vwCl (wM ad cI cB S) H) (hS : va_S (AX 11 ad s.heap.size) s.heap H locs) (hls : ls.size = nL) (hrest : (rest.map fun v => v.category).sum ≤ 8) (hd : decode cc pc = .ok (.invokevirtual index, 3)) (hs : fX7_getA x1 S = some (ro, So)) (k : ∀ (H : Heap) (locs : List Loc), va_P D vwCl (wM ad cI cB So) H → va_S (AX 11 ad s.heap.size) s.heap H locs → W p l e R s m args below meth c H locs cells slots Q (F0 m (pc + 3) ls (.int ro :: rest))) : W p l e R s m args below meth c H locs cells slots Q (F0 m pc ls (.int x1 :: .ref (ad 0) :: rest)) :=
  u_callV (n := 1) (mX7_getA l D ad cI cB en S x1 ro So hs) C uK_M (wg_V hlk tI_X7_getA tS_X7_getA tN_X7 tK_X7_getA) rfl rfl rfl (by decide +kernel) hR rfl (va_recv hK.1 hP (ci := 6) (q0 := 0) rfl rfl) hK hP hS hls hrest hd hc rfl k
def fX7_setA (x1 : Int32) (x2 : Int32) (S : St) : Option St :=
    (if x1 = 7 then (bd (fX7_mode S) fun r1 S2 => (gd (ixo r1 2 = true) (lt (sA S2 3 r1.toNatClampNeg x2) fun S3 => (some S3))))
    else (gd (ixo x1 7 = true) (lt (sA S 2 x1.toNatClampNeg x2) fun S1 => (some S1))))
abbrev rmX7_setA : Room := { frames := 1, cells := 0, slots := 0, locals := 20 }
set_option maxRecDepth 100000 in
set_option maxHeartbeats 4000000 in
theorem mX7_setA (l : Launch) (D : va_G) (ad : Nat → Nat) (cI cB : ClassId) (en : Nat → Nat) (S : St) (x1 : Int32) (x2 : Int32) (So : St) (hs : fX7_setA x1 x2 S = some So) : uM l yX7_setA (wg yX7_setA cX7_setA 3 none) rmX7_setA (KM D ad cI cB en) D (wM ad cI cB) (AX 11 ad) [.ref (ad 0), .int x1, .int x2] S (none, So) := by
  refine uM_start (by decide) rfl ?_
  intro p e s m below meth c hx hb hr hlocks hml hown hts hK hP
  have hT : ∀ w ∈ wG, w.before _ s = true := fun w h => hts w (List.mem_cons_of_mem _ h)
  have hS : va_S (AX 11 ad s.heap.size) s.heap s.heap [] := va_S.rf
  have hown : s.vm.findClass RX7 = some m.cls := hown
  have C : CallFix p m c cX7_setA 3 s _ wG RX7 := ⟨hx, hb, hml, hown, hT⟩
  have hl := lv_entry ([.ref (ad 0), .int x1, .int x2]) (n := 3) (Nat.le_of_ble_eq_true rfl)
  rw [lg_entry_eq]
  generalize (lg_sl ([.ref (ad 0), .int x1, .int x2]) ++ List.replicate (3 - (lg_sl ([.ref (ad 0), .int x1, .int x2])).length) Slot.unset).toArray = ls at hl ⊢
  have hl : lv_has ls 3 [(0, .ref (ad 0)), (1, .int x1), (2, .int x2)] := hl
  unfold fX7_setA at hs
  refine lv_iload_n hx hb dX7_setA_0 rfl (lv_at hl 1 rfl) ?_
  refine lv_bipush (v := 7) hx hb dX7_setA_1 (by decide) ?_
  refine lv_icmp_ne (tgt := 19) hx hb dX7_setA_3 (by decide) (fun c1 => ?_) (fun c1 => ?_)
  · have hs := if_f c1 hs
    refine lv_aload_n hx hb dX7_setA_19 rfl (lv_at hl 0 rfl) ?_
    refine gM_X7_a hx hb hT hown hK hP (hT _ tF_X7_16) dX7_setA_20 ?_
    refine lv_iload_n hx hb dX7_setA_23 rfl (lv_at hl 1 rfl) ?_
    refine lv_iload_n hx hb dX7_setA_24 rfl (lv_at hl 2 rfl) ?_
    obtain ⟨h1, hs⟩ := gd_e hs
    obtain ⟨S1, h2, hs⟩ := lt_e hs
    refine sM_a hx hb hK hP hS (v := x2) (ixo_in h1) dX7_setA_25 h2 (fun H locs hP hS => ?_)
    exact u_vret hx hb hr hlocks hP hS hs dX7_setA_26
  · have hs := if_t c1 hs
    refine lv_aload_n hx hb dX7_setA_6 rfl (lv_at hl 0 rfl) ?_
    refine gM_X7_stack hx hb hT hown hK hP (hT _ tF_X7_19) dX7_setA_7 ?_
    refine lv_aload_n hx hb dX7_setA_10 rfl (lv_at hl 0 rfl) ?_
    obtain ⟨r1, S2, h3, hs⟩ := bd_e hs
    refine kX7_mode C tM_X7_66 ⟨Nat.le_of_ble_eq_true rfl, Nat.le_of_ble_eq_true rfl⟩ ⟨Nat.le_of_ble_eq_true rfl, Nat.le_of_ble_eq_true rfl⟩ hK hP hS hl.1 (rest := [.ref (ad 4)]) (Nat.le_of_ble_eq_true rfl) dX7_setA_11 h3 (fun H locs hP hS => ?_)
    refine lv_iload_n hx hb dX7_setA_14 rfl (lv_at hl 2 rfl) ?_
    obtain ⟨h4, hs⟩ := gd_e hs
    obtain ⟨S3, h5, hs⟩ := lt_e hs
    refine sM_stack hx hb hK hP hS (v := x2) (ixo_in h4) dX7_setA_15 h5 (fun H locs hP hS => ?_)
    refine lv_goto (tgt := 26) hx hb dX7_setA_16 (by decide) ?_
    exact u_vret hx hb hr hlocks hP hS hs dX7_setA_26
theorem kX7_setA {p : Program} {l : Launch} {e : Env} {R : Room} {s : State} {m : MethodId} {args : Array Value} {below : List Frame} {meth : Method} {c : Code} {H : Heap} {locs : List Loc} {cells slots : Nat} {Q : State → Prop} {cc : ByteArray} {pc nL : Nat} {ls : Array Slot} {rest : List Value} {D : va_G} {ad : Nat → Nat} {cI cB : ClassId} {en : Nat → Nat} {S : St} {own : String} {index : Nat} {x1 : Int32} {x2 : Int32} {So : St} (C : CallFix p m c cc nL s args wG own) (hlk : Cond.methodLink own index yX7_setA ∈ wG) (hR : rmX7_setA.frames + 1 ≤ R.frames ∧ 8 + (3 + 11) + rmX7_setA.locals ≤ R.locals) (hc : cells ≤ R.cells ∧ slots ≤ R.slots) (hK : KM D ad cI cB en s) (hP : va_P D vwCl (wM ad cI cB S) H) (hS : va_S (AX 11 ad s.heap.size) s.heap H locs) (hls : ls.size = nL) (hrest : (rest.map fun v => v.category).sum ≤ 8) (hd : decode cc pc = .ok (.invokevirtual index, 3)) (hs : fX7_setA x1 x2 S = some So) (k : ∀ (H : Heap) (locs : List Loc), va_P D vwCl (wM ad cI cB So) H → va_S (AX 11 ad s.heap.size) s.heap H locs → W p l e R s m args below meth c H locs cells slots Q (F0 m (pc + 3) ls (rest))) : W p l e R s m args below meth c H locs cells slots Q (F0 m pc ls (.int x2 :: .int x1 :: .ref (ad 0) :: rest)) :=
  u_callV (n := 2) (mX7_setA l D ad cI cB en S x1 x2 So hs) C uK_M (wg_V hlk tI_X7_setA tS_X7_setA tN_X7 tK_X7_setA) rfl rfl rfl (by decide +kernel) hR rfl (va_recv hK.1 hP (ci := 6) (q0 := 0) rfl rfl) hK hP hS hls hrest hd hc rfl k
def fX7_register (x1 : Int32) (S : St) : Option (Int32 × St) :=
    (jn (fun (b1 : Bool) => (lt (sI S 0 (zI b1)) fun S1 => (if (S1.1 0) ≤ 0 then (if 8 ≤ x1 then (if 16 ≤ x1 then (if x1 = 16 then (some ((S1.1 1), S1))
    else (if x1 = 17 then (some ((S1.1 2), S1))
    else (gd (ixo (x1 - 18) 2 = true) (some ((S1.2.2 3 (x1 - 18).toNatClampNeg), S1)))))
    else (bd (fX7_getA (x1 - 8) S1) fun r1 S2 => (some (r1, S2))))
    else (gd (ixo x1 8 = true) (some ((S1.2.2 1 x1.toNatClampNeg), S1))))
    else (some (0, S1))))) fun K1 =>
    (if x1 < 0 then (K1 true)
    else (if x1 ≤ 19 then (K1 false)
    else (K1 true))))
abbrev rmX7_register : Room := { frames := 2, cells := 0, slots := 0, locals := 41 }
set_option maxRecDepth 100000 in
set_option maxHeartbeats 4000000 in
theorem mX7_register (l : Launch) (D : va_G) (ad : Nat → Nat) (cI cB : ClassId) (en : Nat → Nat) (S : St) (x1 : Int32) (ro : Int32) (So : St) (hs : fX7_register x1 S = some (ro, So)) : uM l yX7_register (wg yX7_register cX7_register 2 (some .int)) rmX7_register (KM D ad cI cB en) D (wM ad cI cB) (AX 11 ad) [.ref (ad 0), .int x1] S (some (.int ro), So) := by
  refine uM_start (by decide) rfl ?_
  intro p e s m below meth c hx hb hr hlocks hml hown hts hK hP
  have hT : ∀ w ∈ wG, w.before _ s = true := fun w h => hts w (List.mem_cons_of_mem _ h)
  have hS : va_S (AX 11 ad s.heap.size) s.heap s.heap [] := va_S.rf
  have hown : s.vm.findClass RX7 = some m.cls := hown
  have C : CallFix p m c cX7_register 2 s _ wG RX7 := ⟨hx, hb, hml, hown, hT⟩
  have hl := lv_entry ([.ref (ad 0), .int x1]) (n := 2) (Nat.le_of_ble_eq_true rfl)
  rw [lg_entry_eq]
  generalize (lg_sl ([.ref (ad 0), .int x1]) ++ List.replicate (2 - (lg_sl ([.ref (ad 0), .int x1])).length) Slot.unset).toArray = ls at hl ⊢
  have hl : lv_has ls 2 [(0, .ref (ad 0)), (1, .int x1)] := hl
  unfold fX7_register at hs
  refine lv_aload_n hx hb dX7_register_0 rfl (lv_at hl 0 rfl) ?_
  refine lv_iload_n hx hb dX7_register_1 rfl (lv_at hl 1 rfl) ?_
  refine jn_e hs (fun K1 => ∀ (b1 : Bool) (H : Heap) (locs : List Loc) (ls : Array Slot), lv_has ls 2 [(0, .ref (ad 0)), (1, .int x1)] → va_P D vwCl (wM ad cI cB S) H → va_S (AX 11 ad s.heap.size) s.heap H locs → K1 b1 = some (ro, So) → W p l e rmX7_register s m ([.ref (ad 0), .int x1] : List Value).toArray below meth c H locs 0 0 (MQ below (uQ D (wM ad cI cB) (some (.int ro), So) (AX 11 ad s.heap.size)) ([.ref (ad 0), .int x1] : List Value).toArray s 0 0 (AX 11 ad s.heap.size)) (F0 m 16 ls [.int (zI b1), .ref (ad 0)])) ?_ (fun K1 J1 hs => ?_)
  · intro b1 H locs ls hl hP hS hs
    obtain ⟨S1, h1, hs⟩ := lt_e hs
    refine pM_X7_thrown hx hb hT hown hK hP hS (hT _ tF_X7_43) dX7_register_16 (v := (zI b1)) h1 (fun H locs hP hS => ?_)
    refine lv_aload_n hx hb dX7_register_19 rfl (lv_at hl 0 rfl) ?_
    refine gM_X7_thrown hx hb hT hown hK hP (hT _ tF_X7_43) dX7_register_20 ?_
    refine lv_if_le (tgt := 28) hx hb dX7_register_23 (by decide) (fun c1 => ?_) (fun c1 => ?_)
    · have hs := if_t c1 hs
      refine lv_iload_n hx hb dX7_register_28 rfl (lv_at hl 1 rfl) ?_
      refine lv_bipush (v := 8) hx hb dX7_register_29 (by decide) ?_
      refine lv_icmp_ge (tgt := 43) hx hb dX7_register_31 (by decide) (fun c2 => ?_) (fun c2 => ?_)
      · have hs := if_t c2 hs
        refine lv_iload_n hx hb dX7_register_43 rfl (lv_at hl 1 rfl) ?_
        refine lv_bipush (v := 16) hx hb dX7_register_44 (by decide) ?_
        refine lv_icmp_ge (tgt := 60) hx hb dX7_register_46 (by decide) (fun c3 => ?_) (fun c3 => ?_)
        · have hs := if_t c3 hs
          refine lv_iload_n hx hb dX7_register_60 rfl (lv_at hl 1 rfl) ?_
          refine lv_bipush (v := 16) hx hb dX7_register_61 (by decide) ?_
          refine lv_icmp_ne (tgt := 73) hx hb dX7_register_63 (by decide) (fun c4 => ?_) (fun c4 => ?_)
          · have hs := if_f c4 hs
            refine lv_iload_n hx hb dX7_register_73 rfl (lv_at hl 1 rfl) ?_
            refine lv_bipush (v := 17) hx hb dX7_register_74 (by decide) ?_
            refine lv_icmp_ne (tgt := 86) hx hb dX7_register_76 (by decide) (fun c5 => ?_) (fun c5 => ?_)
            · have hs := if_f c5 hs
              refine lv_aload_n hx hb dX7_register_86 rfl (lv_at hl 0 rfl) ?_
              refine gM_X7_stack hx hb hT hown hK hP (hT _ tF_X7_19) dX7_register_87 ?_
              refine lv_iload_n hx hb dX7_register_90 rfl (lv_at hl 1 rfl) ?_
              refine lv_bipush (v := 18) hx hb dX7_register_91 (by decide) ?_
              refine lv_isub hx hb dX7_register_93 ?_
              obtain ⟨h2, hs⟩ := gd_e hs
              refine lM_stack hx hb hK hP (ixo_in h2) dX7_register_94 ?_
              exact u_iret hx hb hr hlocks hP hS hs dX7_register_95
            · have hs := if_t c5 hs
              refine lv_aload_n hx hb dX7_register_79 rfl (lv_at hl 0 rfl) ?_
              refine gM_X7_sr hx hb hT hown hK hP (hT _ tF_X7_50) dX7_register_80 ?_
              refine lv_goto (tgt := 95) hx hb dX7_register_83 (by decide) ?_
              exact u_iret hx hb hr hlocks hP hS hs dX7_register_95
          · have hs := if_t c4 hs
            refine lv_aload_n hx hb dX7_register_66 rfl (lv_at hl 0 rfl) ?_
            refine gM_X7_pc hx hb hT hown hK hP (hT _ tF_X7_47) dX7_register_67 ?_
            refine lv_goto (tgt := 95) hx hb dX7_register_70 (by decide) ?_
            exact u_iret hx hb hr hlocks hP hS hs dX7_register_95
        · have hs := if_f c3 hs
          refine lv_aload_n hx hb dX7_register_49 rfl (lv_at hl 0 rfl) ?_
          refine lv_iload_n hx hb dX7_register_50 rfl (lv_at hl 1 rfl) ?_
          refine lv_bipush (v := 8) hx hb dX7_register_51 (by decide) ?_
          refine lv_isub hx hb dX7_register_53 ?_
          obtain ⟨r1, S2, h3, hs⟩ := bd_e hs
          refine kX7_getA C tM_X7_70 ⟨Nat.le_of_ble_eq_true rfl, Nat.le_of_ble_eq_true rfl⟩ ⟨Nat.le_of_ble_eq_true rfl, Nat.le_of_ble_eq_true rfl⟩ hK hP hS hl.1 (rest := []) (Nat.le_of_ble_eq_true rfl) dX7_register_54 h3 (fun H locs hP hS => ?_)
          refine lv_goto (tgt := 95) hx hb dX7_register_57 (by decide) ?_
          exact u_iret hx hb hr hlocks hP hS hs dX7_register_95
      · have hs := if_f c2 hs
        refine lv_aload_n hx hb dX7_register_34 rfl (lv_at hl 0 rfl) ?_
        refine gM_X7_d hx hb hT hown hK hP (hT _ tF_X7_13) dX7_register_35 ?_
        refine lv_iload_n hx hb dX7_register_38 rfl (lv_at hl 1 rfl) ?_
        obtain ⟨h4, hs⟩ := gd_e hs
        refine lM_d hx hb hK hP (ixo_in h4) dX7_register_39 ?_
        refine lv_goto (tgt := 95) hx hb dX7_register_40 (by decide) ?_
        exact u_iret hx hb hr hlocks hP hS hs dX7_register_95
    · have hs := if_f c1 hs
      refine lv_iconst (v := 0) hx hb dX7_register_26 (by decide) ?_
      exact u_iret hx hb hr hlocks hP hS hs dX7_register_27
  ·
    refine lv_if_lt (tgt := 11) hx hb dX7_register_2 (by decide) (fun c6 => ?_) (fun c6 => ?_)
    · have hs := if_t c6 hs
      refine lv_iconst (v := 1) hx hb dX7_register_11 (by decide) ?_
      refine lv_goto (tgt := 16) hx hb dX7_register_12 (by decide) ?_
      exact J1 true _ _ _ (lv_sub hl [0, 1] rfl) hP hS hs
    · have hs := if_f c6 hs
      refine lv_iload_n hx hb dX7_register_5 rfl (lv_at hl 1 rfl) ?_
      refine lv_bipush (v := 19) hx hb dX7_register_6 (by decide) ?_
      refine lv_icmp_le (tgt := 15) hx hb dX7_register_8 (by decide) (fun c7 => ?_) (fun c7 => ?_)
      · have hs := if_t c7 hs
        refine lv_iconst (v := 0) hx hb dX7_register_15 (by decide) ?_
        exact J1 false _ _ _ (lv_sub hl [0, 1] rfl) hP hS hs
      · have hs := if_f c7 hs
        refine lv_iconst (v := 1) hx hb dX7_register_11 (by decide) ?_
        refine lv_goto (tgt := 16) hx hb dX7_register_12 (by decide) ?_
        exact J1 true _ _ _ (lv_sub hl [0, 1] rfl) hP hS hs
theorem kX7_register {p : Program} {l : Launch} {e : Env} {R : Room} {s : State} {m : MethodId} {args : Array Value} {below : List Frame} {meth : Method} {c : Code} {H : Heap} {locs : List Loc} {cells slots : Nat} {Q : State → Prop} {cc : ByteArray} {pc nL : Nat} {ls : Array Slot} {rest : List Value} {D : va_G} {ad : Nat → Nat} {cI cB : ClassId} {en : Nat → Nat} {S : St} {own : String} {index : Nat} {x1 : Int32} {ro : Int32} {So : St} (C : CallFix p m c cc nL s args wG own) (hlk : Cond.methodLink own index yX7_register ∈ wG) (hR : rmX7_register.frames + 1 ≤ R.frames ∧ 8 + (2 + 11) + rmX7_register.locals ≤ R.locals) (hc : cells ≤ R.cells ∧ slots ≤ R.slots) (hK : KM D ad cI cB en s) (hP : va_P D vwCl (wM ad cI cB S) H) (hS : va_S (AX 11 ad s.heap.size) s.heap H locs) (hls : ls.size = nL) (hrest : (rest.map fun v => v.category).sum ≤ 8) (hd : decode cc pc = .ok (.invokevirtual index, 3)) (hs : fX7_register x1 S = some (ro, So)) (k : ∀ (H : Heap) (locs : List Loc), va_P D vwCl (wM ad cI cB So) H → va_S (AX 11 ad s.heap.size) s.heap H locs → W p l e R s m args below meth c H locs cells slots Q (F0 m (pc + 3) ls (.int ro :: rest))) : W p l e R s m args below meth c H locs cells slots Q (F0 m pc ls (.int x1 :: .ref (ad 0) :: rest)) :=
  u_callV (n := 1) (mX7_register l D ad cI cB en S x1 ro So hs) C uK_M (wg_V hlk tI_X7_register tS_X7_register tN_X7 tK_X7_register) rfl rfl rfl (by decide +kernel) hR rfl (va_recv hK.1 hP (ci := 6) (q0 := 0) rfl rfl) hK hP hS hls hrest hd hc rfl k
def fX7_put (x1 : Int32) (x2 : Int32) (S : St) : Option St :=
    (jn (fun (b1 : Bool) => (lt (sI S 0 (zI b1)) fun S1 => (if (S1.1 0) ≤ 0 then (if 8 ≤ x1 then (if 16 ≤ x1 then (if x1 = 16 then (lt (sI S1 1 x2) fun S4 => (some S4))
    else (if x1 = 17 then (lt (sI S1 2 (x2 &&& 42783)) fun S3 => (some S3))
    else (gd (ixo (x1 - 18) 2 = true) (lt (sA S1 3 (x1 - 18).toNatClampNeg x2) fun S2 => (some S2)))))
    else (bv (fX7_setA (x1 - 8) x2 S1) fun S5 => (some S5)))
    else (gd (ixo x1 8 = true) (lt (sA S1 1 x1.toNatClampNeg x2) fun S6 => (some S6))))
    else (some S1)))) fun K1 =>
    (if x1 < 0 then (K1 true)
    else (if x1 ≤ 19 then (K1 false)
    else (K1 true))))
abbrev rmX7_put : Room := { frames := 2, cells := 0, slots := 0, locals := 42 }
set_option maxRecDepth 100000 in
set_option maxHeartbeats 4000000 in
theorem mX7_put (l : Launch) (D : va_G) (ad : Nat → Nat) (cI cB : ClassId) (en : Nat → Nat) (S : St) (x1 : Int32) (x2 : Int32) (So : St) (hs : fX7_put x1 x2 S = some So) : uM l yX7_put (wg yX7_put cX7_put 3 none) rmX7_put (KM D ad cI cB en) D (wM ad cI cB) (AX 11 ad) [.ref (ad 0), .int x1, .int x2] S (none, So) := by
  refine uM_start (by decide) rfl ?_
  intro p e s m below meth c hx hb hr hlocks hml hown hts hK hP
  have hT : ∀ w ∈ wG, w.before _ s = true := fun w h => hts w (List.mem_cons_of_mem _ h)
  have hS : va_S (AX 11 ad s.heap.size) s.heap s.heap [] := va_S.rf
  have hown : s.vm.findClass RX7 = some m.cls := hown
  have C : CallFix p m c cX7_put 3 s _ wG RX7 := ⟨hx, hb, hml, hown, hT⟩
  have hl := lv_entry ([.ref (ad 0), .int x1, .int x2]) (n := 3) (Nat.le_of_ble_eq_true rfl)
  rw [lg_entry_eq]
  generalize (lg_sl ([.ref (ad 0), .int x1, .int x2]) ++ List.replicate (3 - (lg_sl ([.ref (ad 0), .int x1, .int x2])).length) Slot.unset).toArray = ls at hl ⊢
  have hl : lv_has ls 3 [(0, .ref (ad 0)), (1, .int x1), (2, .int x2)] := hl
  unfold fX7_put at hs
  refine lv_aload_n hx hb dX7_put_0 rfl (lv_at hl 0 rfl) ?_
  refine lv_iload_n hx hb dX7_put_1 rfl (lv_at hl 1 rfl) ?_
  refine jn_e hs (fun K1 => ∀ (b1 : Bool) (H : Heap) (locs : List Loc) (ls : Array Slot), lv_has ls 3 [(0, .ref (ad 0)), (1, .int x1), (2, .int x2)] → va_P D vwCl (wM ad cI cB S) H → va_S (AX 11 ad s.heap.size) s.heap H locs → K1 b1 = some So → W p l e rmX7_put s m ([.ref (ad 0), .int x1, .int x2] : List Value).toArray below meth c H locs 0 0 (MQ below (uQ D (wM ad cI cB) (none, So) (AX 11 ad s.heap.size)) ([.ref (ad 0), .int x1, .int x2] : List Value).toArray s 0 0 (AX 11 ad s.heap.size)) (F0 m 16 ls [.int (zI b1), .ref (ad 0)])) ?_ (fun K1 J1 hs => ?_)
  · intro b1 H locs ls hl hP hS hs
    obtain ⟨S1, h1, hs⟩ := lt_e hs
    refine pM_X7_thrown hx hb hT hown hK hP hS (hT _ tF_X7_43) dX7_put_16 (v := (zI b1)) h1 (fun H locs hP hS => ?_)
    refine lv_aload_n hx hb dX7_put_19 rfl (lv_at hl 0 rfl) ?_
    refine gM_X7_thrown hx hb hT hown hK hP (hT _ tF_X7_43) dX7_put_20 ?_
    refine lv_if_le (tgt := 27) hx hb dX7_put_23 (by decide) (fun c1 => ?_) (fun c1 => ?_)
    · have hs := if_t c1 hs
      refine lv_iload_n hx hb dX7_put_27 rfl (lv_at hl 1 rfl) ?_
      refine lv_bipush (v := 8) hx hb dX7_put_28 (by decide) ?_
      refine lv_icmp_ge (tgt := 43) hx hb dX7_put_30 (by decide) (fun c2 => ?_) (fun c2 => ?_)
      · have hs := if_t c2 hs
        refine lv_iload_n hx hb dX7_put_43 rfl (lv_at hl 1 rfl) ?_
        refine lv_bipush (v := 16) hx hb dX7_put_44 (by decide) ?_
        refine lv_icmp_ge (tgt := 61) hx hb dX7_put_46 (by decide) (fun c3 => ?_) (fun c3 => ?_)
        · have hs := if_t c3 hs
          refine lv_iload_n hx hb dX7_put_61 rfl (lv_at hl 1 rfl) ?_
          refine lv_bipush (v := 16) hx hb dX7_put_62 (by decide) ?_
          refine lv_icmp_ne (tgt := 75) hx hb dX7_put_64 (by decide) (fun c4 => ?_) (fun c4 => ?_)
          · have hs := if_f c4 hs
            refine lv_iload_n hx hb dX7_put_75 rfl (lv_at hl 1 rfl) ?_
            refine lv_bipush (v := 17) hx hb dX7_put_76 (by decide) ?_
            refine lv_icmp_ne (tgt := 92) hx hb dX7_put_78 (by decide) (fun c5 => ?_) (fun c5 => ?_)
            · have hs := if_f c5 hs
              refine lv_aload_n hx hb dX7_put_92 rfl (lv_at hl 0 rfl) ?_
              refine gM_X7_stack hx hb hT hown hK hP (hT _ tF_X7_19) dX7_put_93 ?_
              refine lv_iload_n hx hb dX7_put_96 rfl (lv_at hl 1 rfl) ?_
              refine lv_bipush (v := 18) hx hb dX7_put_97 (by decide) ?_
              refine lv_isub hx hb dX7_put_99 ?_
              refine lv_iload_n hx hb dX7_put_100 rfl (lv_at hl 2 rfl) ?_
              obtain ⟨h2, hs⟩ := gd_e hs
              obtain ⟨S2, h3, hs⟩ := lt_e hs
              refine sM_stack hx hb hK hP hS (v := x2) (ixo_in h2) dX7_put_101 h3 (fun H locs hP hS => ?_)
              exact u_vret hx hb hr hlocks hP hS hs dX7_put_102
            · have hs := if_t c5 hs
              refine lv_aload_n hx hb dX7_put_81 rfl (lv_at hl 0 rfl) ?_
              refine lv_iload_n hx hb dX7_put_82 rfl (lv_at hl 2 rfl) ?_
              refine lv_ldc (v := 42783) hx hb hown (hT _ tC_X7_78) dX7_put_83 ?_
              refine lv_iand hx hb dX7_put_85 ?_
              obtain ⟨S3, h4, hs⟩ := lt_e hs
              refine pM_X7_sr hx hb hT hown hK hP hS (hT _ tF_X7_50) dX7_put_86 (v := (x2 &&& 42783)) h4 (fun H locs hP hS => ?_)
              refine lv_goto (tgt := 102) hx hb dX7_put_89 (by decide) ?_
              exact u_vret hx hb hr hlocks hP hS hs dX7_put_102
          · have hs := if_t c4 hs
            refine lv_aload_n hx hb dX7_put_67 rfl (lv_at hl 0 rfl) ?_
            refine lv_iload_n hx hb dX7_put_68 rfl (lv_at hl 2 rfl) ?_
            obtain ⟨S4, h5, hs⟩ := lt_e hs
            refine pM_X7_pc hx hb hT hown hK hP hS (hT _ tF_X7_47) dX7_put_69 (v := x2) h5 (fun H locs hP hS => ?_)
            refine lv_goto (tgt := 102) hx hb dX7_put_72 (by decide) ?_
            exact u_vret hx hb hr hlocks hP hS hs dX7_put_102
        · have hs := if_f c3 hs
          refine lv_aload_n hx hb dX7_put_49 rfl (lv_at hl 0 rfl) ?_
          refine lv_iload_n hx hb dX7_put_50 rfl (lv_at hl 1 rfl) ?_
          refine lv_bipush (v := 8) hx hb dX7_put_51 (by decide) ?_
          refine lv_isub hx hb dX7_put_53 ?_
          refine lv_iload_n hx hb dX7_put_54 rfl (lv_at hl 2 rfl) ?_
          obtain ⟨S5, h6, hs⟩ := bv_e hs
          refine kX7_setA C tM_X7_74 ⟨Nat.le_of_ble_eq_true rfl, Nat.le_of_ble_eq_true rfl⟩ ⟨Nat.le_of_ble_eq_true rfl, Nat.le_of_ble_eq_true rfl⟩ hK hP hS hl.1 (rest := []) (Nat.le_of_ble_eq_true rfl) dX7_put_55 h6 (fun H locs hP hS => ?_)
          refine lv_goto (tgt := 102) hx hb dX7_put_58 (by decide) ?_
          exact u_vret hx hb hr hlocks hP hS hs dX7_put_102
      · have hs := if_f c2 hs
        refine lv_aload_n hx hb dX7_put_33 rfl (lv_at hl 0 rfl) ?_
        refine gM_X7_d hx hb hT hown hK hP (hT _ tF_X7_13) dX7_put_34 ?_
        refine lv_iload_n hx hb dX7_put_37 rfl (lv_at hl 1 rfl) ?_
        refine lv_iload_n hx hb dX7_put_38 rfl (lv_at hl 2 rfl) ?_
        obtain ⟨h7, hs⟩ := gd_e hs
        obtain ⟨S6, h8, hs⟩ := lt_e hs
        refine sM_d hx hb hK hP hS (v := x2) (ixo_in h7) dX7_put_39 h8 (fun H locs hP hS => ?_)
        refine lv_goto (tgt := 102) hx hb dX7_put_40 (by decide) ?_
        exact u_vret hx hb hr hlocks hP hS hs dX7_put_102
    · have hs := if_f c1 hs
      exact u_vret hx hb hr hlocks hP hS hs dX7_put_26
  ·
    refine lv_if_lt (tgt := 11) hx hb dX7_put_2 (by decide) (fun c6 => ?_) (fun c6 => ?_)
    · have hs := if_t c6 hs
      refine lv_iconst (v := 1) hx hb dX7_put_11 (by decide) ?_
      refine lv_goto (tgt := 16) hx hb dX7_put_12 (by decide) ?_
      exact J1 true _ _ _ (lv_sub hl [0, 1, 2] rfl) hP hS hs
    · have hs := if_f c6 hs
      refine lv_iload_n hx hb dX7_put_5 rfl (lv_at hl 1 rfl) ?_
      refine lv_bipush (v := 19) hx hb dX7_put_6 (by decide) ?_
      refine lv_icmp_le (tgt := 15) hx hb dX7_put_8 (by decide) (fun c7 => ?_) (fun c7 => ?_)
      · have hs := if_t c7 hs
        refine lv_iconst (v := 0) hx hb dX7_put_15 (by decide) ?_
        exact J1 false _ _ _ (lv_sub hl [0, 1, 2] rfl) hP hS hs
      · have hs := if_f c7 hs
        refine lv_iconst (v := 1) hx hb dX7_put_11 (by decide) ?_
        refine lv_goto (tgt := 16) hx hb dX7_put_12 (by decide) ?_
        exact J1 true _ _ _ (lv_sub hl [0, 1, 2] rfl) hP hS hs
theorem kX7_put {p : Program} {l : Launch} {e : Env} {R : Room} {s : State} {m : MethodId} {args : Array Value} {below : List Frame} {meth : Method} {c : Code} {H : Heap} {locs : List Loc} {cells slots : Nat} {Q : State → Prop} {cc : ByteArray} {pc nL : Nat} {ls : Array Slot} {rest : List Value} {D : va_G} {ad : Nat → Nat} {cI cB : ClassId} {en : Nat → Nat} {S : St} {own : String} {index : Nat} {x1 : Int32} {x2 : Int32} {So : St} (C : CallFix p m c cc nL s args wG own) (hlk : Cond.methodLink own index yX7_put ∈ wG) (hR : rmX7_put.frames + 1 ≤ R.frames ∧ 8 + (3 + 11) + rmX7_put.locals ≤ R.locals) (hc : cells ≤ R.cells ∧ slots ≤ R.slots) (hK : KM D ad cI cB en s) (hP : va_P D vwCl (wM ad cI cB S) H) (hS : va_S (AX 11 ad s.heap.size) s.heap H locs) (hls : ls.size = nL) (hrest : (rest.map fun v => v.category).sum ≤ 8) (hd : decode cc pc = .ok (.invokevirtual index, 3)) (hs : fX7_put x1 x2 S = some So) (k : ∀ (H : Heap) (locs : List Loc), va_P D vwCl (wM ad cI cB So) H → va_S (AX 11 ad s.heap.size) s.heap H locs → W p l e R s m args below meth c H locs cells slots Q (F0 m (pc + 3) ls (rest))) : W p l e R s m args below meth c H locs cells slots Q (F0 m pc ls (.int x2 :: .int x1 :: .ref (ad 0) :: rest)) :=
  u_callV (n := 2) (mX7_put l D ad cI cB en S x1 x2 So hs) C uK_M (wg_V hlk tI_X7_put tS_X7_put tN_X7 tK_X7_put) rfl rfl rfl (by decide +kernel) hR rfl (va_recv hK.1 hP (ci := 6) (q0 := 0) rfl rfl) hK hP hS hls hrest hd hc rfl k
def fX7_byteAt (x1 : Int32) (S : St) : Option (Int32 × St) :=
    (gd (ixo (x1 &&& 4095) 4096 = true) (some ((S.2.2 0 (x1 &&& 4095).toNatClampNeg), S)))
abbrev rmX7_byteAt : Room := { frames := 0, cells := 0, slots := 0, locals := 0 }
set_option maxRecDepth 100000 in
set_option maxHeartbeats 4000000 in
theorem mX7_byteAt (l : Launch) (D : va_G) (ad : Nat → Nat) (cI cB : ClassId) (en : Nat → Nat) (S : St) (x1 : Int32) (ro : Int32) (So : St) (hs : fX7_byteAt x1 S = some (ro, So)) : uM l yX7_byteAt (wg yX7_byteAt cX7_byteAt 2 (some .int)) rmX7_byteAt (KM D ad cI cB en) D (wM ad cI cB) (AX 11 ad) [.ref (ad 0), .int x1] S (some (.int ro), So) := by
  refine uM_start (by decide) rfl ?_
  intro p e s m below meth c hx hb hr hlocks hml hown hts hK hP
  have hT : ∀ w ∈ wG, w.before _ s = true := fun w h => hts w (List.mem_cons_of_mem _ h)
  have hS : va_S (AX 11 ad s.heap.size) s.heap s.heap [] := va_S.rf
  have hown : s.vm.findClass RX7 = some m.cls := hown
  have C : CallFix p m c cX7_byteAt 2 s _ wG RX7 := ⟨hx, hb, hml, hown, hT⟩
  have hl := lv_entry ([.ref (ad 0), .int x1]) (n := 2) (Nat.le_of_ble_eq_true rfl)
  rw [lg_entry_eq]
  generalize (lg_sl ([.ref (ad 0), .int x1]) ++ List.replicate (2 - (lg_sl ([.ref (ad 0), .int x1])).length) Slot.unset).toArray = ls at hl ⊢
  have hl : lv_has ls 2 [(0, .ref (ad 0)), (1, .int x1)] := hl
  unfold fX7_byteAt at hs
  refine lv_aload_n hx hb dX7_byteAt_0 rfl (lv_at hl 0 rfl) ?_
  refine gM_X7_memory hx hb hT hown hK hP (hT _ tF_X7_7) dX7_byteAt_1 ?_
  refine lv_iload_n hx hb dX7_byteAt_4 rfl (lv_at hl 1 rfl) ?_
  refine lv_sipush (v := 4095) hx hb dX7_byteAt_5 (by decide) ?_
  refine lv_iand hx hb dX7_byteAt_8 ?_
  obtain ⟨h1, hs⟩ := gd_e hs
  refine lM_memory hx hb hK hP (ixo_in h1) dX7_byteAt_9 ?_
  exact u_iret hx hb hr hlocks hP hS hs dX7_byteAt_10
theorem kX7_byteAt {p : Program} {l : Launch} {e : Env} {R : Room} {s : State} {m : MethodId} {args : Array Value} {below : List Frame} {meth : Method} {c : Code} {H : Heap} {locs : List Loc} {cells slots : Nat} {Q : State → Prop} {cc : ByteArray} {pc nL : Nat} {ls : Array Slot} {rest : List Value} {D : va_G} {ad : Nat → Nat} {cI cB : ClassId} {en : Nat → Nat} {S : St} {own : String} {index : Nat} {x1 : Int32} {ro : Int32} {So : St} (C : CallFix p m c cc nL s args wG own) (hlk : Cond.methodLink own index yX7_byteAt ∈ wG) (hR : rmX7_byteAt.frames + 1 ≤ R.frames ∧ 8 + (2 + 11) + rmX7_byteAt.locals ≤ R.locals) (hc : cells ≤ R.cells ∧ slots ≤ R.slots) (hK : KM D ad cI cB en s) (hP : va_P D vwCl (wM ad cI cB S) H) (hS : va_S (AX 11 ad s.heap.size) s.heap H locs) (hls : ls.size = nL) (hrest : (rest.map fun v => v.category).sum ≤ 8) (hd : decode cc pc = .ok (.invokevirtual index, 3)) (hs : fX7_byteAt x1 S = some (ro, So)) (k : ∀ (H : Heap) (locs : List Loc), va_P D vwCl (wM ad cI cB So) H → va_S (AX 11 ad s.heap.size) s.heap H locs → W p l e R s m args below meth c H locs cells slots Q (F0 m (pc + 3) ls (.int ro :: rest))) : W p l e R s m args below meth c H locs cells slots Q (F0 m pc ls (.int x1 :: .ref (ad 0) :: rest)) :=
  u_callV (n := 1) (mX7_byteAt l D ad cI cB en S x1 ro So hs) C uK_M (wg_V hlk tI_X7_byteAt tS_X7_byteAt tN_X7 tK_X7_byteAt) rfl rfl rfl (by decide +kernel) hR rfl (va_recv hK.1 hP (ci := 6) (q0 := 0) rfl rfl) hK hP hS hls hrest hd hc rfl k
def fX7_setByte (x1 : Int32) (x2 : Int32) (S : St) : Option St :=
    (jn (fun (S1 : St) => (gd (ixo (x1 &&& 4095) 4096 = true) (lt (sA S1 0 (x1 &&& 4095).toNatClampNeg (x2 &&& 255)) fun S2 => (some S2)))) fun K1 =>
    (if 400 ≤ (S.1 11) then (K1 S)
    else (gd (ixo (S.1 11) 400 = true) (lt (sA S 8 (S.1 11).toNatClampNeg (x1 &&& 4095)) fun S3 => (gd (ixo (x1 &&& 4095) 4096 = true) (gd (ixo (S3.1 11) 400 = true) (lt (sA S3 9 (S3.1 11).toNatClampNeg (S3.2.2 0 (x1 &&& 4095).toNatClampNeg)) fun S4 => (lt (sI S4 11 ((S4.1 11) + 1)) fun S5 => (K1 S5)))))))))
abbrev rmX7_setByte : Room := { frames := 0, cells := 0, slots := 0, locals := 0 }
set_option maxRecDepth 100000 in
set_option maxHeartbeats 4000000 in
theorem mX7_setByte (l : Launch) (D : va_G) (ad : Nat → Nat) (cI cB : ClassId) (en : Nat → Nat) (S : St) (x1 : Int32) (x2 : Int32) (So : St) (hs : fX7_setByte x1 x2 S = some So) : uM l yX7_setByte (wg yX7_setByte cX7_setByte 3 none) rmX7_setByte (KM D ad cI cB en) D (wM ad cI cB) (AX 11 ad) [.ref (ad 0), .int x1, .int x2] S (none, So) := by
  refine uM_start (by decide) rfl ?_
  intro p e s m below meth c hx hb hr hlocks hml hown hts hK hP
  have hT : ∀ w ∈ wG, w.before _ s = true := fun w h => hts w (List.mem_cons_of_mem _ h)
  have hS : va_S (AX 11 ad s.heap.size) s.heap s.heap [] := va_S.rf
  have hown : s.vm.findClass RX7 = some m.cls := hown
  have C : CallFix p m c cX7_setByte 3 s _ wG RX7 := ⟨hx, hb, hml, hown, hT⟩
  have hl := lv_entry ([.ref (ad 0), .int x1, .int x2]) (n := 3) (Nat.le_of_ble_eq_true rfl)
  rw [lg_entry_eq]
  generalize (lg_sl ([.ref (ad 0), .int x1, .int x2]) ++ List.replicate (3 - (lg_sl ([.ref (ad 0), .int x1, .int x2])).length) Slot.unset).toArray = ls at hl ⊢
  have hl : lv_has ls 3 [(0, .ref (ad 0)), (1, .int x1), (2, .int x2)] := hl
  unfold fX7_setByte at hs
  refine lv_aload_n hx hb dX7_setByte_0 rfl (lv_at hl 0 rfl) ?_
  refine gM_X7_changes hx hb hT hown hK hP (hT _ tF_X7_79) dX7_setByte_1 ?_
  refine lv_sipush (v := 400) hx hb dX7_setByte_4 (by decide) ?_
  refine jn_e hs (fun K1 => ∀ (S1 : St) (H : Heap) (locs : List Loc) (ls : Array Slot), lv_has ls 3 [(0, .ref (ad 0)), (1, .int x1), (2, .int x2)] → va_P D vwCl (wM ad cI cB S1) H → va_S (AX 11 ad s.heap.size) s.heap H locs → K1 S1 = some So → W p l e rmX7_setByte s m ([.ref (ad 0), .int x1, .int x2] : List Value).toArray below meth c H locs 0 0 (MQ below (uQ D (wM ad cI cB) (none, So) (AX 11 ad s.heap.size)) ([.ref (ad 0), .int x1, .int x2] : List Value).toArray s 0 0 (AX 11 ad s.heap.size)) (F0 m 53 ls [])) ?_ (fun K1 J1 hs => ?_)
  · intro S1 H locs ls hl hP hS hs
    refine lv_aload_n hx hb dX7_setByte_53 rfl (lv_at hl 0 rfl) ?_
    refine gM_X7_memory hx hb hT hown hK hP (hT _ tF_X7_7) dX7_setByte_54 ?_
    refine lv_iload_n hx hb dX7_setByte_57 rfl (lv_at hl 1 rfl) ?_
    refine lv_sipush (v := 4095) hx hb dX7_setByte_58 (by decide) ?_
    refine lv_iand hx hb dX7_setByte_61 ?_
    refine lv_iload_n hx hb dX7_setByte_62 rfl (lv_at hl 2 rfl) ?_
    refine lv_sipush (v := 255) hx hb dX7_setByte_63 (by decide) ?_
    refine lv_iand hx hb dX7_setByte_66 ?_
    obtain ⟨h1, hs⟩ := gd_e hs
    obtain ⟨S2, h2, hs⟩ := lt_e hs
    refine sM_memory hx hb hK hP hS (v := (x2 &&& 255)) (ixo_in h1) dX7_setByte_67 h2 (fun H locs hP hS => ?_)
    exact u_vret hx hb hr hlocks hP hS hs dX7_setByte_68
  ·
    refine lv_icmp_ge (tgt := 53) hx hb dX7_setByte_7 (by decide) (fun c1 => ?_) (fun c1 => ?_)
    · have hs := if_t c1 hs
      exact J1 S _ _ _ (lv_sub hl [0, 1, 2] rfl) hP hS hs
    · have hs := if_f c1 hs
      refine lv_aload_n hx hb dX7_setByte_10 rfl (lv_at hl 0 rfl) ?_
      refine gM_X7_changedAt hx hb hT hown hK hP (hT _ tF_X7_34) dX7_setByte_11 ?_
      refine lv_aload_n hx hb dX7_setByte_14 rfl (lv_at hl 0 rfl) ?_
      refine gM_X7_changes hx hb hT hown hK hP (hT _ tF_X7_79) dX7_setByte_15 ?_
      refine lv_iload_n hx hb dX7_setByte_18 rfl (lv_at hl 1 rfl) ?_
      refine lv_sipush (v := 4095) hx hb dX7_setByte_19 (by decide) ?_
      refine lv_iand hx hb dX7_setByte_22 ?_
      obtain ⟨h3, hs⟩ := gd_e hs
      obtain ⟨S3, h4, hs⟩ := lt_e hs
      refine sM_changedAt hx hb hK hP hS (v := (x1 &&& 4095)) (ixo_in h3) dX7_setByte_23 h4 (fun H locs hP hS => ?_)
      refine lv_aload_n hx hb dX7_setByte_24 rfl (lv_at hl 0 rfl) ?_
      refine gM_X7_changedFrom hx hb hT hown hK hP (hT _ tF_X7_37) dX7_setByte_25 ?_
      refine lv_aload_n hx hb dX7_setByte_28 rfl (lv_at hl 0 rfl) ?_
      refine gM_X7_changes hx hb hT hown hK hP (hT _ tF_X7_79) dX7_setByte_29 ?_
      refine lv_aload_n hx hb dX7_setByte_32 rfl (lv_at hl 0 rfl) ?_
      refine gM_X7_memory hx hb hT hown hK hP (hT _ tF_X7_7) dX7_setByte_33 ?_
      refine lv_iload_n hx hb dX7_setByte_36 rfl (lv_at hl 1 rfl) ?_
      refine lv_sipush (v := 4095) hx hb dX7_setByte_37 (by decide) ?_
      refine lv_iand hx hb dX7_setByte_40 ?_
      obtain ⟨h5, hs⟩ := gd_e hs
      refine lM_memory hx hb hK hP (ixo_in h5) dX7_setByte_41 ?_
      obtain ⟨h6, hs⟩ := gd_e hs
      obtain ⟨S4, h7, hs⟩ := lt_e hs
      refine sM_changedFrom hx hb hK hP hS (v := (S3.2.2 0 (x1 &&& 4095).toNatClampNeg)) (ixo_in h6) dX7_setByte_42 h7 (fun H locs hP hS => ?_)
      refine lv_aload_n hx hb dX7_setByte_43 rfl (lv_at hl 0 rfl) ?_
      refine lv_dup hx hb dX7_setByte_44 rfl ?_
      refine gM_X7_changes hx hb hT hown hK hP (hT _ tF_X7_79) dX7_setByte_45 ?_
      refine lv_iconst (v := 1) hx hb dX7_setByte_48 (by decide) ?_
      refine lv_iadd hx hb dX7_setByte_49 ?_
      obtain ⟨S5, h8, hs⟩ := lt_e hs
      refine pM_X7_changes hx hb hT hown hK hP hS (hT _ tF_X7_79) dX7_setByte_50 (v := ((S4.1 11) + 1)) h8 (fun H locs hP hS => ?_)
      exact J1 S5 _ _ _ (lv_sub hl [0, 1, 2] rfl) hP hS hs
theorem kX7_setByte {p : Program} {l : Launch} {e : Env} {R : Room} {s : State} {m : MethodId} {args : Array Value} {below : List Frame} {meth : Method} {c : Code} {H : Heap} {locs : List Loc} {cells slots : Nat} {Q : State → Prop} {cc : ByteArray} {pc nL : Nat} {ls : Array Slot} {rest : List Value} {D : va_G} {ad : Nat → Nat} {cI cB : ClassId} {en : Nat → Nat} {S : St} {own : String} {index : Nat} {x1 : Int32} {x2 : Int32} {So : St} (C : CallFix p m c cc nL s args wG own) (hlk : Cond.methodLink own index yX7_setByte ∈ wG) (hR : rmX7_setByte.frames + 1 ≤ R.frames ∧ 8 + (3 + 11) + rmX7_setByte.locals ≤ R.locals) (hc : cells ≤ R.cells ∧ slots ≤ R.slots) (hK : KM D ad cI cB en s) (hP : va_P D vwCl (wM ad cI cB S) H) (hS : va_S (AX 11 ad s.heap.size) s.heap H locs) (hls : ls.size = nL) (hrest : (rest.map fun v => v.category).sum ≤ 8) (hd : decode cc pc = .ok (.invokevirtual index, 3)) (hs : fX7_setByte x1 x2 S = some So) (k : ∀ (H : Heap) (locs : List Loc), va_P D vwCl (wM ad cI cB So) H → va_S (AX 11 ad s.heap.size) s.heap H locs → W p l e R s m args below meth c H locs cells slots Q (F0 m (pc + 3) ls (rest))) : W p l e R s m args below meth c H locs cells slots Q (F0 m pc ls (.int x2 :: .int x1 :: .ref (ad 0) :: rest)) :=
  u_callV (n := 2) (mX7_setByte l D ad cI cB en S x1 x2 So hs) C uK_M (wg_V hlk tI_X7_setByte tS_X7_setByte tN_X7 tK_X7_setByte) rfl rfl rfl (by decide +kernel) hR rfl (va_recv hK.1 hP (ci := 6) (q0 := 0) rfl rfl) hK hP hS hls hrest hd hc rfl k
def fX7_fetch_b1 (x1 : Int32) (x2 : Int32) (k1 : Int32 → Int32 → St → Option (Int32 × St)) (v1 : Int32) (v2 : Int32) (S1 : St) : Option (Int32 × St) :=
    (if x2 ≤ v1 then (some (v2, S1))
    else (bd (fX7_byteAt (x1 + v1) S1) fun r1 S2 => (lt (((v2 <<< ((8 : Int32) &&& 31)) ||| r1) : Int32) fun v3 => (lt (v1 + 1) fun v4 => (k1 v4 v3 S2)))))
def fX7_fetch_l1 (x1 : Int32) (x2 : Int32) : Nat → Int32 → Int32 → St → Option (Int32 × St)
  | 0 => fun _ _ _ => none
  | n + 1 => fX7_fetch_b1 x1 x2 (fX7_fetch_l1 x1 x2 n)
def fX7_fetch (x1 : Int32) (x2 : Int32) (S : St) : Option (Int32 × St) :=
    (fX7_fetch_l1 x1 x2 5 0 0 S)
abbrev rmX7_fetch : Room := { frames := 1, cells := 0, slots := 0, locals := 21 }
set_option maxRecDepth 100000 in
set_option maxHeartbeats 4000000 in
theorem mX7_fetch (l : Launch) (D : va_G) (ad : Nat → Nat) (cI cB : ClassId) (en : Nat → Nat) (S : St) (x1 : Int32) (x2 : Int32) (ro : Int32) (So : St) (hs : fX7_fetch x1 x2 S = some (ro, So)) : uM l yX7_fetch (wg yX7_fetch cX7_fetch 5 (some .int)) rmX7_fetch (KM D ad cI cB en) D (wM ad cI cB) (AX 11 ad) [.ref (ad 0), .int x1, .int x2] S (some (.int ro), So) := by
  refine uM_start (by decide) rfl ?_
  intro p e s m below meth c hx hb hr hlocks hml hown hts hK hP
  have hT : ∀ w ∈ wG, w.before _ s = true := fun w h => hts w (List.mem_cons_of_mem _ h)
  have hS : va_S (AX 11 ad s.heap.size) s.heap s.heap [] := va_S.rf
  have hown : s.vm.findClass RX7 = some m.cls := hown
  have C : CallFix p m c cX7_fetch 5 s _ wG RX7 := ⟨hx, hb, hml, hown, hT⟩
  have hl := lv_entry ([.ref (ad 0), .int x1, .int x2]) (n := 5) (Nat.le_of_ble_eq_true rfl)
  rw [lg_entry_eq]
  generalize (lg_sl ([.ref (ad 0), .int x1, .int x2]) ++ List.replicate (5 - (lg_sl ([.ref (ad 0), .int x1, .int x2])).length) Slot.unset).toArray = ls at hl ⊢
  have hl : lv_has ls 5 [(0, .ref (ad 0)), (1, .int x1), (2, .int x2)] := hl
  unfold fX7_fetch at hs
  refine lv_iconst (v := 0) hx hb dX7_fetch_0 (by decide) ?_
  refine lv_istore_n (lv' := [(3, .int 0), (0, .ref (ad 0)), (1, .int x1), (2, .int x2)]) hx hb dX7_fetch_1 rfl hl (by decide) rfl (fun ls hl => ?_)
  refine lv_iconst (v := 0) hx hb dX7_fetch_2 (by decide) ?_
  refine lv_istore (lv' := [(4, .int 0), (3, .int 0), (0, .ref (ad 0)), (1, .int x1), (2, .int x2)]) hx hb dX7_fetch_3 hl (by decide) rfl (fun ls hl => ?_)
  have L1 : ∀ (n : Nat) (v1 : Int32) (v2 : Int32) (S1 : St) (H : Heap) (locs : List Loc) (ls : Array Slot), lv_has ls 5 [(4, .int v1), (3, .int v2), (0, .ref (ad 0)), (1, .int x1), (2, .int x2)] → va_P D vwCl (wM ad cI cB S1) H → va_S (AX 11 ad s.heap.size) s.heap H locs → fX7_fetch_l1 x1 x2 n v1 v2 S1 = some (ro, So) → W p l e rmX7_fetch s m ([.ref (ad 0), .int x1, .int x2] : List Value).toArray below meth c H locs 0 0 (MQ below (uQ D (wM ad cI cB) (some (.int ro), So) (AX 11 ad s.heap.size)) ([.ref (ad 0), .int x1, .int x2] : List Value).toArray s 0 0 (AX 11 ad s.heap.size)) (F0 m 5 ls []) := by
    intro n
    induction n with
    | zero => intro v1 v2 S1 H locs ls hl hP hS hs; cases hs
    | succ n ih =>
      intro v1 v2 S1 H locs ls hl hP hS hs
      have hs : fX7_fetch_b1 x1 x2 (fX7_fetch_l1 x1 x2 n) v1 v2 S1 = some (ro, So) := hs
      unfold fX7_fetch_b1 at hs
      refine lv_iload hx hb dX7_fetch_5 (lv_at hl 0 rfl) ?_
      refine lv_iload_n hx hb dX7_fetch_7 rfl (lv_at hl 4 rfl) ?_
      refine lv_icmp_ge (tgt := 31) hx hb dX7_fetch_8 (by decide) (fun c1 => ?_) (fun c1 => ?_)
      · have hs := if_t c1 hs
        refine lv_iload_n hx hb dX7_fetch_31 rfl (lv_at hl 1 rfl) ?_
        exact u_iret hx hb hr hlocks hP hS hs dX7_fetch_32
      · have hs := if_f c1 hs
        refine lv_iload_n hx hb dX7_fetch_11 rfl (lv_at hl 1 rfl) ?_
        refine lv_bipush (v := 8) hx hb dX7_fetch_12 (by decide) ?_
        refine lv_ishl hx hb dX7_fetch_14 ?_
        refine lv_aload_n hx hb dX7_fetch_15 rfl (lv_at hl 2 rfl) ?_
        refine lv_iload_n hx hb dX7_fetch_16 rfl (lv_at hl 3 rfl) ?_
        refine lv_iload hx hb dX7_fetch_17 (lv_at hl 0 rfl) ?_
        refine lv_iadd hx hb dX7_fetch_19 ?_
        obtain ⟨r1, S2, h1, hs⟩ := bd_e hs
        refine kX7_byteAt C tM_X7_82 ⟨Nat.le_of_ble_eq_true rfl, Nat.le_of_ble_eq_true rfl⟩ ⟨Nat.le_of_ble_eq_true rfl, Nat.le_of_ble_eq_true rfl⟩ hK hP hS hl.1 (rest := [.int (v2 <<< ((8 : Int32) &&& 31))]) (Nat.le_of_ble_eq_true rfl) dX7_fetch_20 h1 (fun H locs hP hS => ?_)
        refine lv_ior hx hb dX7_fetch_23 ?_
        obtain ⟨v3, h2, hs⟩ := lt_e hs
        refine u_top h2 ?_
        refine lv_istore_n (lv' := [(3, .int v3), (4, .int v1), (0, .ref (ad 0)), (1, .int x1), (2, .int x2)]) hx hb dX7_fetch_24 rfl hl (by decide) rfl (fun ls hl => ?_)
        obtain ⟨v4, h3, hs⟩ := lt_e hs
        refine lv_iinc (v := v4) (lv' := [(4, .int v4), (3, .int v3), (0, .ref (ad 0)), (1, .int x1), (2, .int x2)]) hx hb dX7_fetch_25 hl (k := 1) rfl (by rw [h3]; rfl) (by decide) rfl (fun ls hl => ?_)
        refine lv_goto (tgt := 5) hx hb dX7_fetch_28 (by decide) ?_
        exact ih v4 v3 S2 _ _ _ (lv_sub hl [0, 1, 2, 3, 4] rfl) hP hS hs
  exact L1 5 0 0 S _ _ _ (lv_sub hl [0, 1, 2, 3, 4] rfl) hP hS hs
theorem kX7_fetch {p : Program} {l : Launch} {e : Env} {R : Room} {s : State} {m : MethodId} {args : Array Value} {below : List Frame} {meth : Method} {c : Code} {H : Heap} {locs : List Loc} {cells slots : Nat} {Q : State → Prop} {cc : ByteArray} {pc nL : Nat} {ls : Array Slot} {rest : List Value} {D : va_G} {ad : Nat → Nat} {cI cB : ClassId} {en : Nat → Nat} {S : St} {own : String} {index : Nat} {x1 : Int32} {x2 : Int32} {ro : Int32} {So : St} (C : CallFix p m c cc nL s args wG own) (hlk : Cond.methodLink own index yX7_fetch ∈ wG) (hR : rmX7_fetch.frames + 1 ≤ R.frames ∧ 8 + (5 + 11) + rmX7_fetch.locals ≤ R.locals) (hc : cells ≤ R.cells ∧ slots ≤ R.slots) (hK : KM D ad cI cB en s) (hP : va_P D vwCl (wM ad cI cB S) H) (hS : va_S (AX 11 ad s.heap.size) s.heap H locs) (hls : ls.size = nL) (hrest : (rest.map fun v => v.category).sum ≤ 8) (hd : decode cc pc = .ok (.invokevirtual index, 3)) (hs : fX7_fetch x1 x2 S = some (ro, So)) (k : ∀ (H : Heap) (locs : List Loc), va_P D vwCl (wM ad cI cB So) H → va_S (AX 11 ad s.heap.size) s.heap H locs → W p l e R s m args below meth c H locs cells slots Q (F0 m (pc + 3) ls (.int ro :: rest))) : W p l e R s m args below meth c H locs cells slots Q (F0 m pc ls (.int x2 :: .int x1 :: .ref (ad 0) :: rest)) :=
  u_callV (n := 2) (mX7_fetch l D ad cI cB en S x1 x2 ro So hs) C uK_M (wg_V hlk tI_X7_fetch tS_X7_fetch tN_X7 tK_X7_fetch) rfl rfl rfl (by decide +kernel) hR rfl (va_recv hK.1 hP (ci := 6) (q0 := 0) rfl rfl) hK hP hS hls hrest hd hc rfl k
def fX7_store_b1 (x1 : Int32) (x2 : Int32) (x3 : Int32) (k1 : Int32 → St → Option St) (v1 : Int32) (S1 : St) : Option St :=
    (if x3 ≤ v1 then (some S1)
    else (bv (fX7_setByte (x1 + v1) (x2 >>> ((8 * ((x3 - 1) - v1)) &&& 31)) S1) fun S2 => (lt (v1 + 1) fun v2 => (k1 v2 S2))))
def fX7_store_l1 (x1 : Int32) (x2 : Int32) (x3 : Int32) : Nat → Int32 → St → Option St
  | 0 => fun _ _ => none
  | n + 1 => fX7_store_b1 x1 x2 x3 (fX7_store_l1 x1 x2 x3 n)
def fX7_store (x1 : Int32) (x2 : Int32) (x3 : Int32) (S : St) : Option St :=
    (fX7_store_l1 x1 x2 x3 5 0 S)
abbrev rmX7_store : Room := { frames := 1, cells := 0, slots := 0, locals := 22 }
set_option maxRecDepth 100000 in
set_option maxHeartbeats 4000000 in
theorem mX7_store (l : Launch) (D : va_G) (ad : Nat → Nat) (cI cB : ClassId) (en : Nat → Nat) (S : St) (x1 : Int32) (x2 : Int32) (x3 : Int32) (So : St) (hs : fX7_store x1 x2 x3 S = some So) : uM l yX7_store (wg yX7_store cX7_store 5 none) rmX7_store (KM D ad cI cB en) D (wM ad cI cB) (AX 11 ad) [.ref (ad 0), .int x1, .int x2, .int x3] S (none, So) := by
  refine uM_start (by decide) rfl ?_
  intro p e s m below meth c hx hb hr hlocks hml hown hts hK hP
  have hT : ∀ w ∈ wG, w.before _ s = true := fun w h => hts w (List.mem_cons_of_mem _ h)
  have hS : va_S (AX 11 ad s.heap.size) s.heap s.heap [] := va_S.rf
  have hown : s.vm.findClass RX7 = some m.cls := hown
  have C : CallFix p m c cX7_store 5 s _ wG RX7 := ⟨hx, hb, hml, hown, hT⟩
  have hl := lv_entry ([.ref (ad 0), .int x1, .int x2, .int x3]) (n := 5) (Nat.le_of_ble_eq_true rfl)
  rw [lg_entry_eq]
  generalize (lg_sl ([.ref (ad 0), .int x1, .int x2, .int x3]) ++ List.replicate (5 - (lg_sl ([.ref (ad 0), .int x1, .int x2, .int x3])).length) Slot.unset).toArray = ls at hl ⊢
  have hl : lv_has ls 5 [(0, .ref (ad 0)), (1, .int x1), (2, .int x2), (3, .int x3)] := hl
  unfold fX7_store at hs
  refine lv_iconst (v := 0) hx hb dX7_store_0 (by decide) ?_
  refine lv_istore (lv' := [(4, .int 0), (0, .ref (ad 0)), (1, .int x1), (2, .int x2), (3, .int x3)]) hx hb dX7_store_1 hl (by decide) rfl (fun ls hl => ?_)
  have L1 : ∀ (n : Nat) (v1 : Int32) (S1 : St) (H : Heap) (locs : List Loc) (ls : Array Slot), lv_has ls 5 [(4, .int v1), (0, .ref (ad 0)), (1, .int x1), (2, .int x2), (3, .int x3)] → va_P D vwCl (wM ad cI cB S1) H → va_S (AX 11 ad s.heap.size) s.heap H locs → fX7_store_l1 x1 x2 x3 n v1 S1 = some So → W p l e rmX7_store s m ([.ref (ad 0), .int x1, .int x2, .int x3] : List Value).toArray below meth c H locs 0 0 (MQ below (uQ D (wM ad cI cB) (none, So) (AX 11 ad s.heap.size)) ([.ref (ad 0), .int x1, .int x2, .int x3] : List Value).toArray s 0 0 (AX 11 ad s.heap.size)) (F0 m 3 ls []) := by
    intro n
    induction n with
    | zero => intro v1 S1 H locs ls hl hP hS hs; cases hs
    | succ n ih =>
      intro v1 S1 H locs ls hl hP hS hs
      have hs : fX7_store_b1 x1 x2 x3 (fX7_store_l1 x1 x2 x3 n) v1 S1 = some So := hs
      unfold fX7_store_b1 at hs
      refine lv_iload hx hb dX7_store_3 (lv_at hl 0 rfl) ?_
      refine lv_iload_n hx hb dX7_store_5 rfl (lv_at hl 4 rfl) ?_
      refine lv_icmp_ge (tgt := 34) hx hb dX7_store_6 (by decide) (fun c1 => ?_) (fun c1 => ?_)
      · have hs := if_t c1 hs
        exact u_vret hx hb hr hlocks hP hS hs dX7_store_34
      · have hs := if_f c1 hs
        refine lv_aload_n hx hb dX7_store_9 rfl (lv_at hl 1 rfl) ?_
        refine lv_iload_n hx hb dX7_store_10 rfl (lv_at hl 2 rfl) ?_
        refine lv_iload hx hb dX7_store_11 (lv_at hl 0 rfl) ?_
        refine lv_iadd hx hb dX7_store_13 ?_
        refine lv_iload_n hx hb dX7_store_14 rfl (lv_at hl 3 rfl) ?_
        refine lv_bipush (v := 8) hx hb dX7_store_15 (by decide) ?_
        refine lv_iload_n hx hb dX7_store_17 rfl (lv_at hl 4 rfl) ?_
        refine lv_iconst (v := 1) hx hb dX7_store_18 (by decide) ?_
        refine lv_isub hx hb dX7_store_19 ?_
        refine lv_iload hx hb dX7_store_20 (lv_at hl 0 rfl) ?_
        refine lv_isub hx hb dX7_store_22 ?_
        refine lv_imul hx hb dX7_store_23 ?_
        refine lv_ishr hx hb dX7_store_24 ?_
        obtain ⟨S2, h1, hs⟩ := bv_e hs
        refine kX7_setByte C tM_X7_85 ⟨Nat.le_of_ble_eq_true rfl, Nat.le_of_ble_eq_true rfl⟩ ⟨Nat.le_of_ble_eq_true rfl, Nat.le_of_ble_eq_true rfl⟩ hK hP hS hl.1 (rest := []) (Nat.le_of_ble_eq_true rfl) dX7_store_25 h1 (fun H locs hP hS => ?_)
        obtain ⟨v2, h2, hs⟩ := lt_e hs
        refine lv_iinc (v := v2) (lv' := [(4, .int v2), (0, .ref (ad 0)), (1, .int x1), (2, .int x2), (3, .int x3)]) hx hb dX7_store_28 hl (k := 0) rfl (by rw [h2]; rfl) (by decide) rfl (fun ls hl => ?_)
        refine lv_goto (tgt := 3) hx hb dX7_store_31 (by decide) ?_
        exact ih v2 S2 _ _ _ (lv_sub hl [0, 1, 2, 3, 4] rfl) hP hS hs
  exact L1 5 0 S _ _ _ (lv_sub hl [0, 1, 2, 3, 4] rfl) hP hS hs
theorem kX7_store {p : Program} {l : Launch} {e : Env} {R : Room} {s : State} {m : MethodId} {args : Array Value} {below : List Frame} {meth : Method} {c : Code} {H : Heap} {locs : List Loc} {cells slots : Nat} {Q : State → Prop} {cc : ByteArray} {pc nL : Nat} {ls : Array Slot} {rest : List Value} {D : va_G} {ad : Nat → Nat} {cI cB : ClassId} {en : Nat → Nat} {S : St} {own : String} {index : Nat} {x1 : Int32} {x2 : Int32} {x3 : Int32} {So : St} (C : CallFix p m c cc nL s args wG own) (hlk : Cond.methodLink own index yX7_store ∈ wG) (hR : rmX7_store.frames + 1 ≤ R.frames ∧ 8 + (5 + 11) + rmX7_store.locals ≤ R.locals) (hc : cells ≤ R.cells ∧ slots ≤ R.slots) (hK : KM D ad cI cB en s) (hP : va_P D vwCl (wM ad cI cB S) H) (hS : va_S (AX 11 ad s.heap.size) s.heap H locs) (hls : ls.size = nL) (hrest : (rest.map fun v => v.category).sum ≤ 8) (hd : decode cc pc = .ok (.invokevirtual index, 3)) (hs : fX7_store x1 x2 x3 S = some So) (k : ∀ (H : Heap) (locs : List Loc), va_P D vwCl (wM ad cI cB So) H → va_S (AX 11 ad s.heap.size) s.heap H locs → W p l e R s m args below meth c H locs cells slots Q (F0 m (pc + 3) ls (rest))) : W p l e R s m args below meth c H locs cells slots Q (F0 m pc ls (.int x3 :: .int x2 :: .int x1 :: .ref (ad 0) :: rest)) :=
  u_callV (n := 3) (mX7_store l D ad cI cB en S x1 x2 x3 So hs) C uK_M (wg_V hlk tI_X7_store tS_X7_store tN_X7 tK_X7_store) rfl rfl rfl (by decide +kernel) hR rfl (va_recv hK.1 hP (ci := 6) (q0 := 0) rfl rfl) hK hP hS hls hrest hd hc rfl k
def fX7_isNumber (x0 : Int32) (S : St) : Option (Bool × St) :=
    (if x0 = 1 then (some (true, S))
    else (if x0 = 2 then (some (true, S))
    else (if x0 = 4 then (some (true, S))
    else (some (false, S)))))
abbrev rmX7_isNumber : Room := { frames := 0, cells := 0, slots := 0, locals := 0 }
set_option maxRecDepth 100000 in
set_option maxHeartbeats 4000000 in
theorem mX7_isNumber (l : Launch) (D : va_G) (ad : Nat → Nat) (cI cB : ClassId) (en : Nat → Nat) (S : St) (x0 : Int32) (ro : Bool) (So : St) (hs : fX7_isNumber x0 S = some (ro, So)) : uM l yX7_isNumber (wg yX7_isNumber cX7_isNumber 1 (some .boolean)) rmX7_isNumber (KM D ad cI cB en) D (wM ad cI cB) (AX 11 ad) [.int x0] S (some (.int (zI ro)), So) := by
  refine uM_start (by decide) rfl ?_
  intro p e s m below meth c hx hb hr hlocks hml hown hts hK hP
  have hT : ∀ w ∈ wG, w.before _ s = true := fun w h => hts w (List.mem_cons_of_mem _ h)
  have hS : va_S (AX 11 ad s.heap.size) s.heap s.heap [] := va_S.rf
  have hown : s.vm.findClass RX7 = some m.cls := hown
  have C : CallFix p m c cX7_isNumber 1 s _ wG RX7 := ⟨hx, hb, hml, hown, hT⟩
  have hl := lv_entry ([.int x0]) (n := 1) (Nat.le_of_ble_eq_true rfl)
  rw [lg_entry_eq]
  generalize (lg_sl ([.int x0]) ++ List.replicate (1 - (lg_sl ([.int x0])).length) Slot.unset).toArray = ls at hl ⊢
  have hl : lv_has ls 1 [(0, .int x0)] := hl
  unfold fX7_isNumber at hs
  refine lv_iload_n hx hb dX7_isNumber_0 rfl (lv_at hl 0 rfl) ?_
  refine lv_iconst (v := 1) hx hb dX7_isNumber_1 (by decide) ?_
  refine lv_icmp_eq (tgt := 15) hx hb dX7_isNumber_2 (by decide) (fun c1 => ?_) (fun c1 => ?_)
  · have hs := if_t c1 hs
    refine lv_iconst (v := 1) hx hb dX7_isNumber_15 (by decide) ?_
    refine lv_goto (tgt := 20) hx hb dX7_isNumber_16 (by decide) ?_
    exact u_zret (v := true) hx hb hr hlocks hP hS hs dX7_isNumber_20
  · have hs := if_f c1 hs
    refine lv_iload_n hx hb dX7_isNumber_5 rfl (lv_at hl 0 rfl) ?_
    refine lv_iconst (v := 2) hx hb dX7_isNumber_6 (by decide) ?_
    refine lv_icmp_eq (tgt := 15) hx hb dX7_isNumber_7 (by decide) (fun c2 => ?_) (fun c2 => ?_)
    · have hs := if_t c2 hs
      refine lv_iconst (v := 1) hx hb dX7_isNumber_15 (by decide) ?_
      refine lv_goto (tgt := 20) hx hb dX7_isNumber_16 (by decide) ?_
      exact u_zret (v := true) hx hb hr hlocks hP hS hs dX7_isNumber_20
    · have hs := if_f c2 hs
      refine lv_iload_n hx hb dX7_isNumber_10 rfl (lv_at hl 0 rfl) ?_
      refine lv_iconst (v := 4) hx hb dX7_isNumber_11 (by decide) ?_
      refine lv_icmp_ne (tgt := 19) hx hb dX7_isNumber_12 (by decide) (fun c3 => ?_) (fun c3 => ?_)
      · have hs := if_f c3 hs
        refine lv_iconst (v := 0) hx hb dX7_isNumber_19 (by decide) ?_
        exact u_zret (v := false) hx hb hr hlocks hP hS hs dX7_isNumber_20
      · have hs := if_t c3 hs
        refine lv_iconst (v := 1) hx hb dX7_isNumber_15 (by decide) ?_
        refine lv_goto (tgt := 20) hx hb dX7_isNumber_16 (by decide) ?_
        exact u_zret (v := true) hx hb hr hlocks hP hS hs dX7_isNumber_20
theorem kX7_isNumber {p : Program} {l : Launch} {e : Env} {R : Room} {s : State} {m : MethodId} {args : Array Value} {below : List Frame} {meth : Method} {c : Code} {H : Heap} {locs : List Loc} {cells slots : Nat} {Q : State → Prop} {cc : ByteArray} {pc nL : Nat} {ls : Array Slot} {rest : List Value} {D : va_G} {ad : Nat → Nat} {cI cB : ClassId} {en : Nat → Nat} {S : St} {own : String} {index : Nat} {x0 : Int32} {ro : Bool} {So : St} (C : CallFix p m c cc nL s args wG own) (hlk : Cond.methodLink own index yX7_isNumber ∈ wG) (hR : rmX7_isNumber.frames + 1 ≤ R.frames ∧ 8 + (1 + 11) + rmX7_isNumber.locals ≤ R.locals) (hc : cells ≤ R.cells ∧ slots ≤ R.slots) (hK : KM D ad cI cB en s) (hP : va_P D vwCl (wM ad cI cB S) H) (hS : va_S (AX 11 ad s.heap.size) s.heap H locs) (hls : ls.size = nL) (hrest : (rest.map fun v => v.category).sum ≤ 8) (hd : decode cc pc = .ok (.invokestatic index, 3)) (hs : fX7_isNumber x0 S = some (ro, So)) (k : ∀ (H : Heap) (locs : List Loc), va_P D vwCl (wM ad cI cB So) H → va_S (AX 11 ad s.heap.size) s.heap H locs → W p l e R s m args below meth c H locs cells slots Q (F0 m (pc + 3) ls (.int (zI ro) :: rest))) : W p l e R s m args below meth c H locs cells slots Q (F0 m pc ls (.int x0 :: rest)) :=
  u_callS (n := 1) (mX7_isNumber l D ad cI cB en S x0 ro So hs) C uK_M (wg_S hlk tI_X7_isNumber tN_X7 tK_X7_isNumber) rfl rfl rfl (by decide +kernel) hR rfl hK hP hS hls hrest hd hc rfl k
def fX7_write (x1 : Int32) (x2 : Int32) (x3 : Int32) (S : St) : Option St :=
    (bd (fX7_isNumber x3 S) fun b1 S1 => (jn (fun (b2 : Bool) => (lt (sI S1 0 (zI b2)) fun S2 => (if (S2.1 0) = 0 then (lt (sI S2 11 0) fun S3 => (bv (fX7_store x1 x2 x3 S3) fun S4 => (some S4)))
    else (some S2)))) fun K1 =>
    (if (zI b1) = 0 then (K1 true)
    else (K1 false))))
abbrev rmX7_write : Room := { frames := 2, cells := 0, slots := 0, locals := 46 }
set_option maxRecDepth 100000 in
set_option maxHeartbeats 4000000 in
theorem mX7_write (l : Launch) (D : va_G) (ad : Nat → Nat) (cI cB : ClassId) (en : Nat → Nat) (S : St) (x1 : Int32) (x2 : Int32) (x3 : Int32) (So : St) (hs : fX7_write x1 x2 x3 S = some So) : uM l yX7_write (wg yX7_write cX7_write 4 none) rmX7_write (KM D ad cI cB en) D (wM ad cI cB) (AX 11 ad) [.ref (ad 0), .int x1, .int x2, .int x3] S (none, So) := by
  refine uM_start (by decide) rfl ?_
  intro p e s m below meth c hx hb hr hlocks hml hown hts hK hP
  have hT : ∀ w ∈ wG, w.before _ s = true := fun w h => hts w (List.mem_cons_of_mem _ h)
  have hS : va_S (AX 11 ad s.heap.size) s.heap s.heap [] := va_S.rf
  have hown : s.vm.findClass RX7 = some m.cls := hown
  have C : CallFix p m c cX7_write 4 s _ wG RX7 := ⟨hx, hb, hml, hown, hT⟩
  have hl := lv_entry ([.ref (ad 0), .int x1, .int x2, .int x3]) (n := 4) (Nat.le_of_ble_eq_true rfl)
  rw [lg_entry_eq]
  generalize (lg_sl ([.ref (ad 0), .int x1, .int x2, .int x3]) ++ List.replicate (4 - (lg_sl ([.ref (ad 0), .int x1, .int x2, .int x3])).length) Slot.unset).toArray = ls at hl ⊢
  have hl : lv_has ls 4 [(0, .ref (ad 0)), (1, .int x1), (2, .int x2), (3, .int x3)] := hl
  unfold fX7_write at hs
  refine lv_aload_n hx hb dX7_write_0 rfl (lv_at hl 0 rfl) ?_
  refine lv_iload_n hx hb dX7_write_1 rfl (lv_at hl 3 rfl) ?_
  obtain ⟨b1, S1, h1, hs⟩ := bd_e hs
  refine kX7_isNumber C tM_X7_88 ⟨Nat.le_of_ble_eq_true rfl, Nat.le_of_ble_eq_true rfl⟩ ⟨Nat.le_of_ble_eq_true rfl, Nat.le_of_ble_eq_true rfl⟩ hK hP hS hl.1 (rest := [.ref (ad 0)]) (Nat.le_of_ble_eq_true rfl) dX7_write_2 h1 (fun H locs hP hS => ?_)
  refine jn_e hs (fun K1 => ∀ (b2 : Bool) (H : Heap) (locs : List Loc) (ls : Array Slot), lv_has ls 4 [(0, .ref (ad 0)), (1, .int x1), (2, .int x2), (3, .int x3)] → va_P D vwCl (wM ad cI cB S1) H → va_S (AX 11 ad s.heap.size) s.heap H locs → K1 b2 = some So → W p l e rmX7_write s m ([.ref (ad 0), .int x1, .int x2, .int x3] : List Value).toArray below meth c H locs 0 0 (MQ below (uQ D (wM ad cI cB) (none, So) (AX 11 ad s.heap.size)) ([.ref (ad 0), .int x1, .int x2, .int x3] : List Value).toArray s 0 0 (AX 11 ad s.heap.size)) (F0 m 13 ls [.int (zI b2), .ref (ad 0)])) ?_ (fun K1 J1 hs => ?_)
  · intro b2 H locs ls hl hP hS hs
    obtain ⟨S2, h2, hs⟩ := lt_e hs
    refine pM_X7_thrown hx hb hT hown hK hP hS (hT _ tF_X7_43) dX7_write_13 (v := (zI b2)) h2 (fun H locs hP hS => ?_)
    refine lv_aload_n hx hb dX7_write_16 rfl (lv_at hl 0 rfl) ?_
    refine gM_X7_thrown hx hb hT hown hK hP (hT _ tF_X7_43) dX7_write_17 ?_
    refine lv_if_ne (tgt := 35) hx hb dX7_write_20 (by decide) (fun c1 => ?_) (fun c1 => ?_)
    · have hs := if_f c1 hs
      exact u_vret hx hb hr hlocks hP hS hs dX7_write_35
    · have hs := if_t c1 hs
      refine lv_aload_n hx hb dX7_write_23 rfl (lv_at hl 0 rfl) ?_
      refine lv_iconst (v := 0) hx hb dX7_write_24 (by decide) ?_
      obtain ⟨S3, h3, hs⟩ := lt_e hs
      refine pM_X7_changes hx hb hT hown hK hP hS (hT _ tF_X7_79) dX7_write_25 (v := 0) h3 (fun H locs hP hS => ?_)
      refine lv_aload_n hx hb dX7_write_28 rfl (lv_at hl 0 rfl) ?_
      refine lv_iload_n hx hb dX7_write_29 rfl (lv_at hl 1 rfl) ?_
      refine lv_iload_n hx hb dX7_write_30 rfl (lv_at hl 2 rfl) ?_
      refine lv_iload_n hx hb dX7_write_31 rfl (lv_at hl 3 rfl) ?_
      obtain ⟨S4, h4, hs⟩ := bv_e hs
      refine kX7_store C tM_X7_92 ⟨Nat.le_of_ble_eq_true rfl, Nat.le_of_ble_eq_true rfl⟩ ⟨Nat.le_of_ble_eq_true rfl, Nat.le_of_ble_eq_true rfl⟩ hK hP hS hl.1 (rest := []) (Nat.le_of_ble_eq_true rfl) dX7_write_32 h4 (fun H locs hP hS => ?_)
      exact u_vret hx hb hr hlocks hP hS hs dX7_write_35
  ·
    refine lv_if_eq (tgt := 12) hx hb dX7_write_5 (by decide) (fun c2 => ?_) (fun c2 => ?_)
    · have hs := if_t c2 hs
      refine lv_iconst (v := 1) hx hb dX7_write_12 (by decide) ?_
      exact J1 true _ _ _ (lv_sub hl [0, 1, 2, 3] rfl) hP hS hs
    · have hs := if_f c2 hs
      refine lv_iconst (v := 0) hx hb dX7_write_8 (by decide) ?_
      refine lv_goto (tgt := 13) hx hb dX7_write_9 (by decide) ?_
      exact J1 false _ _ _ (lv_sub hl [0, 1, 2, 3] rfl) hP hS hs
theorem kX7_write {p : Program} {l : Launch} {e : Env} {R : Room} {s : State} {m : MethodId} {args : Array Value} {below : List Frame} {meth : Method} {c : Code} {H : Heap} {locs : List Loc} {cells slots : Nat} {Q : State → Prop} {cc : ByteArray} {pc nL : Nat} {ls : Array Slot} {rest : List Value} {D : va_G} {ad : Nat → Nat} {cI cB : ClassId} {en : Nat → Nat} {S : St} {own : String} {index : Nat} {x1 : Int32} {x2 : Int32} {x3 : Int32} {So : St} (C : CallFix p m c cc nL s args wG own) (hlk : Cond.methodLink own index yX7_write ∈ wG) (hR : rmX7_write.frames + 1 ≤ R.frames ∧ 8 + (4 + 11) + rmX7_write.locals ≤ R.locals) (hc : cells ≤ R.cells ∧ slots ≤ R.slots) (hK : KM D ad cI cB en s) (hP : va_P D vwCl (wM ad cI cB S) H) (hS : va_S (AX 11 ad s.heap.size) s.heap H locs) (hls : ls.size = nL) (hrest : (rest.map fun v => v.category).sum ≤ 8) (hd : decode cc pc = .ok (.invokevirtual index, 3)) (hs : fX7_write x1 x2 x3 S = some So) (k : ∀ (H : Heap) (locs : List Loc), va_P D vwCl (wM ad cI cB So) H → va_S (AX 11 ad s.heap.size) s.heap H locs → W p l e R s m args below meth c H locs cells slots Q (F0 m (pc + 3) ls (rest))) : W p l e R s m args below meth c H locs cells slots Q (F0 m pc ls (.int x3 :: .int x2 :: .int x1 :: .ref (ad 0) :: rest)) :=
  u_callV (n := 3) (mX7_write l D ad cI cB en S x1 x2 x3 So hs) C uK_M (wg_V hlk tI_X7_write tS_X7_write tN_X7 tK_X7_write) rfl rfl rfl (by decide +kernel) hR rfl (va_recv hK.1 hP (ci := 6) (q0 := 0) rfl rfl) hK hP hS hls hrest hd hc rfl k
def fX7_read (x1 : Int32) (x2 : Int32) (S : St) : Option (Int32 × St) :=
    (bd (fX7_isNumber x2 S) fun b1 S1 => (jn (fun (b2 : Bool) => (lt (sI S1 0 (zI b2)) fun S2 => (if (S2.1 0) ≤ 0 then (bd (fX7_fetch x1 x2 S2) fun r1 S3 => (some (r1, S3)))
    else (some (0, S2))))) fun K1 =>
    (if (zI b1) = 0 then (K1 true)
    else (K1 false))))
abbrev rmX7_read : Room := { frames := 2, cells := 0, slots := 0, locals := 45 }
set_option maxRecDepth 100000 in
set_option maxHeartbeats 4000000 in
theorem mX7_read (l : Launch) (D : va_G) (ad : Nat → Nat) (cI cB : ClassId) (en : Nat → Nat) (S : St) (x1 : Int32) (x2 : Int32) (ro : Int32) (So : St) (hs : fX7_read x1 x2 S = some (ro, So)) : uM l yX7_read (wg yX7_read cX7_read 3 (some .int)) rmX7_read (KM D ad cI cB en) D (wM ad cI cB) (AX 11 ad) [.ref (ad 0), .int x1, .int x2] S (some (.int ro), So) := by
  refine uM_start (by decide) rfl ?_
  intro p e s m below meth c hx hb hr hlocks hml hown hts hK hP
  have hT : ∀ w ∈ wG, w.before _ s = true := fun w h => hts w (List.mem_cons_of_mem _ h)
  have hS : va_S (AX 11 ad s.heap.size) s.heap s.heap [] := va_S.rf
  have hown : s.vm.findClass RX7 = some m.cls := hown
  have C : CallFix p m c cX7_read 3 s _ wG RX7 := ⟨hx, hb, hml, hown, hT⟩
  have hl := lv_entry ([.ref (ad 0), .int x1, .int x2]) (n := 3) (Nat.le_of_ble_eq_true rfl)
  rw [lg_entry_eq]
  generalize (lg_sl ([.ref (ad 0), .int x1, .int x2]) ++ List.replicate (3 - (lg_sl ([.ref (ad 0), .int x1, .int x2])).length) Slot.unset).toArray = ls at hl ⊢
  have hl : lv_has ls 3 [(0, .ref (ad 0)), (1, .int x1), (2, .int x2)] := hl
  unfold fX7_read at hs
  refine lv_aload_n hx hb dX7_read_0 rfl (lv_at hl 0 rfl) ?_
  refine lv_iload_n hx hb dX7_read_1 rfl (lv_at hl 2 rfl) ?_
  obtain ⟨b1, S1, h1, hs⟩ := bd_e hs
  refine kX7_isNumber C tM_X7_88 ⟨Nat.le_of_ble_eq_true rfl, Nat.le_of_ble_eq_true rfl⟩ ⟨Nat.le_of_ble_eq_true rfl, Nat.le_of_ble_eq_true rfl⟩ hK hP hS hl.1 (rest := [.ref (ad 0)]) (Nat.le_of_ble_eq_true rfl) dX7_read_2 h1 (fun H locs hP hS => ?_)
  refine jn_e hs (fun K1 => ∀ (b2 : Bool) (H : Heap) (locs : List Loc) (ls : Array Slot), lv_has ls 3 [(0, .ref (ad 0)), (1, .int x1), (2, .int x2)] → va_P D vwCl (wM ad cI cB S1) H → va_S (AX 11 ad s.heap.size) s.heap H locs → K1 b2 = some (ro, So) → W p l e rmX7_read s m ([.ref (ad 0), .int x1, .int x2] : List Value).toArray below meth c H locs 0 0 (MQ below (uQ D (wM ad cI cB) (some (.int ro), So) (AX 11 ad s.heap.size)) ([.ref (ad 0), .int x1, .int x2] : List Value).toArray s 0 0 (AX 11 ad s.heap.size)) (F0 m 13 ls [.int (zI b2), .ref (ad 0)])) ?_ (fun K1 J1 hs => ?_)
  · intro b2 H locs ls hl hP hS hs
    obtain ⟨S2, h2, hs⟩ := lt_e hs
    refine pM_X7_thrown hx hb hT hown hK hP hS (hT _ tF_X7_43) dX7_read_13 (v := (zI b2)) h2 (fun H locs hP hS => ?_)
    refine lv_aload_n hx hb dX7_read_16 rfl (lv_at hl 0 rfl) ?_
    refine gM_X7_thrown hx hb hT hown hK hP (hT _ tF_X7_43) dX7_read_17 ?_
    refine lv_if_le (tgt := 27) hx hb dX7_read_20 (by decide) (fun c1 => ?_) (fun c1 => ?_)
    · have hs := if_t c1 hs
      refine lv_aload_n hx hb dX7_read_27 rfl (lv_at hl 0 rfl) ?_
      refine lv_iload_n hx hb dX7_read_28 rfl (lv_at hl 1 rfl) ?_
      refine lv_iload_n hx hb dX7_read_29 rfl (lv_at hl 2 rfl) ?_
      obtain ⟨r1, S3, h3, hs⟩ := bd_e hs
      refine kX7_fetch C tM_X7_96 ⟨Nat.le_of_ble_eq_true rfl, Nat.le_of_ble_eq_true rfl⟩ ⟨Nat.le_of_ble_eq_true rfl, Nat.le_of_ble_eq_true rfl⟩ hK hP hS hl.1 (rest := []) (Nat.le_of_ble_eq_true rfl) dX7_read_30 h3 (fun H locs hP hS => ?_)
      exact u_iret hx hb hr hlocks hP hS hs dX7_read_33
    · have hs := if_f c1 hs
      refine lv_iconst (v := 0) hx hb dX7_read_23 (by decide) ?_
      refine lv_goto (tgt := 33) hx hb dX7_read_24 (by decide) ?_
      exact u_iret hx hb hr hlocks hP hS hs dX7_read_33
  ·
    refine lv_if_eq (tgt := 12) hx hb dX7_read_5 (by decide) (fun c2 => ?_) (fun c2 => ?_)
    · have hs := if_t c2 hs
      refine lv_iconst (v := 1) hx hb dX7_read_12 (by decide) ?_
      exact J1 true _ _ _ (lv_sub hl [0, 1, 2] rfl) hP hS hs
    · have hs := if_f c2 hs
      refine lv_iconst (v := 0) hx hb dX7_read_8 (by decide) ?_
      refine lv_goto (tgt := 13) hx hb dX7_read_9 (by decide) ?_
      exact J1 false _ _ _ (lv_sub hl [0, 1, 2] rfl) hP hS hs
theorem kX7_read {p : Program} {l : Launch} {e : Env} {R : Room} {s : State} {m : MethodId} {args : Array Value} {below : List Frame} {meth : Method} {c : Code} {H : Heap} {locs : List Loc} {cells slots : Nat} {Q : State → Prop} {cc : ByteArray} {pc nL : Nat} {ls : Array Slot} {rest : List Value} {D : va_G} {ad : Nat → Nat} {cI cB : ClassId} {en : Nat → Nat} {S : St} {own : String} {index : Nat} {x1 : Int32} {x2 : Int32} {ro : Int32} {So : St} (C : CallFix p m c cc nL s args wG own) (hlk : Cond.methodLink own index yX7_read ∈ wG) (hR : rmX7_read.frames + 1 ≤ R.frames ∧ 8 + (3 + 11) + rmX7_read.locals ≤ R.locals) (hc : cells ≤ R.cells ∧ slots ≤ R.slots) (hK : KM D ad cI cB en s) (hP : va_P D vwCl (wM ad cI cB S) H) (hS : va_S (AX 11 ad s.heap.size) s.heap H locs) (hls : ls.size = nL) (hrest : (rest.map fun v => v.category).sum ≤ 8) (hd : decode cc pc = .ok (.invokevirtual index, 3)) (hs : fX7_read x1 x2 S = some (ro, So)) (k : ∀ (H : Heap) (locs : List Loc), va_P D vwCl (wM ad cI cB So) H → va_S (AX 11 ad s.heap.size) s.heap H locs → W p l e R s m args below meth c H locs cells slots Q (F0 m (pc + 3) ls (.int ro :: rest))) : W p l e R s m args below meth c H locs cells slots Q (F0 m pc ls (.int x2 :: .int x1 :: .ref (ad 0) :: rest)) :=
  u_callV (n := 2) (mX7_read l D ad cI cB en S x1 x2 ro So hs) C uK_M (wg_V hlk tI_X7_read tS_X7_read tN_X7 tK_X7_read) rfl rfl rfl (by decide +kernel) hR rfl (va_recv hK.1 hP (ci := 6) (q0 := 0) rfl rfl) hK hP hS hls hrest hd hc rfl k
def fX7_sum_b1  (k1 : Int32 → Int32 → St → Option (Int32 × St)) (v1 : Int32) (v2 : Int32) (S2 : St) : Option (Int32 × St) :=
    (if 4096 ≤ v1 then (some (v2, S2))
    else (gd (ixo v1 4096 = true) (lt ((v2 + ((S2.2.2 0 v1.toNatClampNeg) * (v1 + 1))) : Int32) fun v3 => (lt (v1 + 1) fun v4 => (k1 v4 v3 S2)))))
def fX7_sum_l1  : Nat → Int32 → Int32 → St → Option (Int32 × St)
  | 0 => fun _ _ _ => none
  | n + 1 => fX7_sum_b1  (fX7_sum_l1  n)
def fX7_sum  (S : St) : Option (Int32 × St) :=
    (lt (sI S 0 0) fun S1 => (fX7_sum_l1  4097 0 0 S1))
abbrev rmX7_sum : Room := { frames := 0, cells := 0, slots := 0, locals := 0 }
set_option maxRecDepth 100000 in
set_option maxHeartbeats 4000000 in
theorem mX7_sum (l : Launch) (D : va_G) (ad : Nat → Nat) (cI cB : ClassId) (en : Nat → Nat) (S : St)  (ro : Int32) (So : St) (hs : fX7_sum  S = some (ro, So)) : uM l yX7_sum (wg yX7_sum cX7_sum 3 (some .int)) rmX7_sum (KM D ad cI cB en) D (wM ad cI cB) (AX 11 ad) [.ref (ad 0)] S (some (.int ro), So) := by
  refine uM_start (by decide) rfl ?_
  intro p e s m below meth c hx hb hr hlocks hml hown hts hK hP
  have hT : ∀ w ∈ wG, w.before _ s = true := fun w h => hts w (List.mem_cons_of_mem _ h)
  have hS : va_S (AX 11 ad s.heap.size) s.heap s.heap [] := va_S.rf
  have hown : s.vm.findClass RX7 = some m.cls := hown
  have C : CallFix p m c cX7_sum 3 s _ wG RX7 := ⟨hx, hb, hml, hown, hT⟩
  have hl := lv_entry ([.ref (ad 0)]) (n := 3) (Nat.le_of_ble_eq_true rfl)
  rw [lg_entry_eq]
  generalize (lg_sl ([.ref (ad 0)]) ++ List.replicate (3 - (lg_sl ([.ref (ad 0)])).length) Slot.unset).toArray = ls at hl ⊢
  have hl : lv_has ls 3 [(0, .ref (ad 0))] := hl
  unfold fX7_sum at hs
  refine lv_aload_n hx hb dX7_sum_0 rfl (lv_at hl 0 rfl) ?_
  refine lv_iconst (v := 0) hx hb dX7_sum_1 (by decide) ?_
  obtain ⟨S1, h1, hs⟩ := lt_e hs
  refine pM_X7_thrown hx hb hT hown hK hP hS (hT _ tF_X7_43) dX7_sum_2 (v := 0) h1 (fun H locs hP hS => ?_)
  refine lv_iconst (v := 0) hx hb dX7_sum_5 (by decide) ?_
  refine lv_istore_n (lv' := [(1, .int 0), (0, .ref (ad 0))]) hx hb dX7_sum_6 rfl hl (by decide) rfl (fun ls hl => ?_)
  refine lv_iconst (v := 0) hx hb dX7_sum_7 (by decide) ?_
  refine lv_istore_n (lv' := [(2, .int 0), (1, .int 0), (0, .ref (ad 0))]) hx hb dX7_sum_8 rfl hl (by decide) rfl (fun ls hl => ?_)
  have L1 : ∀ (n : Nat) (v1 : Int32) (v2 : Int32) (S2 : St) (H : Heap) (locs : List Loc) (ls : Array Slot), lv_has ls 3 [(2, .int v1), (1, .int v2), (0, .ref (ad 0))] → va_P D vwCl (wM ad cI cB S2) H → va_S (AX 11 ad s.heap.size) s.heap H locs → fX7_sum_l1  n v1 v2 S2 = some (ro, So) → W p l e rmX7_sum s m ([.ref (ad 0)] : List Value).toArray below meth c H locs 0 0 (MQ below (uQ D (wM ad cI cB) (some (.int ro), So) (AX 11 ad s.heap.size)) ([.ref (ad 0)] : List Value).toArray s 0 0 (AX 11 ad s.heap.size)) (F0 m 9 ls []) := by
    intro n
    induction n with
    | zero => intro v1 v2 S2 H locs ls hl hP hS hs; cases hs
    | succ n ih =>
      intro v1 v2 S2 H locs ls hl hP hS hs
      have hs : fX7_sum_b1  (fX7_sum_l1  n) v1 v2 S2 = some (ro, So) := hs
      unfold fX7_sum_b1 at hs
      refine lv_iload_n hx hb dX7_sum_9 rfl (lv_at hl 0 rfl) ?_
      refine lv_sipush (v := 4096) hx hb dX7_sum_10 (by decide) ?_
      refine lv_icmp_ge (tgt := 35) hx hb dX7_sum_13 (by decide) (fun c1 => ?_) (fun c1 => ?_)
      · have hs := if_t c1 hs
        refine lv_iload_n hx hb dX7_sum_35 rfl (lv_at hl 1 rfl) ?_
        exact u_iret hx hb hr hlocks hP hS hs dX7_sum_36
      · have hs := if_f c1 hs
        refine lv_iload_n hx hb dX7_sum_16 rfl (lv_at hl 1 rfl) ?_
        refine lv_aload_n hx hb dX7_sum_17 rfl (lv_at hl 2 rfl) ?_
        refine gM_X7_memory hx hb hT hown hK hP (hT _ tF_X7_7) dX7_sum_18 ?_
        refine lv_iload_n hx hb dX7_sum_21 rfl (lv_at hl 0 rfl) ?_
        obtain ⟨h2, hs⟩ := gd_e hs
        refine lM_memory hx hb hK hP (ixo_in h2) dX7_sum_22 ?_
        refine lv_iload_n hx hb dX7_sum_23 rfl (lv_at hl 0 rfl) ?_
        refine lv_iconst (v := 1) hx hb dX7_sum_24 (by decide) ?_
        refine lv_iadd hx hb dX7_sum_25 ?_
        refine lv_imul hx hb dX7_sum_26 ?_
        refine lv_iadd hx hb dX7_sum_27 ?_
        obtain ⟨v3, h3, hs⟩ := lt_e hs
        refine u_top h3 ?_
        refine lv_istore_n (lv' := [(1, .int v3), (2, .int v1), (0, .ref (ad 0))]) hx hb dX7_sum_28 rfl hl (by decide) rfl (fun ls hl => ?_)
        obtain ⟨v4, h4, hs⟩ := lt_e hs
        refine lv_iinc (v := v4) (lv' := [(2, .int v4), (1, .int v3), (0, .ref (ad 0))]) hx hb dX7_sum_29 hl (k := 1) rfl (by rw [h4]; rfl) (by decide) rfl (fun ls hl => ?_)
        refine lv_goto (tgt := 9) hx hb dX7_sum_32 (by decide) ?_
        exact ih v4 v3 S2 _ _ _ (lv_sub hl [0, 1, 2] rfl) hP hS hs
  exact L1 4097 0 0 S1 _ _ _ (lv_sub hl [0, 1, 2] rfl) hP hS hs
theorem kX7_sum {p : Program} {l : Launch} {e : Env} {R : Room} {s : State} {m : MethodId} {args : Array Value} {below : List Frame} {meth : Method} {c : Code} {H : Heap} {locs : List Loc} {cells slots : Nat} {Q : State → Prop} {cc : ByteArray} {pc nL : Nat} {ls : Array Slot} {rest : List Value} {D : va_G} {ad : Nat → Nat} {cI cB : ClassId} {en : Nat → Nat} {S : St} {own : String} {index : Nat}  {ro : Int32} {So : St} (C : CallFix p m c cc nL s args wG own) (hlk : Cond.methodLink own index yX7_sum ∈ wG) (hR : rmX7_sum.frames + 1 ≤ R.frames ∧ 8 + (3 + 11) + rmX7_sum.locals ≤ R.locals) (hc : cells ≤ R.cells ∧ slots ≤ R.slots) (hK : KM D ad cI cB en s) (hP : va_P D vwCl (wM ad cI cB S) H) (hS : va_S (AX 11 ad s.heap.size) s.heap H locs) (hls : ls.size = nL) (hrest : (rest.map fun v => v.category).sum ≤ 8) (hd : decode cc pc = .ok (.invokevirtual index, 3)) (hs : fX7_sum  S = some (ro, So)) (k : ∀ (H : Heap) (locs : List Loc), va_P D vwCl (wM ad cI cB So) H → va_S (AX 11 ad s.heap.size) s.heap H locs → W p l e R s m args below meth c H locs cells slots Q (F0 m (pc + 3) ls (.int ro :: rest))) : W p l e R s m args below meth c H locs cells slots Q (F0 m pc ls (.ref (ad 0) :: rest)) :=
  u_callV (n := 0) (mX7_sum l D ad cI cB en S  ro So hs) C uK_M (wg_V hlk tI_X7_sum tS_X7_sum tN_X7 tK_X7_sum) rfl rfl rfl (by decide +kernel) hR rfl (va_recv hK.1 hP (ci := 6) (q0 := 0) rfl rfl) hK hP hS hls hrest hd hc rfl k
def fX7_fault (x1 : Int32) (x2 : Int32) (S : St) : Option St :=
    (if (S.1 6) = 0 then (lt (sI S 6 x1) fun S1 => (lt (sI S1 7 x2) fun S2 => (some S2)))
    else (some S))
abbrev rmX7_fault : Room := { frames := 0, cells := 0, slots := 0, locals := 0 }
set_option maxRecDepth 100000 in
set_option maxHeartbeats 4000000 in
theorem mX7_fault (l : Launch) (D : va_G) (ad : Nat → Nat) (cI cB : ClassId) (en : Nat → Nat) (S : St) (x1 : Int32) (x2 : Int32) (So : St) (hs : fX7_fault x1 x2 S = some So) : uM l yX7_fault (wg yX7_fault cX7_fault 3 none) rmX7_fault (KM D ad cI cB en) D (wM ad cI cB) (AX 11 ad) [.ref (ad 0), .int x1, .int x2] S (none, So) := by
  refine uM_start (by decide) rfl ?_
  intro p e s m below meth c hx hb hr hlocks hml hown hts hK hP
  have hT : ∀ w ∈ wG, w.before _ s = true := fun w h => hts w (List.mem_cons_of_mem _ h)
  have hS : va_S (AX 11 ad s.heap.size) s.heap s.heap [] := va_S.rf
  have hown : s.vm.findClass RX7 = some m.cls := hown
  have C : CallFix p m c cX7_fault 3 s _ wG RX7 := ⟨hx, hb, hml, hown, hT⟩
  have hl := lv_entry ([.ref (ad 0), .int x1, .int x2]) (n := 3) (Nat.le_of_ble_eq_true rfl)
  rw [lg_entry_eq]
  generalize (lg_sl ([.ref (ad 0), .int x1, .int x2]) ++ List.replicate (3 - (lg_sl ([.ref (ad 0), .int x1, .int x2])).length) Slot.unset).toArray = ls at hl ⊢
  have hl : lv_has ls 3 [(0, .ref (ad 0)), (1, .int x1), (2, .int x2)] := hl
  unfold fX7_fault at hs
  refine lv_aload_n hx hb dX7_fault_0 rfl (lv_at hl 0 rfl) ?_
  refine gM_X7_trouble hx hb hT hown hK hP (hT _ tF_X7_100) dX7_fault_1 ?_
  refine lv_if_ne (tgt := 17) hx hb dX7_fault_4 (by decide) (fun c1 => ?_) (fun c1 => ?_)
  · have hs := if_f c1 hs
    exact u_vret hx hb hr hlocks hP hS hs dX7_fault_17
  · have hs := if_t c1 hs
    refine lv_aload_n hx hb dX7_fault_7 rfl (lv_at hl 0 rfl) ?_
    refine lv_iload_n hx hb dX7_fault_8 rfl (lv_at hl 1 rfl) ?_
    obtain ⟨S1, h1, hs⟩ := lt_e hs
    refine pM_X7_trouble hx hb hT hown hK hP hS (hT _ tF_X7_100) dX7_fault_9 (v := x1) h1 (fun H locs hP hS => ?_)
    refine lv_aload_n hx hb dX7_fault_12 rfl (lv_at hl 0 rfl) ?_
    refine lv_iload_n hx hb dX7_fault_13 rfl (lv_at hl 2 rfl) ?_
    obtain ⟨S2, h2, hs⟩ := lt_e hs
    refine pM_X7_troubleAt hx hb hT hown hK hP hS (hT _ tF_X7_103) dX7_fault_14 (v := x2) h2 (fun H locs hP hS => ?_)
    exact u_vret hx hb hr hlocks hP hS hs dX7_fault_17
theorem kX7_fault {p : Program} {l : Launch} {e : Env} {R : Room} {s : State} {m : MethodId} {args : Array Value} {below : List Frame} {meth : Method} {c : Code} {H : Heap} {locs : List Loc} {cells slots : Nat} {Q : State → Prop} {cc : ByteArray} {pc nL : Nat} {ls : Array Slot} {rest : List Value} {D : va_G} {ad : Nat → Nat} {cI cB : ClassId} {en : Nat → Nat} {S : St} {own : String} {index : Nat} {x1 : Int32} {x2 : Int32} {So : St} (C : CallFix p m c cc nL s args wG own) (hlk : Cond.methodLink own index yX7_fault ∈ wG) (hR : rmX7_fault.frames + 1 ≤ R.frames ∧ 8 + (3 + 11) + rmX7_fault.locals ≤ R.locals) (hc : cells ≤ R.cells ∧ slots ≤ R.slots) (hK : KM D ad cI cB en s) (hP : va_P D vwCl (wM ad cI cB S) H) (hS : va_S (AX 11 ad s.heap.size) s.heap H locs) (hls : ls.size = nL) (hrest : (rest.map fun v => v.category).sum ≤ 8) (hd : decode cc pc = .ok (.invokevirtual index, 3)) (hs : fX7_fault x1 x2 S = some So) (k : ∀ (H : Heap) (locs : List Loc), va_P D vwCl (wM ad cI cB So) H → va_S (AX 11 ad s.heap.size) s.heap H locs → W p l e R s m args below meth c H locs cells slots Q (F0 m (pc + 3) ls (rest))) : W p l e R s m args below meth c H locs cells slots Q (F0 m pc ls (.int x2 :: .int x1 :: .ref (ad 0) :: rest)) :=
  u_callV (n := 2) (mX7_fault l D ad cI cB en S x1 x2 So hs) C uK_M (wg_V hlk tI_X7_fault tS_X7_fault tN_X7 tK_X7_fault) rfl rfl rfl (by decide +kernel) hR rfl (va_recv hK.1 hP (ci := 6) (q0 := 0) rfl rfl) hK hP hS hls hrest hd hc rfl k
def fX7_isOdd (x1 : Int32) (x2 : Int32) (S : St) : Option (Bool × St) :=
    (jn (fun (S1 : St) => (if (S1.1 6) ≤ 0 then (some (false, S1))
    else (some (true, S1)))) fun K1 =>
    (if (S.1 6) = 0 then (if x2 ≤ 1 then (K1 S)
    else (if (x1 &&& 1) = 1 then (bv (fX7_fault 3 x1 S) fun S2 => (K1 S2))
    else (K1 S)))
    else (K1 S)))
abbrev rmX7_isOdd : Room := { frames := 1, cells := 0, slots := 0, locals := 22 }
set_option maxRecDepth 100000 in
set_option maxHeartbeats 4000000 in
theorem mX7_isOdd (l : Launch) (D : va_G) (ad : Nat → Nat) (cI cB : ClassId) (en : Nat → Nat) (S : St) (x1 : Int32) (x2 : Int32) (ro : Bool) (So : St) (hs : fX7_isOdd x1 x2 S = some (ro, So)) : uM l yX7_isOdd (wg yX7_isOdd cX7_isOdd 3 (some .boolean)) rmX7_isOdd (KM D ad cI cB en) D (wM ad cI cB) (AX 11 ad) [.ref (ad 0), .int x1, .int x2] S (some (.int (zI ro)), So) := by
  refine uM_start (by decide) rfl ?_
  intro p e s m below meth c hx hb hr hlocks hml hown hts hK hP
  have hT : ∀ w ∈ wG, w.before _ s = true := fun w h => hts w (List.mem_cons_of_mem _ h)
  have hS : va_S (AX 11 ad s.heap.size) s.heap s.heap [] := va_S.rf
  have hown : s.vm.findClass RX7 = some m.cls := hown
  have C : CallFix p m c cX7_isOdd 3 s _ wG RX7 := ⟨hx, hb, hml, hown, hT⟩
  have hl := lv_entry ([.ref (ad 0), .int x1, .int x2]) (n := 3) (Nat.le_of_ble_eq_true rfl)
  rw [lg_entry_eq]
  generalize (lg_sl ([.ref (ad 0), .int x1, .int x2]) ++ List.replicate (3 - (lg_sl ([.ref (ad 0), .int x1, .int x2])).length) Slot.unset).toArray = ls at hl ⊢
  have hl : lv_has ls 3 [(0, .ref (ad 0)), (1, .int x1), (2, .int x2)] := hl
  unfold fX7_isOdd at hs
  refine lv_aload_n hx hb dX7_isOdd_0 rfl (lv_at hl 0 rfl) ?_
  refine gM_X7_trouble hx hb hT hown hK hP (hT _ tF_X7_100) dX7_isOdd_1 ?_
  refine jn_e hs (fun K1 => ∀ (S1 : St) (H : Heap) (locs : List Loc) (ls : Array Slot), lv_has ls 3 [(0, .ref (ad 0))] → va_P D vwCl (wM ad cI cB S1) H → va_S (AX 11 ad s.heap.size) s.heap H locs → K1 S1 = some (ro, So) → W p l e rmX7_isOdd s m ([.ref (ad 0), .int x1, .int x2] : List Value).toArray below meth c H locs 0 0 (MQ below (uQ D (wM ad cI cB) (some (.int (zI ro)), So) (AX 11 ad s.heap.size)) ([.ref (ad 0), .int x1, .int x2] : List Value).toArray s 0 0 (AX 11 ad s.heap.size)) (F0 m 25 ls [])) ?_ (fun K1 J1 hs => ?_)
  · intro S1 H locs ls hl hP hS hs
    refine lv_aload_n hx hb dX7_isOdd_25 rfl (lv_at hl 0 rfl) ?_
    refine gM_X7_trouble hx hb hT hown hK hP (hT _ tF_X7_100) dX7_isOdd_26 ?_
    refine lv_if_le (tgt := 36) hx hb dX7_isOdd_29 (by decide) (fun c1 => ?_) (fun c1 => ?_)
    · have hs := if_t c1 hs
      refine lv_iconst (v := 0) hx hb dX7_isOdd_36 (by decide) ?_
      exact u_zret (v := false) hx hb hr hlocks hP hS hs dX7_isOdd_37
    · have hs := if_f c1 hs
      refine lv_iconst (v := 1) hx hb dX7_isOdd_32 (by decide) ?_
      refine lv_goto (tgt := 37) hx hb dX7_isOdd_33 (by decide) ?_
      exact u_zret (v := true) hx hb hr hlocks hP hS hs dX7_isOdd_37
  ·
    refine lv_if_ne (tgt := 25) hx hb dX7_isOdd_4 (by decide) (fun c2 => ?_) (fun c2 => ?_)
    · have hs := if_f c2 hs
      exact J1 S _ _ _ (lv_sub hl [0] rfl) hP hS hs
    · have hs := if_t c2 hs
      refine lv_iload_n hx hb dX7_isOdd_7 rfl (lv_at hl 2 rfl) ?_
      refine lv_iconst (v := 1) hx hb dX7_isOdd_8 (by decide) ?_
      refine lv_icmp_le (tgt := 25) hx hb dX7_isOdd_9 (by decide) (fun c3 => ?_) (fun c3 => ?_)
      · have hs := if_t c3 hs
        exact J1 S _ _ _ (lv_sub hl [0] rfl) hP hS hs
      · have hs := if_f c3 hs
        refine lv_iload_n hx hb dX7_isOdd_12 rfl (lv_at hl 1 rfl) ?_
        refine lv_iconst (v := 1) hx hb dX7_isOdd_13 (by decide) ?_
        refine lv_iand hx hb dX7_isOdd_14 ?_
        refine lv_iconst (v := 1) hx hb dX7_isOdd_15 (by decide) ?_
        refine lv_icmp_ne (tgt := 25) hx hb dX7_isOdd_16 (by decide) (fun c4 => ?_) (fun c4 => ?_)
        · have hs := if_f c4 hs
          exact J1 S _ _ _ (lv_sub hl [0] rfl) hP hS hs
        · have hs := if_t c4 hs
          refine lv_aload_n hx hb dX7_isOdd_19 rfl (lv_at hl 0 rfl) ?_
          refine lv_iconst (v := 3) hx hb dX7_isOdd_20 (by decide) ?_
          refine lv_iload_n hx hb dX7_isOdd_21 rfl (lv_at hl 1 rfl) ?_
          obtain ⟨S2, h1, hs⟩ := bv_e hs
          refine kX7_fault C tM_X7_106 ⟨Nat.le_of_ble_eq_true rfl, Nat.le_of_ble_eq_true rfl⟩ ⟨Nat.le_of_ble_eq_true rfl, Nat.le_of_ble_eq_true rfl⟩ hK hP hS hl.1 (rest := []) (Nat.le_of_ble_eq_true rfl) dX7_isOdd_22 h1 (fun H locs hP hS => ?_)
          exact J1 S2 _ _ _ (lv_sub hl [0] rfl) hP hS hs
theorem kX7_isOdd {p : Program} {l : Launch} {e : Env} {R : Room} {s : State} {m : MethodId} {args : Array Value} {below : List Frame} {meth : Method} {c : Code} {H : Heap} {locs : List Loc} {cells slots : Nat} {Q : State → Prop} {cc : ByteArray} {pc nL : Nat} {ls : Array Slot} {rest : List Value} {D : va_G} {ad : Nat → Nat} {cI cB : ClassId} {en : Nat → Nat} {S : St} {own : String} {index : Nat} {x1 : Int32} {x2 : Int32} {ro : Bool} {So : St} (C : CallFix p m c cc nL s args wG own) (hlk : Cond.methodLink own index yX7_isOdd ∈ wG) (hR : rmX7_isOdd.frames + 1 ≤ R.frames ∧ 8 + (3 + 11) + rmX7_isOdd.locals ≤ R.locals) (hc : cells ≤ R.cells ∧ slots ≤ R.slots) (hK : KM D ad cI cB en s) (hP : va_P D vwCl (wM ad cI cB S) H) (hS : va_S (AX 11 ad s.heap.size) s.heap H locs) (hls : ls.size = nL) (hrest : (rest.map fun v => v.category).sum ≤ 8) (hd : decode cc pc = .ok (.invokevirtual index, 3)) (hs : fX7_isOdd x1 x2 S = some (ro, So)) (k : ∀ (H : Heap) (locs : List Loc), va_P D vwCl (wM ad cI cB So) H → va_S (AX 11 ad s.heap.size) s.heap H locs → W p l e R s m args below meth c H locs cells slots Q (F0 m (pc + 3) ls (.int (zI ro) :: rest))) : W p l e R s m args below meth c H locs cells slots Q (F0 m pc ls (.int x2 :: .int x1 :: .ref (ad 0) :: rest)) :=
  u_callV (n := 2) (mX7_isOdd l D ad cI cB en S x1 x2 ro So hs) C uK_M (wg_V hlk tI_X7_isOdd tS_X7_isOdd tN_X7 tK_X7_isOdd) rfl rfl rfl (by decide +kernel) hR rfl (va_recv hK.1 hP (ci := 6) (q0 := 0) rfl rfl) hK hP hS hls hrest hd hc rfl k
def fX7_get (x1 : Int32) (x2 : Int32) (S : St) : Option (Int32 × St) :=
    (bd (fX7_isOdd x1 x2 S) fun b1 S1 => (if (zI b1) = 0 then (bd (fX7_fetch x1 x2 S1) fun r1 S2 => (some (r1, S2)))
    else (some (0, S1))))
abbrev rmX7_get : Room := { frames := 2, cells := 0, slots := 0, locals := 45 }
set_option maxRecDepth 100000 in
set_option maxHeartbeats 4000000 in
theorem mX7_get (l : Launch) (D : va_G) (ad : Nat → Nat) (cI cB : ClassId) (en : Nat → Nat) (S : St) (x1 : Int32) (x2 : Int32) (ro : Int32) (So : St) (hs : fX7_get x1 x2 S = some (ro, So)) : uM l yX7_get (wg yX7_get cX7_get 3 (some .int)) rmX7_get (KM D ad cI cB en) D (wM ad cI cB) (AX 11 ad) [.ref (ad 0), .int x1, .int x2] S (some (.int ro), So) := by
  refine uM_start (by decide) rfl ?_
  intro p e s m below meth c hx hb hr hlocks hml hown hts hK hP
  have hT : ∀ w ∈ wG, w.before _ s = true := fun w h => hts w (List.mem_cons_of_mem _ h)
  have hS : va_S (AX 11 ad s.heap.size) s.heap s.heap [] := va_S.rf
  have hown : s.vm.findClass RX7 = some m.cls := hown
  have C : CallFix p m c cX7_get 3 s _ wG RX7 := ⟨hx, hb, hml, hown, hT⟩
  have hl := lv_entry ([.ref (ad 0), .int x1, .int x2]) (n := 3) (Nat.le_of_ble_eq_true rfl)
  rw [lg_entry_eq]
  generalize (lg_sl ([.ref (ad 0), .int x1, .int x2]) ++ List.replicate (3 - (lg_sl ([.ref (ad 0), .int x1, .int x2])).length) Slot.unset).toArray = ls at hl ⊢
  have hl : lv_has ls 3 [(0, .ref (ad 0)), (1, .int x1), (2, .int x2)] := hl
  unfold fX7_get at hs
  refine lv_aload_n hx hb dX7_get_0 rfl (lv_at hl 0 rfl) ?_
  refine lv_iload_n hx hb dX7_get_1 rfl (lv_at hl 1 rfl) ?_
  refine lv_iload_n hx hb dX7_get_2 rfl (lv_at hl 2 rfl) ?_
  obtain ⟨b1, S1, h1, hs⟩ := bd_e hs
  refine kX7_isOdd C tM_X7_109 ⟨Nat.le_of_ble_eq_true rfl, Nat.le_of_ble_eq_true rfl⟩ ⟨Nat.le_of_ble_eq_true rfl, Nat.le_of_ble_eq_true rfl⟩ hK hP hS hl.1 (rest := []) (Nat.le_of_ble_eq_true rfl) dX7_get_3 h1 (fun H locs hP hS => ?_)
  refine lv_if_eq (tgt := 13) hx hb dX7_get_6 (by decide) (fun c1 => ?_) (fun c1 => ?_)
  · have hs := if_t c1 hs
    refine lv_aload_n hx hb dX7_get_13 rfl (lv_at hl 0 rfl) ?_
    refine lv_iload_n hx hb dX7_get_14 rfl (lv_at hl 1 rfl) ?_
    refine lv_iload_n hx hb dX7_get_15 rfl (lv_at hl 2 rfl) ?_
    obtain ⟨r1, S2, h2, hs⟩ := bd_e hs
    refine kX7_fetch C tM_X7_96 ⟨Nat.le_of_ble_eq_true rfl, Nat.le_of_ble_eq_true rfl⟩ ⟨Nat.le_of_ble_eq_true rfl, Nat.le_of_ble_eq_true rfl⟩ hK hP hS hl.1 (rest := []) (Nat.le_of_ble_eq_true rfl) dX7_get_16 h2 (fun H locs hP hS => ?_)
    exact u_iret hx hb hr hlocks hP hS hs dX7_get_19
  · have hs := if_f c1 hs
    refine lv_iconst (v := 0) hx hb dX7_get_9 (by decide) ?_
    refine lv_goto (tgt := 19) hx hb dX7_get_10 (by decide) ?_
    exact u_iret hx hb hr hlocks hP hS hs dX7_get_19
theorem kX7_get {p : Program} {l : Launch} {e : Env} {R : Room} {s : State} {m : MethodId} {args : Array Value} {below : List Frame} {meth : Method} {c : Code} {H : Heap} {locs : List Loc} {cells slots : Nat} {Q : State → Prop} {cc : ByteArray} {pc nL : Nat} {ls : Array Slot} {rest : List Value} {D : va_G} {ad : Nat → Nat} {cI cB : ClassId} {en : Nat → Nat} {S : St} {own : String} {index : Nat} {x1 : Int32} {x2 : Int32} {ro : Int32} {So : St} (C : CallFix p m c cc nL s args wG own) (hlk : Cond.methodLink own index yX7_get ∈ wG) (hR : rmX7_get.frames + 1 ≤ R.frames ∧ 8 + (3 + 11) + rmX7_get.locals ≤ R.locals) (hc : cells ≤ R.cells ∧ slots ≤ R.slots) (hK : KM D ad cI cB en s) (hP : va_P D vwCl (wM ad cI cB S) H) (hS : va_S (AX 11 ad s.heap.size) s.heap H locs) (hls : ls.size = nL) (hrest : (rest.map fun v => v.category).sum ≤ 8) (hd : decode cc pc = .ok (.invokevirtual index, 3)) (hs : fX7_get x1 x2 S = some (ro, So)) (k : ∀ (H : Heap) (locs : List Loc), va_P D vwCl (wM ad cI cB So) H → va_S (AX 11 ad s.heap.size) s.heap H locs → W p l e R s m args below meth c H locs cells slots Q (F0 m (pc + 3) ls (.int ro :: rest))) : W p l e R s m args below meth c H locs cells slots Q (F0 m pc ls (.int x2 :: .int x1 :: .ref (ad 0) :: rest)) :=
  u_callV (n := 2) (mX7_get l D ad cI cB en S x1 x2 ro So hs) C uK_M (wg_V hlk tI_X7_get tS_X7_get tN_X7 tK_X7_get) rfl rfl rfl (by decide +kernel) hR rfl (va_recv hK.1 hP (ci := 6) (q0 := 0) rfl rfl) hK hP hS hls hrest hd hc rfl k
def fX7_set (x1 : Int32) (x2 : Int32) (x3 : Int32) (S : St) : Option St :=
    (bd (fX7_isOdd x1 x3 S) fun b1 S1 => (if (zI b1) = 0 then (bv (fX7_store x1 x2 x3 S1) fun S2 => (some S2))
    else (some S1)))
abbrev rmX7_set : Room := { frames := 2, cells := 0, slots := 0, locals := 46 }
set_option maxRecDepth 100000 in
set_option maxHeartbeats 4000000 in
theorem mX7_set (l : Launch) (D : va_G) (ad : Nat → Nat) (cI cB : ClassId) (en : Nat → Nat) (S : St) (x1 : Int32) (x2 : Int32) (x3 : Int32) (So : St) (hs : fX7_set x1 x2 x3 S = some So) : uM l yX7_set (wg yX7_set cX7_set 4 none) rmX7_set (KM D ad cI cB en) D (wM ad cI cB) (AX 11 ad) [.ref (ad 0), .int x1, .int x2, .int x3] S (none, So) := by
  refine uM_start (by decide) rfl ?_
  intro p e s m below meth c hx hb hr hlocks hml hown hts hK hP
  have hT : ∀ w ∈ wG, w.before _ s = true := fun w h => hts w (List.mem_cons_of_mem _ h)
  have hS : va_S (AX 11 ad s.heap.size) s.heap s.heap [] := va_S.rf
  have hown : s.vm.findClass RX7 = some m.cls := hown
  have C : CallFix p m c cX7_set 4 s _ wG RX7 := ⟨hx, hb, hml, hown, hT⟩
  have hl := lv_entry ([.ref (ad 0), .int x1, .int x2, .int x3]) (n := 4) (Nat.le_of_ble_eq_true rfl)
  rw [lg_entry_eq]
  generalize (lg_sl ([.ref (ad 0), .int x1, .int x2, .int x3]) ++ List.replicate (4 - (lg_sl ([.ref (ad 0), .int x1, .int x2, .int x3])).length) Slot.unset).toArray = ls at hl ⊢
  have hl : lv_has ls 4 [(0, .ref (ad 0)), (1, .int x1), (2, .int x2), (3, .int x3)] := hl
  unfold fX7_set at hs
  refine lv_aload_n hx hb dX7_set_0 rfl (lv_at hl 0 rfl) ?_
  refine lv_iload_n hx hb dX7_set_1 rfl (lv_at hl 1 rfl) ?_
  refine lv_iload_n hx hb dX7_set_2 rfl (lv_at hl 3 rfl) ?_
  obtain ⟨b1, S1, h1, hs⟩ := bd_e hs
  refine kX7_isOdd C tM_X7_109 ⟨Nat.le_of_ble_eq_true rfl, Nat.le_of_ble_eq_true rfl⟩ ⟨Nat.le_of_ble_eq_true rfl, Nat.le_of_ble_eq_true rfl⟩ hK hP hS hl.1 (rest := []) (Nat.le_of_ble_eq_true rfl) dX7_set_3 h1 (fun H locs hP hS => ?_)
  refine lv_if_ne (tgt := 16) hx hb dX7_set_6 (by decide) (fun c1 => ?_) (fun c1 => ?_)
  · have hs := if_f c1 hs
    exact u_vret hx hb hr hlocks hP hS hs dX7_set_16
  · have hs := if_t c1 hs
    refine lv_aload_n hx hb dX7_set_9 rfl (lv_at hl 0 rfl) ?_
    refine lv_iload_n hx hb dX7_set_10 rfl (lv_at hl 1 rfl) ?_
    refine lv_iload_n hx hb dX7_set_11 rfl (lv_at hl 2 rfl) ?_
    refine lv_iload_n hx hb dX7_set_12 rfl (lv_at hl 3 rfl) ?_
    obtain ⟨S2, h2, hs⟩ := bv_e hs
    refine kX7_store C tM_X7_92 ⟨Nat.le_of_ble_eq_true rfl, Nat.le_of_ble_eq_true rfl⟩ ⟨Nat.le_of_ble_eq_true rfl, Nat.le_of_ble_eq_true rfl⟩ hK hP hS hl.1 (rest := []) (Nat.le_of_ble_eq_true rfl) dX7_set_13 h2 (fun H locs hP hS => ?_)
    exact u_vret hx hb hr hlocks hP hS hs dX7_set_16
theorem kX7_set {p : Program} {l : Launch} {e : Env} {R : Room} {s : State} {m : MethodId} {args : Array Value} {below : List Frame} {meth : Method} {c : Code} {H : Heap} {locs : List Loc} {cells slots : Nat} {Q : State → Prop} {cc : ByteArray} {pc nL : Nat} {ls : Array Slot} {rest : List Value} {D : va_G} {ad : Nat → Nat} {cI cB : ClassId} {en : Nat → Nat} {S : St} {own : String} {index : Nat} {x1 : Int32} {x2 : Int32} {x3 : Int32} {So : St} (C : CallFix p m c cc nL s args wG own) (hlk : Cond.methodLink own index yX7_set ∈ wG) (hR : rmX7_set.frames + 1 ≤ R.frames ∧ 8 + (4 + 11) + rmX7_set.locals ≤ R.locals) (hc : cells ≤ R.cells ∧ slots ≤ R.slots) (hK : KM D ad cI cB en s) (hP : va_P D vwCl (wM ad cI cB S) H) (hS : va_S (AX 11 ad s.heap.size) s.heap H locs) (hls : ls.size = nL) (hrest : (rest.map fun v => v.category).sum ≤ 8) (hd : decode cc pc = .ok (.invokevirtual index, 3)) (hs : fX7_set x1 x2 x3 S = some So) (k : ∀ (H : Heap) (locs : List Loc), va_P D vwCl (wM ad cI cB So) H → va_S (AX 11 ad s.heap.size) s.heap H locs → W p l e R s m args below meth c H locs cells slots Q (F0 m (pc + 3) ls (rest))) : W p l e R s m args below meth c H locs cells slots Q (F0 m pc ls (.int x3 :: .int x2 :: .int x1 :: .ref (ad 0) :: rest)) :=
  u_callV (n := 3) (mX7_set l D ad cI cB en S x1 x2 x3 So hs) C uK_M (wg_V hlk tI_X7_set tS_X7_set tN_X7 tK_X7_set) rfl rfl rfl (by decide +kernel) hR rfl (va_recv hK.1 hP (ci := 6) (q0 := 0) rfl rfl) hK hP hS hls hrest hd hc rfl k
def fX7_push (x1 : Int32) (x2 : Int32) (S : St) : Option St :=
    (bd (fX7_getA 7 S) fun r1 S1 => (bv (fX7_setA 7 (r1 - x2) S1) fun S2 => (bd (fX7_getA 7 S2) fun r2 S3 => (bv (fX7_set r2 x1 x2 S3) fun S4 => (some S4)))))
abbrev rmX7_push : Room := { frames := 3, cells := 0, slots := 0, locals := 69 }
set_option maxRecDepth 100000 in
set_option maxHeartbeats 4000000 in
theorem mX7_push (l : Launch) (D : va_G) (ad : Nat → Nat) (cI cB : ClassId) (en : Nat → Nat) (S : St) (x1 : Int32) (x2 : Int32) (So : St) (hs : fX7_push x1 x2 S = some So) : uM l yX7_push (wg yX7_push cX7_push 3 none) rmX7_push (KM D ad cI cB en) D (wM ad cI cB) (AX 11 ad) [.ref (ad 0), .int x1, .int x2] S (none, So) := by
  refine uM_start (by decide) rfl ?_
  intro p e s m below meth c hx hb hr hlocks hml hown hts hK hP
  have hT : ∀ w ∈ wG, w.before _ s = true := fun w h => hts w (List.mem_cons_of_mem _ h)
  have hS : va_S (AX 11 ad s.heap.size) s.heap s.heap [] := va_S.rf
  have hown : s.vm.findClass RX7 = some m.cls := hown
  have C : CallFix p m c cX7_push 3 s _ wG RX7 := ⟨hx, hb, hml, hown, hT⟩
  have hl := lv_entry ([.ref (ad 0), .int x1, .int x2]) (n := 3) (Nat.le_of_ble_eq_true rfl)
  rw [lg_entry_eq]
  generalize (lg_sl ([.ref (ad 0), .int x1, .int x2]) ++ List.replicate (3 - (lg_sl ([.ref (ad 0), .int x1, .int x2])).length) Slot.unset).toArray = ls at hl ⊢
  have hl : lv_has ls 3 [(0, .ref (ad 0)), (1, .int x1), (2, .int x2)] := hl
  unfold fX7_push at hs
  refine lv_aload_n hx hb dX7_push_0 rfl (lv_at hl 0 rfl) ?_
  refine lv_bipush (v := 7) hx hb dX7_push_1 (by decide) ?_
  refine lv_aload_n hx hb dX7_push_3 rfl (lv_at hl 0 rfl) ?_
  refine lv_bipush (v := 7) hx hb dX7_push_4 (by decide) ?_
  obtain ⟨r1, S1, h1, hs⟩ := bd_e hs
  refine kX7_getA C tM_X7_70 ⟨Nat.le_of_ble_eq_true rfl, Nat.le_of_ble_eq_true rfl⟩ ⟨Nat.le_of_ble_eq_true rfl, Nat.le_of_ble_eq_true rfl⟩ hK hP hS hl.1 (rest := [.int 7, .ref (ad 0)]) (Nat.le_of_ble_eq_true rfl) dX7_push_6 h1 (fun H locs hP hS => ?_)
  refine lv_iload_n hx hb dX7_push_9 rfl (lv_at hl 2 rfl) ?_
  refine lv_isub hx hb dX7_push_10 ?_
  obtain ⟨S2, h2, hs⟩ := bv_e hs
  refine kX7_setA C tM_X7_74 ⟨Nat.le_of_ble_eq_true rfl, Nat.le_of_ble_eq_true rfl⟩ ⟨Nat.le_of_ble_eq_true rfl, Nat.le_of_ble_eq_true rfl⟩ hK hP hS hl.1 (rest := []) (Nat.le_of_ble_eq_true rfl) dX7_push_11 h2 (fun H locs hP hS => ?_)
  refine lv_aload_n hx hb dX7_push_14 rfl (lv_at hl 0 rfl) ?_
  refine lv_aload_n hx hb dX7_push_15 rfl (lv_at hl 0 rfl) ?_
  refine lv_bipush (v := 7) hx hb dX7_push_16 (by decide) ?_
  obtain ⟨r2, S3, h3, hs⟩ := bd_e hs
  refine kX7_getA C tM_X7_70 ⟨Nat.le_of_ble_eq_true rfl, Nat.le_of_ble_eq_true rfl⟩ ⟨Nat.le_of_ble_eq_true rfl, Nat.le_of_ble_eq_true rfl⟩ hK hP hS hl.1 (rest := [.ref (ad 0)]) (Nat.le_of_ble_eq_true rfl) dX7_push_18 h3 (fun H locs hP hS => ?_)
  refine lv_iload_n hx hb dX7_push_21 rfl (lv_at hl 1 rfl) ?_
  refine lv_iload_n hx hb dX7_push_22 rfl (lv_at hl 2 rfl) ?_
  obtain ⟨S4, h4, hs⟩ := bv_e hs
  refine kX7_set C tM_X7_113 ⟨Nat.le_of_ble_eq_true rfl, Nat.le_of_ble_eq_true rfl⟩ ⟨Nat.le_of_ble_eq_true rfl, Nat.le_of_ble_eq_true rfl⟩ hK hP hS hl.1 (rest := []) (Nat.le_of_ble_eq_true rfl) dX7_push_23 h4 (fun H locs hP hS => ?_)
  exact u_vret hx hb hr hlocks hP hS hs dX7_push_26
theorem kX7_push {p : Program} {l : Launch} {e : Env} {R : Room} {s : State} {m : MethodId} {args : Array Value} {below : List Frame} {meth : Method} {c : Code} {H : Heap} {locs : List Loc} {cells slots : Nat} {Q : State → Prop} {cc : ByteArray} {pc nL : Nat} {ls : Array Slot} {rest : List Value} {D : va_G} {ad : Nat → Nat} {cI cB : ClassId} {en : Nat → Nat} {S : St} {own : String} {index : Nat} {x1 : Int32} {x2 : Int32} {So : St} (C : CallFix p m c cc nL s args wG own) (hlk : Cond.methodLink own index yX7_push ∈ wG) (hR : rmX7_push.frames + 1 ≤ R.frames ∧ 8 + (3 + 11) + rmX7_push.locals ≤ R.locals) (hc : cells ≤ R.cells ∧ slots ≤ R.slots) (hK : KM D ad cI cB en s) (hP : va_P D vwCl (wM ad cI cB S) H) (hS : va_S (AX 11 ad s.heap.size) s.heap H locs) (hls : ls.size = nL) (hrest : (rest.map fun v => v.category).sum ≤ 8) (hd : decode cc pc = .ok (.invokevirtual index, 3)) (hs : fX7_push x1 x2 S = some So) (k : ∀ (H : Heap) (locs : List Loc), va_P D vwCl (wM ad cI cB So) H → va_S (AX 11 ad s.heap.size) s.heap H locs → W p l e R s m args below meth c H locs cells slots Q (F0 m (pc + 3) ls (rest))) : W p l e R s m args below meth c H locs cells slots Q (F0 m pc ls (.int x2 :: .int x1 :: .ref (ad 0) :: rest)) :=
  u_callV (n := 2) (mX7_push l D ad cI cB en S x1 x2 So hs) C uK_M (wg_V hlk tI_X7_push tS_X7_push tN_X7 tK_X7_push) rfl rfl rfl (by decide +kernel) hR rfl (va_recv hK.1 hP (ci := 6) (q0 := 0) rfl rfl) hK hP hS hls hrest hd hc rfl k
def fX7_pop (x1 : Int32) (S : St) : Option (Int32 × St) :=
    (bd (fX7_getA 7 S) fun r1 S1 => (bd (fX7_get r1 x1 S1) fun r2 S2 => (bd (fX7_getA 7 S2) fun r3 S3 => (bv (fX7_setA 7 (r3 + x1) S3) fun S4 => (some (r2, S4))))))
abbrev rmX7_pop : Room := { frames := 3, cells := 0, slots := 0, locals := 67 }
set_option maxRecDepth 100000 in
set_option maxHeartbeats 4000000 in
theorem mX7_pop (l : Launch) (D : va_G) (ad : Nat → Nat) (cI cB : ClassId) (en : Nat → Nat) (S : St) (x1 : Int32) (ro : Int32) (So : St) (hs : fX7_pop x1 S = some (ro, So)) : uM l yX7_pop (wg yX7_pop cX7_pop 3 (some .int)) rmX7_pop (KM D ad cI cB en) D (wM ad cI cB) (AX 11 ad) [.ref (ad 0), .int x1] S (some (.int ro), So) := by
  refine uM_start (by decide) rfl ?_
  intro p e s m below meth c hx hb hr hlocks hml hown hts hK hP
  have hT : ∀ w ∈ wG, w.before _ s = true := fun w h => hts w (List.mem_cons_of_mem _ h)
  have hS : va_S (AX 11 ad s.heap.size) s.heap s.heap [] := va_S.rf
  have hown : s.vm.findClass RX7 = some m.cls := hown
  have C : CallFix p m c cX7_pop 3 s _ wG RX7 := ⟨hx, hb, hml, hown, hT⟩
  have hl := lv_entry ([.ref (ad 0), .int x1]) (n := 3) (Nat.le_of_ble_eq_true rfl)
  rw [lg_entry_eq]
  generalize (lg_sl ([.ref (ad 0), .int x1]) ++ List.replicate (3 - (lg_sl ([.ref (ad 0), .int x1])).length) Slot.unset).toArray = ls at hl ⊢
  have hl : lv_has ls 3 [(0, .ref (ad 0)), (1, .int x1)] := hl
  unfold fX7_pop at hs
  refine lv_aload_n hx hb dX7_pop_0 rfl (lv_at hl 0 rfl) ?_
  refine lv_aload_n hx hb dX7_pop_1 rfl (lv_at hl 0 rfl) ?_
  refine lv_bipush (v := 7) hx hb dX7_pop_2 (by decide) ?_
  obtain ⟨r1, S1, h1, hs⟩ := bd_e hs
  refine kX7_getA C tM_X7_70 ⟨Nat.le_of_ble_eq_true rfl, Nat.le_of_ble_eq_true rfl⟩ ⟨Nat.le_of_ble_eq_true rfl, Nat.le_of_ble_eq_true rfl⟩ hK hP hS hl.1 (rest := [.ref (ad 0)]) (Nat.le_of_ble_eq_true rfl) dX7_pop_4 h1 (fun H locs hP hS => ?_)
  refine lv_iload_n hx hb dX7_pop_7 rfl (lv_at hl 1 rfl) ?_
  obtain ⟨r2, S2, h2, hs⟩ := bd_e hs
  refine kX7_get C tM_X7_116 ⟨Nat.le_of_ble_eq_true rfl, Nat.le_of_ble_eq_true rfl⟩ ⟨Nat.le_of_ble_eq_true rfl, Nat.le_of_ble_eq_true rfl⟩ hK hP hS hl.1 (rest := []) (Nat.le_of_ble_eq_true rfl) dX7_pop_8 h2 (fun H locs hP hS => ?_)
  refine lv_istore_n (lv' := [(2, .int r2), (0, .ref (ad 0)), (1, .int x1)]) hx hb dX7_pop_11 rfl hl (by decide) rfl (fun ls hl => ?_)
  refine lv_aload_n hx hb dX7_pop_12 rfl (lv_at hl 1 rfl) ?_
  refine lv_bipush (v := 7) hx hb dX7_pop_13 (by decide) ?_
  refine lv_aload_n hx hb dX7_pop_15 rfl (lv_at hl 1 rfl) ?_
  refine lv_bipush (v := 7) hx hb dX7_pop_16 (by decide) ?_
  obtain ⟨r3, S3, h3, hs⟩ := bd_e hs
  refine kX7_getA C tM_X7_70 ⟨Nat.le_of_ble_eq_true rfl, Nat.le_of_ble_eq_true rfl⟩ ⟨Nat.le_of_ble_eq_true rfl, Nat.le_of_ble_eq_true rfl⟩ hK hP hS hl.1 (rest := [.int 7, .ref (ad 0)]) (Nat.le_of_ble_eq_true rfl) dX7_pop_18 h3 (fun H locs hP hS => ?_)
  refine lv_iload_n hx hb dX7_pop_21 rfl (lv_at hl 2 rfl) ?_
  refine lv_iadd hx hb dX7_pop_22 ?_
  obtain ⟨S4, h4, hs⟩ := bv_e hs
  refine kX7_setA C tM_X7_74 ⟨Nat.le_of_ble_eq_true rfl, Nat.le_of_ble_eq_true rfl⟩ ⟨Nat.le_of_ble_eq_true rfl, Nat.le_of_ble_eq_true rfl⟩ hK hP hS hl.1 (rest := []) (Nat.le_of_ble_eq_true rfl) dX7_pop_23 h4 (fun H locs hP hS => ?_)
  refine lv_iload_n hx hb dX7_pop_26 rfl (lv_at hl 0 rfl) ?_
  exact u_iret hx hb hr hlocks hP hS hs dX7_pop_27
theorem kX7_pop {p : Program} {l : Launch} {e : Env} {R : Room} {s : State} {m : MethodId} {args : Array Value} {below : List Frame} {meth : Method} {c : Code} {H : Heap} {locs : List Loc} {cells slots : Nat} {Q : State → Prop} {cc : ByteArray} {pc nL : Nat} {ls : Array Slot} {rest : List Value} {D : va_G} {ad : Nat → Nat} {cI cB : ClassId} {en : Nat → Nat} {S : St} {own : String} {index : Nat} {x1 : Int32} {ro : Int32} {So : St} (C : CallFix p m c cc nL s args wG own) (hlk : Cond.methodLink own index yX7_pop ∈ wG) (hR : rmX7_pop.frames + 1 ≤ R.frames ∧ 8 + (3 + 11) + rmX7_pop.locals ≤ R.locals) (hc : cells ≤ R.cells ∧ slots ≤ R.slots) (hK : KM D ad cI cB en s) (hP : va_P D vwCl (wM ad cI cB S) H) (hS : va_S (AX 11 ad s.heap.size) s.heap H locs) (hls : ls.size = nL) (hrest : (rest.map fun v => v.category).sum ≤ 8) (hd : decode cc pc = .ok (.invokevirtual index, 3)) (hs : fX7_pop x1 S = some (ro, So)) (k : ∀ (H : Heap) (locs : List Loc), va_P D vwCl (wM ad cI cB So) H → va_S (AX 11 ad s.heap.size) s.heap H locs → W p l e R s m args below meth c H locs cells slots Q (F0 m (pc + 3) ls (.int ro :: rest))) : W p l e R s m args below meth c H locs cells slots Q (F0 m pc ls (.int x1 :: .ref (ad 0) :: rest)) :=
  u_callV (n := 1) (mX7_pop l D ad cI cB en S x1 ro So hs) C uK_M (wg_V hlk tI_X7_pop tS_X7_pop tN_X7 tK_X7_pop) rfl rfl rfl (by decide +kernel) hR rfl (va_recv hK.1 hP (ci := 6) (q0 := 0) rfl rfl) hK hP hS hls hrest hd hc rfl k
def fX7_extension  (S : St) : Option (Int32 × St) :=
    (bd (fX7_get (S.1 1) 2 S) fun r1 S1 => (lt (sI S1 1 ((S1.1 1) + 2)) fun S2 => (some (r1, S2))))
abbrev rmX7_extension : Room := { frames := 3, cells := 0, slots := 0, locals := 67 }
set_option maxRecDepth 100000 in
set_option maxHeartbeats 4000000 in
theorem mX7_extension (l : Launch) (D : va_G) (ad : Nat → Nat) (cI cB : ClassId) (en : Nat → Nat) (S : St)  (ro : Int32) (So : St) (hs : fX7_extension  S = some (ro, So)) : uM l yX7_extension (wg yX7_extension cX7_extension 2 (some .int)) rmX7_extension (KM D ad cI cB en) D (wM ad cI cB) (AX 11 ad) [.ref (ad 0)] S (some (.int ro), So) := by
  refine uM_start (by decide) rfl ?_
  intro p e s m below meth c hx hb hr hlocks hml hown hts hK hP
  have hT : ∀ w ∈ wG, w.before _ s = true := fun w h => hts w (List.mem_cons_of_mem _ h)
  have hS : va_S (AX 11 ad s.heap.size) s.heap s.heap [] := va_S.rf
  have hown : s.vm.findClass RX7 = some m.cls := hown
  have C : CallFix p m c cX7_extension 2 s _ wG RX7 := ⟨hx, hb, hml, hown, hT⟩
  have hl := lv_entry ([.ref (ad 0)]) (n := 2) (Nat.le_of_ble_eq_true rfl)
  rw [lg_entry_eq]
  generalize (lg_sl ([.ref (ad 0)]) ++ List.replicate (2 - (lg_sl ([.ref (ad 0)])).length) Slot.unset).toArray = ls at hl ⊢
  have hl : lv_has ls 2 [(0, .ref (ad 0))] := hl
  unfold fX7_extension at hs
  refine lv_aload_n hx hb dX7_extension_0 rfl (lv_at hl 0 rfl) ?_
  refine lv_aload_n hx hb dX7_extension_1 rfl (lv_at hl 0 rfl) ?_
  refine gM_X7_pc hx hb hT hown hK hP (hT _ tF_X7_47) dX7_extension_2 ?_
  refine lv_iconst (v := 2) hx hb dX7_extension_5 (by decide) ?_
  obtain ⟨r1, S1, h1, hs⟩ := bd_e hs
  refine kX7_get C tM_X7_116 ⟨Nat.le_of_ble_eq_true rfl, Nat.le_of_ble_eq_true rfl⟩ ⟨Nat.le_of_ble_eq_true rfl, Nat.le_of_ble_eq_true rfl⟩ hK hP hS hl.1 (rest := []) (Nat.le_of_ble_eq_true rfl) dX7_extension_6 h1 (fun H locs hP hS => ?_)
  refine lv_istore_n (lv' := [(1, .int r1), (0, .ref (ad 0))]) hx hb dX7_extension_9 rfl hl (by decide) rfl (fun ls hl => ?_)
  refine lv_aload_n hx hb dX7_extension_10 rfl (lv_at hl 1 rfl) ?_
  refine lv_aload_n hx hb dX7_extension_11 rfl (lv_at hl 1 rfl) ?_
  refine gM_X7_pc hx hb hT hown hK hP (hT _ tF_X7_47) dX7_extension_12 ?_
  refine lv_iconst (v := 2) hx hb dX7_extension_15 (by decide) ?_
  refine lv_iadd hx hb dX7_extension_16 ?_
  obtain ⟨S2, h2, hs⟩ := lt_e hs
  refine pM_X7_pc hx hb hT hown hK hP hS (hT _ tF_X7_47) dX7_extension_17 (v := ((S1.1 1) + 2)) h2 (fun H locs hP hS => ?_)
  refine lv_iload_n hx hb dX7_extension_20 rfl (lv_at hl 0 rfl) ?_
  exact u_iret hx hb hr hlocks hP hS hs dX7_extension_21
theorem kX7_extension {p : Program} {l : Launch} {e : Env} {R : Room} {s : State} {m : MethodId} {args : Array Value} {below : List Frame} {meth : Method} {c : Code} {H : Heap} {locs : List Loc} {cells slots : Nat} {Q : State → Prop} {cc : ByteArray} {pc nL : Nat} {ls : Array Slot} {rest : List Value} {D : va_G} {ad : Nat → Nat} {cI cB : ClassId} {en : Nat → Nat} {S : St} {own : String} {index : Nat}  {ro : Int32} {So : St} (C : CallFix p m c cc nL s args wG own) (hlk : Cond.methodLink own index yX7_extension ∈ wG) (hR : rmX7_extension.frames + 1 ≤ R.frames ∧ 8 + (2 + 11) + rmX7_extension.locals ≤ R.locals) (hc : cells ≤ R.cells ∧ slots ≤ R.slots) (hK : KM D ad cI cB en s) (hP : va_P D vwCl (wM ad cI cB S) H) (hS : va_S (AX 11 ad s.heap.size) s.heap H locs) (hls : ls.size = nL) (hrest : (rest.map fun v => v.category).sum ≤ 8) (hd : decode cc pc = .ok (.invokevirtual index, 3)) (hs : fX7_extension  S = some (ro, So)) (k : ∀ (H : Heap) (locs : List Loc), va_P D vwCl (wM ad cI cB So) H → va_S (AX 11 ad s.heap.size) s.heap H locs → W p l e R s m args below meth c H locs cells slots Q (F0 m (pc + 3) ls (.int ro :: rest))) : W p l e R s m args below meth c H locs cells slots Q (F0 m pc ls (.ref (ad 0) :: rest)) :=
  u_callV (n := 0) (mX7_extension l D ad cI cB en S  ro So hs) C uK_M (wg_V hlk tI_X7_extension tS_X7_extension tN_X7 tK_X7_extension) rfl rfl rfl (by decide +kernel) hR rfl (va_recv hK.1 hP (ci := 6) (q0 := 0) rfl rfl) hK hP hS hls hrest hd hc rfl k
def fX7_extended (x0 : Int32) (x1 : Int32) (S : St) : Option (Int32 × St) :=
    (if x1 = 1 then (some ((x0.toInt8.toInt32), S))
    else (if x1 = 2 then (some ((x0.toInt16.toInt32), S))
    else (some (x0, S))))
abbrev rmX7_extended : Room := { frames := 0, cells := 0, slots := 0, locals := 0 }
set_option maxRecDepth 100000 in
set_option maxHeartbeats 4000000 in
theorem mX7_extended (l : Launch) (D : va_G) (ad : Nat → Nat) (cI cB : ClassId) (en : Nat → Nat) (S : St) (x0 : Int32) (x1 : Int32) (ro : Int32) (So : St) (hs : fX7_extended x0 x1 S = some (ro, So)) : uM l yX7_extended (wg yX7_extended cX7_extended 2 (some .int)) rmX7_extended (KM D ad cI cB en) D (wM ad cI cB) (AX 11 ad) [.int x0, .int x1] S (some (.int ro), So) := by
  refine uM_start (by decide) rfl ?_
  intro p e s m below meth c hx hb hr hlocks hml hown hts hK hP
  have hT : ∀ w ∈ wG, w.before _ s = true := fun w h => hts w (List.mem_cons_of_mem _ h)
  have hS : va_S (AX 11 ad s.heap.size) s.heap s.heap [] := va_S.rf
  have hown : s.vm.findClass RX7 = some m.cls := hown
  have C : CallFix p m c cX7_extended 2 s _ wG RX7 := ⟨hx, hb, hml, hown, hT⟩
  have hl := lv_entry ([.int x0, .int x1]) (n := 2) (Nat.le_of_ble_eq_true rfl)
  rw [lg_entry_eq]
  generalize (lg_sl ([.int x0, .int x1]) ++ List.replicate (2 - (lg_sl ([.int x0, .int x1])).length) Slot.unset).toArray = ls at hl ⊢
  have hl : lv_has ls 2 [(0, .int x0), (1, .int x1)] := hl
  unfold fX7_extended at hs
  refine lv_iload_n hx hb dX7_extended_0 rfl (lv_at hl 1 rfl) ?_
  refine lv_iconst (v := 1) hx hb dX7_extended_1 (by decide) ?_
  refine lv_icmp_ne (tgt := 10) hx hb dX7_extended_2 (by decide) (fun c1 => ?_) (fun c1 => ?_)
  · have hs := if_f c1 hs
    refine lv_iload_n hx hb dX7_extended_10 rfl (lv_at hl 1 rfl) ?_
    refine lv_iconst (v := 2) hx hb dX7_extended_11 (by decide) ?_
    refine lv_icmp_ne (tgt := 20) hx hb dX7_extended_12 (by decide) (fun c2 => ?_) (fun c2 => ?_)
    · have hs := if_f c2 hs
      refine lv_iload_n hx hb dX7_extended_20 rfl (lv_at hl 0 rfl) ?_
      exact u_iret hx hb hr hlocks hP hS hs dX7_extended_21
    · have hs := if_t c2 hs
      refine lv_iload_n hx hb dX7_extended_15 rfl (lv_at hl 0 rfl) ?_
      refine lv_i2s (v := (x0.toInt16.toInt32)) hx hb dX7_extended_16 rfl ?_
      refine lv_goto (tgt := 21) hx hb dX7_extended_17 (by decide) ?_
      exact u_iret hx hb hr hlocks hP hS hs dX7_extended_21
  · have hs := if_t c1 hs
    refine lv_iload_n hx hb dX7_extended_5 rfl (lv_at hl 0 rfl) ?_
    refine lv_i2b (v := (x0.toInt8.toInt32)) hx hb dX7_extended_6 rfl ?_
    refine lv_goto (tgt := 21) hx hb dX7_extended_7 (by decide) ?_
    exact u_iret hx hb hr hlocks hP hS hs dX7_extended_21
theorem kX7_extended {p : Program} {l : Launch} {e : Env} {R : Room} {s : State} {m : MethodId} {args : Array Value} {below : List Frame} {meth : Method} {c : Code} {H : Heap} {locs : List Loc} {cells slots : Nat} {Q : State → Prop} {cc : ByteArray} {pc nL : Nat} {ls : Array Slot} {rest : List Value} {D : va_G} {ad : Nat → Nat} {cI cB : ClassId} {en : Nat → Nat} {S : St} {own : String} {index : Nat} {x0 : Int32} {x1 : Int32} {ro : Int32} {So : St} (C : CallFix p m c cc nL s args wG own) (hlk : Cond.methodLink own index yX7_extended ∈ wG) (hR : rmX7_extended.frames + 1 ≤ R.frames ∧ 8 + (2 + 11) + rmX7_extended.locals ≤ R.locals) (hc : cells ≤ R.cells ∧ slots ≤ R.slots) (hK : KM D ad cI cB en s) (hP : va_P D vwCl (wM ad cI cB S) H) (hS : va_S (AX 11 ad s.heap.size) s.heap H locs) (hls : ls.size = nL) (hrest : (rest.map fun v => v.category).sum ≤ 8) (hd : decode cc pc = .ok (.invokestatic index, 3)) (hs : fX7_extended x0 x1 S = some (ro, So)) (k : ∀ (H : Heap) (locs : List Loc), va_P D vwCl (wM ad cI cB So) H → va_S (AX 11 ad s.heap.size) s.heap H locs → W p l e R s m args below meth c H locs cells slots Q (F0 m (pc + 3) ls (.int ro :: rest))) : W p l e R s m args below meth c H locs cells slots Q (F0 m pc ls (.int x1 :: .int x0 :: rest)) :=
  u_callS (n := 2) (mX7_extended l D ad cI cB en S x0 x1 ro So hs) C uK_M (wg_S hlk tI_X7_extended tN_X7 tK_X7_extended) rfl rfl rfl (by decide +kernel) hR rfl hK hP hS hls hrest hd hc rfl k
def fX7_plain (x0 : Int32) (x1 : Int32) (S : St) : Option (Int64 × St) :=
    (if x1 = 1 then (some (((x0.toInt64) &&& 255), S))
    else (if x1 = 2 then (some (((x0.toInt64) &&& 65535), S))
    else (some (((x0.toInt64) &&& 4294967295), S))))
abbrev rmX7_plain : Room := { frames := 0, cells := 0, slots := 0, locals := 0 }
set_option maxRecDepth 100000 in
set_option maxHeartbeats 4000000 in
theorem mX7_plain (l : Launch) (D : va_G) (ad : Nat → Nat) (cI cB : ClassId) (en : Nat → Nat) (S : St) (x0 : Int32) (x1 : Int32) (ro : Int64) (So : St) (hs : fX7_plain x0 x1 S = some (ro, So)) : uM l yX7_plain (wg yX7_plain cX7_plain 2 (some .long)) rmX7_plain (KM D ad cI cB en) D (wM ad cI cB) (AX 11 ad) [.int x0, .int x1] S (some (.long ro), So) := by
  refine uM_start (by decide) rfl ?_
  intro p e s m below meth c hx hb hr hlocks hml hown hts hK hP
  have hT : ∀ w ∈ wG, w.before _ s = true := fun w h => hts w (List.mem_cons_of_mem _ h)
  have hS : va_S (AX 11 ad s.heap.size) s.heap s.heap [] := va_S.rf
  have hown : s.vm.findClass RX7 = some m.cls := hown
  have C : CallFix p m c cX7_plain 2 s _ wG RX7 := ⟨hx, hb, hml, hown, hT⟩
  have hl := lv_entry ([.int x0, .int x1]) (n := 2) (Nat.le_of_ble_eq_true rfl)
  rw [lg_entry_eq]
  generalize (lg_sl ([.int x0, .int x1]) ++ List.replicate (2 - (lg_sl ([.int x0, .int x1])).length) Slot.unset).toArray = ls at hl ⊢
  have hl : lv_has ls 2 [(0, .int x0), (1, .int x1)] := hl
  unfold fX7_plain at hs
  refine lv_iload_n hx hb dX7_plain_0 rfl (lv_at hl 1 rfl) ?_
  refine lv_iconst (v := 1) hx hb dX7_plain_1 (by decide) ?_
  refine lv_icmp_ne (tgt := 14) hx hb dX7_plain_2 (by decide) (fun c1 => ?_) (fun c1 => ?_)
  · have hs := if_f c1 hs
    refine lv_iload_n hx hb dX7_plain_14 rfl (lv_at hl 1 rfl) ?_
    refine lv_iconst (v := 2) hx hb dX7_plain_15 (by decide) ?_
    refine lv_icmp_ne (tgt := 28) hx hb dX7_plain_16 (by decide) (fun c2 => ?_) (fun c2 => ?_)
    · have hs := if_f c2 hs
      refine lv_iload_n hx hb dX7_plain_28 rfl (lv_at hl 0 rfl) ?_
      refine lv_i2l (v := (x0.toInt64)) hx hb dX7_plain_29 rfl ?_
      refine lv_ldc2 (v := 4294967295) hx hb hown (hT _ tC_X7_123) dX7_plain_30 ?_
      refine lv_land hx hb dX7_plain_33 ?_
      exact u_lret hx hb hr hlocks hP hS hs dX7_plain_34
    · have hs := if_t c2 hs
      refine lv_iload_n hx hb dX7_plain_19 rfl (lv_at hl 0 rfl) ?_
      refine lv_i2l (v := (x0.toInt64)) hx hb dX7_plain_20 rfl ?_
      refine lv_ldc2 (v := 65535) hx hb hown (hT _ tC_X7_121) dX7_plain_21 ?_
      refine lv_land hx hb dX7_plain_24 ?_
      refine lv_goto (tgt := 34) hx hb dX7_plain_25 (by decide) ?_
      exact u_lret hx hb hr hlocks hP hS hs dX7_plain_34
  · have hs := if_t c1 hs
    refine lv_iload_n hx hb dX7_plain_5 rfl (lv_at hl 0 rfl) ?_
    refine lv_i2l (v := (x0.toInt64)) hx hb dX7_plain_6 rfl ?_
    refine lv_ldc2 (v := 255) hx hb hown (hT _ tC_X7_119) dX7_plain_7 ?_
    refine lv_land hx hb dX7_plain_10 ?_
    refine lv_goto (tgt := 34) hx hb dX7_plain_11 (by decide) ?_
    exact u_lret hx hb hr hlocks hP hS hs dX7_plain_34
theorem kX7_plain {p : Program} {l : Launch} {e : Env} {R : Room} {s : State} {m : MethodId} {args : Array Value} {below : List Frame} {meth : Method} {c : Code} {H : Heap} {locs : List Loc} {cells slots : Nat} {Q : State → Prop} {cc : ByteArray} {pc nL : Nat} {ls : Array Slot} {rest : List Value} {D : va_G} {ad : Nat → Nat} {cI cB : ClassId} {en : Nat → Nat} {S : St} {own : String} {index : Nat} {x0 : Int32} {x1 : Int32} {ro : Int64} {So : St} (C : CallFix p m c cc nL s args wG own) (hlk : Cond.methodLink own index yX7_plain ∈ wG) (hR : rmX7_plain.frames + 1 ≤ R.frames ∧ 8 + (2 + 11) + rmX7_plain.locals ≤ R.locals) (hc : cells ≤ R.cells ∧ slots ≤ R.slots) (hK : KM D ad cI cB en s) (hP : va_P D vwCl (wM ad cI cB S) H) (hS : va_S (AX 11 ad s.heap.size) s.heap H locs) (hls : ls.size = nL) (hrest : (rest.map fun v => v.category).sum ≤ 8) (hd : decode cc pc = .ok (.invokestatic index, 3)) (hs : fX7_plain x0 x1 S = some (ro, So)) (k : ∀ (H : Heap) (locs : List Loc), va_P D vwCl (wM ad cI cB So) H → va_S (AX 11 ad s.heap.size) s.heap H locs → W p l e R s m args below meth c H locs cells slots Q (F0 m (pc + 3) ls (.long ro :: rest))) : W p l e R s m args below meth c H locs cells slots Q (F0 m pc ls (.int x1 :: .int x0 :: rest)) :=
  u_callS (n := 2) (mX7_plain l D ad cI cB en S x0 x1 ro So hs) C uK_M (wg_S hlk tI_X7_plain tN_X7 tK_X7_plain) rfl rfl rfl (by decide +kernel) hR rfl hK hP hS hls hrest hd hc rfl k
def fX7_fits (x0 : Int32) (x1 : Int32) (x2 : Int32) (S : St) : Option (Bool × St) :=
    (lt (((x0 >>> ((3 : Int32) &&& 31)) &&& 7) : Int32) fun v1 => (lt ((x0 &&& 7) : Int32) fun v2 => (if v1 = 7 then (if 4 < v2 then (some (false, S))
    else (if v1 = 1 then (if x2 = 1 then (some (false, S))
    else (jn (fun (b7 : Bool) => (jn (fun (b8 : Bool) => (if x1 = 0 then (some (true, S))
    else (if x1 = 1 then (if v1 = 1 then (some (false, S))
    else (some (true, S)))
    else (if x1 = 2 then (if v1 ≤ 1 then (some (false, S))
    else (if (zI b7) = 0 then (some (false, S))
    else (some (true, S))))
    else (if x1 = 3 then (some (b8, S))
    else (if x1 = 4 then (if v1 = 1 then (some (false, S))
    else (if (zI b7) = 0 then (some (false, S))
    else (some (true, S))))
    else (if x1 = 5 then (some (b7, S))
    else (if (zI b8) = 0 then (some (false, S))
    else (if (zI b7) = 0 then (some (false, S))
    else (some (true, S))))))))))) fun K8 =>
    (if v1 = 2 then (K8 true)
    else (if v1 = 5 then (K8 true)
    else (if v1 = 6 then (K8 true)
    else (if v1 = 7 then (if 4 ≤ v2 then (K8 false)
    else (K8 true))
    else (K8 false))))))) fun K7 =>
    (if v1 < 7 then (K7 true)
    else (if 2 ≤ v2 then (K7 false)
    else (K7 true)))))
    else (jn (fun (b5 : Bool) => (jn (fun (b6 : Bool) => (if x1 = 0 then (some (true, S))
    else (if x1 = 1 then (if v1 = 1 then (some (false, S))
    else (some (true, S)))
    else (if x1 = 2 then (if v1 ≤ 1 then (some (false, S))
    else (if (zI b5) = 0 then (some (false, S))
    else (some (true, S))))
    else (if x1 = 3 then (some (b6, S))
    else (if x1 = 4 then (if v1 = 1 then (some (false, S))
    else (if (zI b5) = 0 then (some (false, S))
    else (some (true, S))))
    else (if x1 = 5 then (some (b5, S))
    else (if (zI b6) = 0 then (some (false, S))
    else (if (zI b5) = 0 then (some (false, S))
    else (some (true, S))))))))))) fun K6 =>
    (if v1 = 2 then (K6 true)
    else (if v1 = 5 then (K6 true)
    else (if v1 = 6 then (K6 true)
    else (if v1 = 7 then (if 4 ≤ v2 then (K6 false)
    else (K6 true))
    else (K6 false))))))) fun K5 =>
    (if v1 < 7 then (K5 true)
    else (if 2 ≤ v2 then (K5 false)
    else (K5 true))))))
    else (if v1 = 1 then (if x2 = 1 then (some (false, S))
    else (jn (fun (b3 : Bool) => (jn (fun (b4 : Bool) => (if x1 = 0 then (some (true, S))
    else (if x1 = 1 then (if v1 = 1 then (some (false, S))
    else (some (true, S)))
    else (if x1 = 2 then (if v1 ≤ 1 then (some (false, S))
    else (if (zI b3) = 0 then (some (false, S))
    else (some (true, S))))
    else (if x1 = 3 then (some (b4, S))
    else (if x1 = 4 then (if v1 = 1 then (some (false, S))
    else (if (zI b3) = 0 then (some (false, S))
    else (some (true, S))))
    else (if x1 = 5 then (some (b3, S))
    else (if (zI b4) = 0 then (some (false, S))
    else (if (zI b3) = 0 then (some (false, S))
    else (some (true, S))))))))))) fun K4 =>
    (if v1 = 2 then (K4 true)
    else (if v1 = 5 then (K4 true)
    else (if v1 = 6 then (K4 true)
    else (if v1 = 7 then (if 4 ≤ v2 then (K4 false)
    else (K4 true))
    else (K4 false))))))) fun K3 =>
    (if v1 < 7 then (K3 true)
    else (if 2 ≤ v2 then (K3 false)
    else (K3 true)))))
    else (jn (fun (b1 : Bool) => (jn (fun (b2 : Bool) => (if x1 = 0 then (some (true, S))
    else (if x1 = 1 then (if v1 = 1 then (some (false, S))
    else (some (true, S)))
    else (if x1 = 2 then (if v1 ≤ 1 then (some (false, S))
    else (if (zI b1) = 0 then (some (false, S))
    else (some (true, S))))
    else (if x1 = 3 then (some (b2, S))
    else (if x1 = 4 then (if v1 = 1 then (some (false, S))
    else (if (zI b1) = 0 then (some (false, S))
    else (some (true, S))))
    else (if x1 = 5 then (some (b1, S))
    else (if (zI b2) = 0 then (some (false, S))
    else (if (zI b1) = 0 then (some (false, S))
    else (some (true, S))))))))))) fun K2 =>
    (if v1 = 2 then (K2 true)
    else (if v1 = 5 then (K2 true)
    else (if v1 = 6 then (K2 true)
    else (if v1 = 7 then (if 4 ≤ v2 then (K2 false)
    else (K2 true))
    else (K2 false))))))) fun K1 =>
    (if v1 < 7 then (K1 true)
    else (if 2 ≤ v2 then (K1 false)
    else (K1 true))))))))
abbrev rmX7_fits : Room := { frames := 0, cells := 0, slots := 0, locals := 0 }
set_option maxRecDepth 100000 in
set_option maxHeartbeats 4000000 in
theorem mX7_fits (l : Launch) (D : va_G) (ad : Nat → Nat) (cI cB : ClassId) (en : Nat → Nat) (S : St) (x0 : Int32) (x1 : Int32) (x2 : Int32) (ro : Bool) (So : St) (hs : fX7_fits x0 x1 x2 S = some (ro, So)) : uM l yX7_fits (wg yX7_fits cX7_fits 7 (some .boolean)) rmX7_fits (KM D ad cI cB en) D (wM ad cI cB) (AX 11 ad) [.int x0, .int x1, .int x2] S (some (.int (zI ro)), So) := by
  refine uM_start (by decide) rfl ?_
  intro p e s m below meth c hx hb hr hlocks hml hown hts hK hP
  have hT : ∀ w ∈ wG, w.before _ s = true := fun w h => hts w (List.mem_cons_of_mem _ h)
  have hS : va_S (AX 11 ad s.heap.size) s.heap s.heap [] := va_S.rf
  have hown : s.vm.findClass RX7 = some m.cls := hown
  have C : CallFix p m c cX7_fits 7 s _ wG RX7 := ⟨hx, hb, hml, hown, hT⟩
  have hl := lv_entry ([.int x0, .int x1, .int x2]) (n := 7) (Nat.le_of_ble_eq_true rfl)
  rw [lg_entry_eq]
  generalize (lg_sl ([.int x0, .int x1, .int x2]) ++ List.replicate (7 - (lg_sl ([.int x0, .int x1, .int x2])).length) Slot.unset).toArray = ls at hl ⊢
  have hl : lv_has ls 7 [(0, .int x0), (1, .int x1), (2, .int x2)] := hl
  unfold fX7_fits at hs
  refine lv_iload_n hx hb dX7_fits_0 rfl (lv_at hl 0 rfl) ?_
  refine lv_iconst (v := 3) hx hb dX7_fits_1 (by decide) ?_
  refine lv_ishr hx hb dX7_fits_2 ?_
  refine lv_bipush (v := 7) hx hb dX7_fits_3 (by decide) ?_
  refine lv_iand hx hb dX7_fits_5 ?_
  obtain ⟨v1, h1, hs⟩ := lt_e hs
  refine u_top h1 ?_
  refine lv_istore_n (lv' := [(3, .int v1), (0, .int x0), (1, .int x1), (2, .int x2)]) hx hb dX7_fits_6 rfl hl (by decide) rfl (fun ls hl => ?_)
  refine lv_iload_n hx hb dX7_fits_7 rfl (lv_at hl 1 rfl) ?_
  refine lv_bipush (v := 7) hx hb dX7_fits_8 (by decide) ?_
  refine lv_iand hx hb dX7_fits_10 ?_
  obtain ⟨v2, h2, hs⟩ := lt_e hs
  refine u_top h2 ?_
  refine lv_istore (lv' := [(4, .int v2), (3, .int v1), (0, .int x0), (1, .int x1), (2, .int x2)]) hx hb dX7_fits_11 hl (by decide) rfl (fun ls hl => ?_)
  refine lv_iload_n hx hb dX7_fits_13 rfl (lv_at hl 1 rfl) ?_
  refine lv_bipush (v := 7) hx hb dX7_fits_14 (by decide) ?_
  refine lv_icmp_ne (tgt := 25) hx hb dX7_fits_16 (by decide) (fun c1 => ?_) (fun c1 => ?_)
  · have hs := if_f c1 hs
    refine lv_iload_n hx hb dX7_fits_25 rfl (lv_at hl 1 rfl) ?_
    refine lv_iconst (v := 1) hx hb dX7_fits_26 (by decide) ?_
    refine lv_icmp_ne (tgt := 37) hx hb dX7_fits_27 (by decide) (fun c2 => ?_) (fun c2 => ?_)
    · have hs := if_f c2 hs
      refine lv_iload_n hx hb dX7_fits_37 rfl (lv_at hl 1 rfl) ?_
      refine lv_bipush (v := 7) hx hb dX7_fits_38 (by decide) ?_
      refine jn_e hs (fun K1 => ∀ (b1 : Bool) (H : Heap) (locs : List Loc) (ls : Array Slot), lv_has ls 7 [(4, .int v2), (3, .int v1), (1, .int x1)] → va_P D vwCl (wM ad cI cB S) H → va_S (AX 11 ad s.heap.size) s.heap H locs → K1 b1 = some (ro, So) → W p l e rmX7_fits s m ([.int x0, .int x1, .int x2] : List Value).toArray below meth c H locs 0 0 (MQ below (uQ D (wM ad cI cB) (some (.int (zI ro)), So) (AX 11 ad s.heap.size)) ([.int x0, .int x1, .int x2] : List Value).toArray s 0 0 (AX 11 ad s.heap.size)) (F0 m 54 ls [.int (zI b1)])) ?_ (fun K1 J1 hs => ?_)
      · intro b1 H locs ls hl hP hS hs
        refine lv_istore (lv' := [(5, .int (zI b1)), (4, .int v2), (3, .int v1), (1, .int x1)]) hx hb dX7_fits_54 hl (by decide) rfl (fun ls hl => ?_)
        refine lv_iload_n hx hb dX7_fits_56 rfl (lv_at hl 2 rfl) ?_
        refine lv_iconst (v := 2) hx hb dX7_fits_57 (by decide) ?_
        refine jn_e hs (fun K2 => ∀ (b2 : Bool) (H : Heap) (locs : List Loc) (ls : Array Slot), lv_has ls 7 [(5, .int (zI b1)), (3, .int v1), (1, .int x1)] → va_P D vwCl (wM ad cI cB S) H → va_S (AX 11 ad s.heap.size) s.heap H locs → K2 b2 = some (ro, So) → W p l e rmX7_fits s m ([.int x0, .int x1, .int x2] : List Value).toArray below meth c H locs 0 0 (MQ below (uQ D (wM ad cI cB) (some (.int (zI ro)), So) (AX 11 ad s.heap.size)) ([.int x0, .int x1, .int x2] : List Value).toArray s 0 0 (AX 11 ad s.heap.size)) (F0 m 89 ls [.int (zI b2)])) ?_ (fun K2 J2 hs => ?_)
        · intro b2 H locs ls hl hP hS hs
          refine lv_istore (lv' := [(6, .int (zI b2)), (5, .int (zI b1)), (3, .int v1), (1, .int x1)]) hx hb dX7_fits_89 hl (by decide) rfl (fun ls hl => ?_)
          refine lv_iload_n hx hb dX7_fits_91 rfl (lv_at hl 3 rfl) ?_
          by_cases c3 : x1 = 0
          · have hs := if_t c3 hs
            refine u_table (k := 0) (a := 0) (off := 40) (tgt := 132) hx hb dX7_fits_92 c3 (by decide) (by decide) (by decide) (by decide) (by decide) ?_
            refine lv_iconst (v := 1) hx hb dX7_fits_132 (by decide) ?_
            exact u_zret (v := true) hx hb hr hlocks hP hS hs dX7_fits_133
          have hs := if_f c3 hs
          by_cases c4 : x1 = 1
          · have hs := if_t c4 hs
            refine u_table (k := 1) (a := 1) (off := 42) (tgt := 134) hx hb dX7_fits_92 c4 (by decide) (by decide) (by decide) (by decide) (by decide) ?_
            refine lv_iload_n hx hb dX7_fits_134 rfl (lv_at hl 2 rfl) ?_
            refine lv_iconst (v := 1) hx hb dX7_fits_135 (by decide) ?_
            refine lv_icmp_eq (tgt := 143) hx hb dX7_fits_136 (by decide) (fun c5 => ?_) (fun c5 => ?_)
            · have hs := if_t c5 hs
              refine lv_iconst (v := 0) hx hb dX7_fits_143 (by decide) ?_
              exact u_zret (v := false) hx hb hr hlocks hP hS hs dX7_fits_144
            · have hs := if_f c5 hs
              refine lv_iconst (v := 1) hx hb dX7_fits_139 (by decide) ?_
              refine lv_goto (tgt := 144) hx hb dX7_fits_140 (by decide) ?_
              exact u_zret (v := true) hx hb hr hlocks hP hS hs dX7_fits_144
          have hs := if_f c4 hs
          by_cases c6 : x1 = 2
          · have hs := if_t c6 hs
            refine u_table (k := 2) (a := 2) (off := 53) (tgt := 145) hx hb dX7_fits_92 c6 (by decide) (by decide) (by decide) (by decide) (by decide) ?_
            refine lv_iload_n hx hb dX7_fits_145 rfl (lv_at hl 2 rfl) ?_
            refine lv_iconst (v := 1) hx hb dX7_fits_146 (by decide) ?_
            refine lv_icmp_le (tgt := 159) hx hb dX7_fits_147 (by decide) (fun c7 => ?_) (fun c7 => ?_)
            · have hs := if_t c7 hs
              refine lv_iconst (v := 0) hx hb dX7_fits_159 (by decide) ?_
              exact u_zret (v := false) hx hb hr hlocks hP hS hs dX7_fits_160
            · have hs := if_f c7 hs
              refine lv_iload hx hb dX7_fits_150 (lv_at hl 1 rfl) ?_
              refine lv_if_eq (tgt := 159) hx hb dX7_fits_152 (by decide) (fun c8 => ?_) (fun c8 => ?_)
              · have hs := if_t c8 hs
                refine lv_iconst (v := 0) hx hb dX7_fits_159 (by decide) ?_
                exact u_zret (v := false) hx hb hr hlocks hP hS hs dX7_fits_160
              · have hs := if_f c8 hs
                refine lv_iconst (v := 1) hx hb dX7_fits_155 (by decide) ?_
                refine lv_goto (tgt := 160) hx hb dX7_fits_156 (by decide) ?_
                exact u_zret (v := true) hx hb hr hlocks hP hS hs dX7_fits_160
          have hs := if_f c6 hs
          by_cases c9 : x1 = 3
          · have hs := if_t c9 hs
            refine u_table (k := 3) (a := 3) (off := 69) (tgt := 161) hx hb dX7_fits_92 c9 (by decide) (by decide) (by decide) (by decide) (by decide) ?_
            refine lv_iload hx hb dX7_fits_161 (lv_at hl 0 rfl) ?_
            exact u_zret (v := b2) hx hb hr hlocks hP hS hs dX7_fits_163
          have hs := if_f c9 hs
          by_cases c10 : x1 = 4
          · have hs := if_t c10 hs
            refine u_table (k := 4) (a := 4) (off := 72) (tgt := 164) hx hb dX7_fits_92 c10 (by decide) (by decide) (by decide) (by decide) (by decide) ?_
            refine lv_iload_n hx hb dX7_fits_164 rfl (lv_at hl 2 rfl) ?_
            refine lv_iconst (v := 1) hx hb dX7_fits_165 (by decide) ?_
            refine lv_icmp_eq (tgt := 178) hx hb dX7_fits_166 (by decide) (fun c11 => ?_) (fun c11 => ?_)
            · have hs := if_t c11 hs
              refine lv_iconst (v := 0) hx hb dX7_fits_178 (by decide) ?_
              exact u_zret (v := false) hx hb hr hlocks hP hS hs dX7_fits_179
            · have hs := if_f c11 hs
              refine lv_iload hx hb dX7_fits_169 (lv_at hl 1 rfl) ?_
              refine lv_if_eq (tgt := 178) hx hb dX7_fits_171 (by decide) (fun c12 => ?_) (fun c12 => ?_)
              · have hs := if_t c12 hs
                refine lv_iconst (v := 0) hx hb dX7_fits_178 (by decide) ?_
                exact u_zret (v := false) hx hb hr hlocks hP hS hs dX7_fits_179
              · have hs := if_f c12 hs
                refine lv_iconst (v := 1) hx hb dX7_fits_174 (by decide) ?_
                refine lv_goto (tgt := 179) hx hb dX7_fits_175 (by decide) ?_
                exact u_zret (v := true) hx hb hr hlocks hP hS hs dX7_fits_179
          have hs := if_f c10 hs
          by_cases c13 : x1 = 5
          · have hs := if_t c13 hs
            refine u_table (k := 5) (a := 5) (off := 88) (tgt := 180) hx hb dX7_fits_92 c13 (by decide) (by decide) (by decide) (by decide) (by decide) ?_
            refine lv_iload hx hb dX7_fits_180 (lv_at hl 1 rfl) ?_
            exact u_zret (v := b1) hx hb hr hlocks hP hS hs dX7_fits_182
          have hs := if_f c13 hs
          refine u_tableD (tgt := 183) hx hb dX7_fits_92 (fun hlo hhi => ?_) (by decide) ?_
          · have hz : (x1).toInt = 0 ∨ (x1).toInt = 1 ∨ (x1).toInt = 2 ∨ (x1).toInt = 3 ∨ (x1).toInt = 4 ∨ (x1).toInt = 5 := by omega
            rcases hz with hz | hz | hz | hz | hz | hz
            · exact absurd hz (lv_neT c3 (by decide))
            · exact absurd hz (lv_neT c4 (by decide))
            · exact absurd hz (lv_neT c6 (by decide))
            · exact absurd hz (lv_neT c9 (by decide))
            · exact absurd hz (lv_neT c10 (by decide))
            · exact absurd hz (lv_neT c13 (by decide))
          refine lv_iload hx hb dX7_fits_183 (lv_at hl 0 rfl) ?_
          refine lv_if_eq (tgt := 197) hx hb dX7_fits_185 (by decide) (fun c14 => ?_) (fun c14 => ?_)
          · have hs := if_t c14 hs
            refine lv_iconst (v := 0) hx hb dX7_fits_197 (by decide) ?_
            exact u_zret (v := false) hx hb hr hlocks hP hS hs dX7_fits_198
          · have hs := if_f c14 hs
            refine lv_iload hx hb dX7_fits_188 (lv_at hl 1 rfl) ?_
            refine lv_if_eq (tgt := 197) hx hb dX7_fits_190 (by decide) (fun c15 => ?_) (fun c15 => ?_)
            · have hs := if_t c15 hs
              refine lv_iconst (v := 0) hx hb dX7_fits_197 (by decide) ?_
              exact u_zret (v := false) hx hb hr hlocks hP hS hs dX7_fits_198
            · have hs := if_f c15 hs
              refine lv_iconst (v := 1) hx hb dX7_fits_193 (by decide) ?_
              refine lv_goto (tgt := 198) hx hb dX7_fits_194 (by decide) ?_
              exact u_zret (v := true) hx hb hr hlocks hP hS hs dX7_fits_198
        ·
          refine lv_icmp_eq (tgt := 84) hx hb dX7_fits_58 (by decide) (fun c16 => ?_) (fun c16 => ?_)
          · have hs := if_t c16 hs
            refine lv_iconst (v := 1) hx hb dX7_fits_84 (by decide) ?_
            refine lv_goto (tgt := 89) hx hb dX7_fits_85 (by decide) ?_
            exact J2 true _ _ _ (lv_sub hl [0, 2, 3] rfl) hP hS hs
          · have hs := if_f c16 hs
            refine lv_iload_n hx hb dX7_fits_61 rfl (lv_at hl 2 rfl) ?_
            refine lv_iconst (v := 5) hx hb dX7_fits_62 (by decide) ?_
            refine lv_icmp_eq (tgt := 84) hx hb dX7_fits_63 (by decide) (fun c17 => ?_) (fun c17 => ?_)
            · have hs := if_t c17 hs
              refine lv_iconst (v := 1) hx hb dX7_fits_84 (by decide) ?_
              refine lv_goto (tgt := 89) hx hb dX7_fits_85 (by decide) ?_
              exact J2 true _ _ _ (lv_sub hl [0, 2, 3] rfl) hP hS hs
            · have hs := if_f c17 hs
              refine lv_iload_n hx hb dX7_fits_66 rfl (lv_at hl 2 rfl) ?_
              refine lv_bipush (v := 6) hx hb dX7_fits_67 (by decide) ?_
              refine lv_icmp_eq (tgt := 84) hx hb dX7_fits_69 (by decide) (fun c18 => ?_) (fun c18 => ?_)
              · have hs := if_t c18 hs
                refine lv_iconst (v := 1) hx hb dX7_fits_84 (by decide) ?_
                refine lv_goto (tgt := 89) hx hb dX7_fits_85 (by decide) ?_
                exact J2 true _ _ _ (lv_sub hl [0, 2, 3] rfl) hP hS hs
              · have hs := if_f c18 hs
                refine lv_iload_n hx hb dX7_fits_72 rfl (lv_at hl 2 rfl) ?_
                refine lv_bipush (v := 7) hx hb dX7_fits_73 (by decide) ?_
                refine lv_icmp_ne (tgt := 88) hx hb dX7_fits_75 (by decide) (fun c19 => ?_) (fun c19 => ?_)
                · have hs := if_f c19 hs
                  refine lv_iconst (v := 0) hx hb dX7_fits_88 (by decide) ?_
                  exact J2 false _ _ _ (lv_sub hl [0, 2, 3] rfl) hP hS hs
                · have hs := if_t c19 hs
                  refine lv_iload hx hb dX7_fits_78 (lv_at hl 1 rfl) ?_
                  refine lv_iconst (v := 4) hx hb dX7_fits_80 (by decide) ?_
                  refine lv_icmp_ge (tgt := 88) hx hb dX7_fits_81 (by decide) (fun c20 => ?_) (fun c20 => ?_)
                  · have hs := if_t c20 hs
                    refine lv_iconst (v := 0) hx hb dX7_fits_88 (by decide) ?_
                    exact J2 false _ _ _ (lv_sub hl [0, 2, 3] rfl) hP hS hs
                  · have hs := if_f c20 hs
                    refine lv_iconst (v := 1) hx hb dX7_fits_84 (by decide) ?_
                    refine lv_goto (tgt := 89) hx hb dX7_fits_85 (by decide) ?_
                    exact J2 true _ _ _ (lv_sub hl [0, 2, 3] rfl) hP hS hs
      ·
        refine lv_icmp_lt (tgt := 49) hx hb dX7_fits_40 (by decide) (fun c21 => ?_) (fun c21 => ?_)
        · have hs := if_t c21 hs
          refine lv_iconst (v := 1) hx hb dX7_fits_49 (by decide) ?_
          refine lv_goto (tgt := 54) hx hb dX7_fits_50 (by decide) ?_
          exact J1 true _ _ _ (lv_sub hl [0, 1, 3] rfl) hP hS hs
        · have hs := if_f c21 hs
          refine lv_iload hx hb dX7_fits_43 (lv_at hl 0 rfl) ?_
          refine lv_iconst (v := 2) hx hb dX7_fits_45 (by decide) ?_
          refine lv_icmp_ge (tgt := 53) hx hb dX7_fits_46 (by decide) (fun c22 => ?_) (fun c22 => ?_)
          · have hs := if_t c22 hs
            refine lv_iconst (v := 0) hx hb dX7_fits_53 (by decide) ?_
            exact J1 false _ _ _ (lv_sub hl [0, 1, 3] rfl) hP hS hs
          · have hs := if_f c22 hs
            refine lv_iconst (v := 1) hx hb dX7_fits_49 (by decide) ?_
            refine lv_goto (tgt := 54) hx hb dX7_fits_50 (by decide) ?_
            exact J1 true _ _ _ (lv_sub hl [0, 1, 3] rfl) hP hS hs
    · have hs := if_t c2 hs
      refine lv_iload_n hx hb dX7_fits_30 rfl (lv_at hl 4 rfl) ?_
      refine lv_iconst (v := 1) hx hb dX7_fits_31 (by decide) ?_
      refine lv_icmp_ne (tgt := 37) hx hb dX7_fits_32 (by decide) (fun c23 => ?_) (fun c23 => ?_)
      · have hs := if_f c23 hs
        refine lv_iload_n hx hb dX7_fits_37 rfl (lv_at hl 1 rfl) ?_
        refine lv_bipush (v := 7) hx hb dX7_fits_38 (by decide) ?_
        refine jn_e hs (fun K3 => ∀ (b3 : Bool) (H : Heap) (locs : List Loc) (ls : Array Slot), lv_has ls 7 [(4, .int v2), (3, .int v1), (1, .int x1)] → va_P D vwCl (wM ad cI cB S) H → va_S (AX 11 ad s.heap.size) s.heap H locs → K3 b3 = some (ro, So) → W p l e rmX7_fits s m ([.int x0, .int x1, .int x2] : List Value).toArray below meth c H locs 0 0 (MQ below (uQ D (wM ad cI cB) (some (.int (zI ro)), So) (AX 11 ad s.heap.size)) ([.int x0, .int x1, .int x2] : List Value).toArray s 0 0 (AX 11 ad s.heap.size)) (F0 m 54 ls [.int (zI b3)])) ?_ (fun K3 J3 hs => ?_)
        · intro b3 H locs ls hl hP hS hs
          refine lv_istore (lv' := [(5, .int (zI b3)), (4, .int v2), (3, .int v1), (1, .int x1)]) hx hb dX7_fits_54 hl (by decide) rfl (fun ls hl => ?_)
          refine lv_iload_n hx hb dX7_fits_56 rfl (lv_at hl 2 rfl) ?_
          refine lv_iconst (v := 2) hx hb dX7_fits_57 (by decide) ?_
          refine jn_e hs (fun K4 => ∀ (b4 : Bool) (H : Heap) (locs : List Loc) (ls : Array Slot), lv_has ls 7 [(5, .int (zI b3)), (3, .int v1), (1, .int x1)] → va_P D vwCl (wM ad cI cB S) H → va_S (AX 11 ad s.heap.size) s.heap H locs → K4 b4 = some (ro, So) → W p l e rmX7_fits s m ([.int x0, .int x1, .int x2] : List Value).toArray below meth c H locs 0 0 (MQ below (uQ D (wM ad cI cB) (some (.int (zI ro)), So) (AX 11 ad s.heap.size)) ([.int x0, .int x1, .int x2] : List Value).toArray s 0 0 (AX 11 ad s.heap.size)) (F0 m 89 ls [.int (zI b4)])) ?_ (fun K4 J4 hs => ?_)
          · intro b4 H locs ls hl hP hS hs
            refine lv_istore (lv' := [(6, .int (zI b4)), (5, .int (zI b3)), (3, .int v1), (1, .int x1)]) hx hb dX7_fits_89 hl (by decide) rfl (fun ls hl => ?_)
            refine lv_iload_n hx hb dX7_fits_91 rfl (lv_at hl 3 rfl) ?_
            by_cases c24 : x1 = 0
            · have hs := if_t c24 hs
              refine u_table (k := 0) (a := 0) (off := 40) (tgt := 132) hx hb dX7_fits_92 c24 (by decide) (by decide) (by decide) (by decide) (by decide) ?_
              refine lv_iconst (v := 1) hx hb dX7_fits_132 (by decide) ?_
              exact u_zret (v := true) hx hb hr hlocks hP hS hs dX7_fits_133
            have hs := if_f c24 hs
            by_cases c25 : x1 = 1
            · have hs := if_t c25 hs
              refine u_table (k := 1) (a := 1) (off := 42) (tgt := 134) hx hb dX7_fits_92 c25 (by decide) (by decide) (by decide) (by decide) (by decide) ?_
              refine lv_iload_n hx hb dX7_fits_134 rfl (lv_at hl 2 rfl) ?_
              refine lv_iconst (v := 1) hx hb dX7_fits_135 (by decide) ?_
              refine lv_icmp_eq (tgt := 143) hx hb dX7_fits_136 (by decide) (fun c26 => ?_) (fun c26 => ?_)
              · have hs := if_t c26 hs
                refine lv_iconst (v := 0) hx hb dX7_fits_143 (by decide) ?_
                exact u_zret (v := false) hx hb hr hlocks hP hS hs dX7_fits_144
              · have hs := if_f c26 hs
                refine lv_iconst (v := 1) hx hb dX7_fits_139 (by decide) ?_
                refine lv_goto (tgt := 144) hx hb dX7_fits_140 (by decide) ?_
                exact u_zret (v := true) hx hb hr hlocks hP hS hs dX7_fits_144
            have hs := if_f c25 hs
            by_cases c27 : x1 = 2
            · have hs := if_t c27 hs
              refine u_table (k := 2) (a := 2) (off := 53) (tgt := 145) hx hb dX7_fits_92 c27 (by decide) (by decide) (by decide) (by decide) (by decide) ?_
              refine lv_iload_n hx hb dX7_fits_145 rfl (lv_at hl 2 rfl) ?_
              refine lv_iconst (v := 1) hx hb dX7_fits_146 (by decide) ?_
              refine lv_icmp_le (tgt := 159) hx hb dX7_fits_147 (by decide) (fun c28 => ?_) (fun c28 => ?_)
              · have hs := if_t c28 hs
                refine lv_iconst (v := 0) hx hb dX7_fits_159 (by decide) ?_
                exact u_zret (v := false) hx hb hr hlocks hP hS hs dX7_fits_160
              · have hs := if_f c28 hs
                refine lv_iload hx hb dX7_fits_150 (lv_at hl 1 rfl) ?_
                refine lv_if_eq (tgt := 159) hx hb dX7_fits_152 (by decide) (fun c29 => ?_) (fun c29 => ?_)
                · have hs := if_t c29 hs
                  refine lv_iconst (v := 0) hx hb dX7_fits_159 (by decide) ?_
                  exact u_zret (v := false) hx hb hr hlocks hP hS hs dX7_fits_160
                · have hs := if_f c29 hs
                  refine lv_iconst (v := 1) hx hb dX7_fits_155 (by decide) ?_
                  refine lv_goto (tgt := 160) hx hb dX7_fits_156 (by decide) ?_
                  exact u_zret (v := true) hx hb hr hlocks hP hS hs dX7_fits_160
            have hs := if_f c27 hs
            by_cases c30 : x1 = 3
            · have hs := if_t c30 hs
              refine u_table (k := 3) (a := 3) (off := 69) (tgt := 161) hx hb dX7_fits_92 c30 (by decide) (by decide) (by decide) (by decide) (by decide) ?_
              refine lv_iload hx hb dX7_fits_161 (lv_at hl 0 rfl) ?_
              exact u_zret (v := b4) hx hb hr hlocks hP hS hs dX7_fits_163
            have hs := if_f c30 hs
            by_cases c31 : x1 = 4
            · have hs := if_t c31 hs
              refine u_table (k := 4) (a := 4) (off := 72) (tgt := 164) hx hb dX7_fits_92 c31 (by decide) (by decide) (by decide) (by decide) (by decide) ?_
              refine lv_iload_n hx hb dX7_fits_164 rfl (lv_at hl 2 rfl) ?_
              refine lv_iconst (v := 1) hx hb dX7_fits_165 (by decide) ?_
              refine lv_icmp_eq (tgt := 178) hx hb dX7_fits_166 (by decide) (fun c32 => ?_) (fun c32 => ?_)
              · have hs := if_t c32 hs
                refine lv_iconst (v := 0) hx hb dX7_fits_178 (by decide) ?_
                exact u_zret (v := false) hx hb hr hlocks hP hS hs dX7_fits_179
              · have hs := if_f c32 hs
                refine lv_iload hx hb dX7_fits_169 (lv_at hl 1 rfl) ?_
                refine lv_if_eq (tgt := 178) hx hb dX7_fits_171 (by decide) (fun c33 => ?_) (fun c33 => ?_)
                · have hs := if_t c33 hs
                  refine lv_iconst (v := 0) hx hb dX7_fits_178 (by decide) ?_
                  exact u_zret (v := false) hx hb hr hlocks hP hS hs dX7_fits_179
                · have hs := if_f c33 hs
                  refine lv_iconst (v := 1) hx hb dX7_fits_174 (by decide) ?_
                  refine lv_goto (tgt := 179) hx hb dX7_fits_175 (by decide) ?_
                  exact u_zret (v := true) hx hb hr hlocks hP hS hs dX7_fits_179
            have hs := if_f c31 hs
            by_cases c34 : x1 = 5
            · have hs := if_t c34 hs
              refine u_table (k := 5) (a := 5) (off := 88) (tgt := 180) hx hb dX7_fits_92 c34 (by decide) (by decide) (by decide) (by decide) (by decide) ?_
              refine lv_iload hx hb dX7_fits_180 (lv_at hl 1 rfl) ?_
              exact u_zret (v := b3) hx hb hr hlocks hP hS hs dX7_fits_182
            have hs := if_f c34 hs
            refine u_tableD (tgt := 183) hx hb dX7_fits_92 (fun hlo hhi => ?_) (by decide) ?_
            · have hz : (x1).toInt = 0 ∨ (x1).toInt = 1 ∨ (x1).toInt = 2 ∨ (x1).toInt = 3 ∨ (x1).toInt = 4 ∨ (x1).toInt = 5 := by omega
              rcases hz with hz | hz | hz | hz | hz | hz
              · exact absurd hz (lv_neT c24 (by decide))
              · exact absurd hz (lv_neT c25 (by decide))
              · exact absurd hz (lv_neT c27 (by decide))
              · exact absurd hz (lv_neT c30 (by decide))
              · exact absurd hz (lv_neT c31 (by decide))
              · exact absurd hz (lv_neT c34 (by decide))
            refine lv_iload hx hb dX7_fits_183 (lv_at hl 0 rfl) ?_
            refine lv_if_eq (tgt := 197) hx hb dX7_fits_185 (by decide) (fun c35 => ?_) (fun c35 => ?_)
            · have hs := if_t c35 hs
              refine lv_iconst (v := 0) hx hb dX7_fits_197 (by decide) ?_
              exact u_zret (v := false) hx hb hr hlocks hP hS hs dX7_fits_198
            · have hs := if_f c35 hs
              refine lv_iload hx hb dX7_fits_188 (lv_at hl 1 rfl) ?_
              refine lv_if_eq (tgt := 197) hx hb dX7_fits_190 (by decide) (fun c36 => ?_) (fun c36 => ?_)
              · have hs := if_t c36 hs
                refine lv_iconst (v := 0) hx hb dX7_fits_197 (by decide) ?_
                exact u_zret (v := false) hx hb hr hlocks hP hS hs dX7_fits_198
              · have hs := if_f c36 hs
                refine lv_iconst (v := 1) hx hb dX7_fits_193 (by decide) ?_
                refine lv_goto (tgt := 198) hx hb dX7_fits_194 (by decide) ?_
                exact u_zret (v := true) hx hb hr hlocks hP hS hs dX7_fits_198
          ·
            refine lv_icmp_eq (tgt := 84) hx hb dX7_fits_58 (by decide) (fun c37 => ?_) (fun c37 => ?_)
            · have hs := if_t c37 hs
              refine lv_iconst (v := 1) hx hb dX7_fits_84 (by decide) ?_
              refine lv_goto (tgt := 89) hx hb dX7_fits_85 (by decide) ?_
              exact J4 true _ _ _ (lv_sub hl [0, 2, 3] rfl) hP hS hs
            · have hs := if_f c37 hs
              refine lv_iload_n hx hb dX7_fits_61 rfl (lv_at hl 2 rfl) ?_
              refine lv_iconst (v := 5) hx hb dX7_fits_62 (by decide) ?_
              refine lv_icmp_eq (tgt := 84) hx hb dX7_fits_63 (by decide) (fun c38 => ?_) (fun c38 => ?_)
              · have hs := if_t c38 hs
                refine lv_iconst (v := 1) hx hb dX7_fits_84 (by decide) ?_
                refine lv_goto (tgt := 89) hx hb dX7_fits_85 (by decide) ?_
                exact J4 true _ _ _ (lv_sub hl [0, 2, 3] rfl) hP hS hs
              · have hs := if_f c38 hs
                refine lv_iload_n hx hb dX7_fits_66 rfl (lv_at hl 2 rfl) ?_
                refine lv_bipush (v := 6) hx hb dX7_fits_67 (by decide) ?_
                refine lv_icmp_eq (tgt := 84) hx hb dX7_fits_69 (by decide) (fun c39 => ?_) (fun c39 => ?_)
                · have hs := if_t c39 hs
                  refine lv_iconst (v := 1) hx hb dX7_fits_84 (by decide) ?_
                  refine lv_goto (tgt := 89) hx hb dX7_fits_85 (by decide) ?_
                  exact J4 true _ _ _ (lv_sub hl [0, 2, 3] rfl) hP hS hs
                · have hs := if_f c39 hs
                  refine lv_iload_n hx hb dX7_fits_72 rfl (lv_at hl 2 rfl) ?_
                  refine lv_bipush (v := 7) hx hb dX7_fits_73 (by decide) ?_
                  refine lv_icmp_ne (tgt := 88) hx hb dX7_fits_75 (by decide) (fun c40 => ?_) (fun c40 => ?_)
                  · have hs := if_f c40 hs
                    refine lv_iconst (v := 0) hx hb dX7_fits_88 (by decide) ?_
                    exact J4 false _ _ _ (lv_sub hl [0, 2, 3] rfl) hP hS hs
                  · have hs := if_t c40 hs
                    refine lv_iload hx hb dX7_fits_78 (lv_at hl 1 rfl) ?_
                    refine lv_iconst (v := 4) hx hb dX7_fits_80 (by decide) ?_
                    refine lv_icmp_ge (tgt := 88) hx hb dX7_fits_81 (by decide) (fun c41 => ?_) (fun c41 => ?_)
                    · have hs := if_t c41 hs
                      refine lv_iconst (v := 0) hx hb dX7_fits_88 (by decide) ?_
                      exact J4 false _ _ _ (lv_sub hl [0, 2, 3] rfl) hP hS hs
                    · have hs := if_f c41 hs
                      refine lv_iconst (v := 1) hx hb dX7_fits_84 (by decide) ?_
                      refine lv_goto (tgt := 89) hx hb dX7_fits_85 (by decide) ?_
                      exact J4 true _ _ _ (lv_sub hl [0, 2, 3] rfl) hP hS hs
        ·
          refine lv_icmp_lt (tgt := 49) hx hb dX7_fits_40 (by decide) (fun c42 => ?_) (fun c42 => ?_)
          · have hs := if_t c42 hs
            refine lv_iconst (v := 1) hx hb dX7_fits_49 (by decide) ?_
            refine lv_goto (tgt := 54) hx hb dX7_fits_50 (by decide) ?_
            exact J3 true _ _ _ (lv_sub hl [0, 1, 3] rfl) hP hS hs
          · have hs := if_f c42 hs
            refine lv_iload hx hb dX7_fits_43 (lv_at hl 0 rfl) ?_
            refine lv_iconst (v := 2) hx hb dX7_fits_45 (by decide) ?_
            refine lv_icmp_ge (tgt := 53) hx hb dX7_fits_46 (by decide) (fun c43 => ?_) (fun c43 => ?_)
            · have hs := if_t c43 hs
              refine lv_iconst (v := 0) hx hb dX7_fits_53 (by decide) ?_
              exact J3 false _ _ _ (lv_sub hl [0, 1, 3] rfl) hP hS hs
            · have hs := if_f c43 hs
              refine lv_iconst (v := 1) hx hb dX7_fits_49 (by decide) ?_
              refine lv_goto (tgt := 54) hx hb dX7_fits_50 (by decide) ?_
              exact J3 true _ _ _ (lv_sub hl [0, 1, 3] rfl) hP hS hs
      · have hs := if_t c23 hs
        refine lv_iconst (v := 0) hx hb dX7_fits_35 (by decide) ?_
        exact u_zret (v := false) hx hb hr hlocks hP hS hs dX7_fits_36
  · have hs := if_t c1 hs
    refine lv_iload hx hb dX7_fits_19 (lv_at hl 0 rfl) ?_
    refine lv_iconst (v := 4) hx hb dX7_fits_21 (by decide) ?_
    refine lv_icmp_gt (tgt := 35) hx hb dX7_fits_22 (by decide) (fun c44 => ?_) (fun c44 => ?_)
    · have hs := if_t c44 hs
      refine lv_iconst (v := 0) hx hb dX7_fits_35 (by decide) ?_
      exact u_zret (v := false) hx hb hr hlocks hP hS hs dX7_fits_36
    · have hs := if_f c44 hs
      refine lv_iload_n hx hb dX7_fits_25 rfl (lv_at hl 1 rfl) ?_
      refine lv_iconst (v := 1) hx hb dX7_fits_26 (by decide) ?_
      refine lv_icmp_ne (tgt := 37) hx hb dX7_fits_27 (by decide) (fun c45 => ?_) (fun c45 => ?_)
      · have hs := if_f c45 hs
        refine lv_iload_n hx hb dX7_fits_37 rfl (lv_at hl 1 rfl) ?_
        refine lv_bipush (v := 7) hx hb dX7_fits_38 (by decide) ?_
        refine jn_e hs (fun K5 => ∀ (b5 : Bool) (H : Heap) (locs : List Loc) (ls : Array Slot), lv_has ls 7 [(4, .int v2), (3, .int v1), (1, .int x1)] → va_P D vwCl (wM ad cI cB S) H → va_S (AX 11 ad s.heap.size) s.heap H locs → K5 b5 = some (ro, So) → W p l e rmX7_fits s m ([.int x0, .int x1, .int x2] : List Value).toArray below meth c H locs 0 0 (MQ below (uQ D (wM ad cI cB) (some (.int (zI ro)), So) (AX 11 ad s.heap.size)) ([.int x0, .int x1, .int x2] : List Value).toArray s 0 0 (AX 11 ad s.heap.size)) (F0 m 54 ls [.int (zI b5)])) ?_ (fun K5 J5 hs => ?_)
        · intro b5 H locs ls hl hP hS hs
          refine lv_istore (lv' := [(5, .int (zI b5)), (4, .int v2), (3, .int v1), (1, .int x1)]) hx hb dX7_fits_54 hl (by decide) rfl (fun ls hl => ?_)
          refine lv_iload_n hx hb dX7_fits_56 rfl (lv_at hl 2 rfl) ?_
          refine lv_iconst (v := 2) hx hb dX7_fits_57 (by decide) ?_
          refine jn_e hs (fun K6 => ∀ (b6 : Bool) (H : Heap) (locs : List Loc) (ls : Array Slot), lv_has ls 7 [(5, .int (zI b5)), (3, .int v1), (1, .int x1)] → va_P D vwCl (wM ad cI cB S) H → va_S (AX 11 ad s.heap.size) s.heap H locs → K6 b6 = some (ro, So) → W p l e rmX7_fits s m ([.int x0, .int x1, .int x2] : List Value).toArray below meth c H locs 0 0 (MQ below (uQ D (wM ad cI cB) (some (.int (zI ro)), So) (AX 11 ad s.heap.size)) ([.int x0, .int x1, .int x2] : List Value).toArray s 0 0 (AX 11 ad s.heap.size)) (F0 m 89 ls [.int (zI b6)])) ?_ (fun K6 J6 hs => ?_)
          · intro b6 H locs ls hl hP hS hs
            refine lv_istore (lv' := [(6, .int (zI b6)), (5, .int (zI b5)), (3, .int v1), (1, .int x1)]) hx hb dX7_fits_89 hl (by decide) rfl (fun ls hl => ?_)
            refine lv_iload_n hx hb dX7_fits_91 rfl (lv_at hl 3 rfl) ?_
            by_cases c46 : x1 = 0
            · have hs := if_t c46 hs
              refine u_table (k := 0) (a := 0) (off := 40) (tgt := 132) hx hb dX7_fits_92 c46 (by decide) (by decide) (by decide) (by decide) (by decide) ?_
              refine lv_iconst (v := 1) hx hb dX7_fits_132 (by decide) ?_
              exact u_zret (v := true) hx hb hr hlocks hP hS hs dX7_fits_133
            have hs := if_f c46 hs
            by_cases c47 : x1 = 1
            · have hs := if_t c47 hs
              refine u_table (k := 1) (a := 1) (off := 42) (tgt := 134) hx hb dX7_fits_92 c47 (by decide) (by decide) (by decide) (by decide) (by decide) ?_
              refine lv_iload_n hx hb dX7_fits_134 rfl (lv_at hl 2 rfl) ?_
              refine lv_iconst (v := 1) hx hb dX7_fits_135 (by decide) ?_
              refine lv_icmp_eq (tgt := 143) hx hb dX7_fits_136 (by decide) (fun c48 => ?_) (fun c48 => ?_)
              · have hs := if_t c48 hs
                refine lv_iconst (v := 0) hx hb dX7_fits_143 (by decide) ?_
                exact u_zret (v := false) hx hb hr hlocks hP hS hs dX7_fits_144
              · have hs := if_f c48 hs
                refine lv_iconst (v := 1) hx hb dX7_fits_139 (by decide) ?_
                refine lv_goto (tgt := 144) hx hb dX7_fits_140 (by decide) ?_
                exact u_zret (v := true) hx hb hr hlocks hP hS hs dX7_fits_144
            have hs := if_f c47 hs
            by_cases c49 : x1 = 2
            · have hs := if_t c49 hs
              refine u_table (k := 2) (a := 2) (off := 53) (tgt := 145) hx hb dX7_fits_92 c49 (by decide) (by decide) (by decide) (by decide) (by decide) ?_
              refine lv_iload_n hx hb dX7_fits_145 rfl (lv_at hl 2 rfl) ?_
              refine lv_iconst (v := 1) hx hb dX7_fits_146 (by decide) ?_
              refine lv_icmp_le (tgt := 159) hx hb dX7_fits_147 (by decide) (fun c50 => ?_) (fun c50 => ?_)
              · have hs := if_t c50 hs
                refine lv_iconst (v := 0) hx hb dX7_fits_159 (by decide) ?_
                exact u_zret (v := false) hx hb hr hlocks hP hS hs dX7_fits_160
              · have hs := if_f c50 hs
                refine lv_iload hx hb dX7_fits_150 (lv_at hl 1 rfl) ?_
                refine lv_if_eq (tgt := 159) hx hb dX7_fits_152 (by decide) (fun c51 => ?_) (fun c51 => ?_)
                · have hs := if_t c51 hs
                  refine lv_iconst (v := 0) hx hb dX7_fits_159 (by decide) ?_
                  exact u_zret (v := false) hx hb hr hlocks hP hS hs dX7_fits_160
                · have hs := if_f c51 hs
                  refine lv_iconst (v := 1) hx hb dX7_fits_155 (by decide) ?_
                  refine lv_goto (tgt := 160) hx hb dX7_fits_156 (by decide) ?_
                  exact u_zret (v := true) hx hb hr hlocks hP hS hs dX7_fits_160
            have hs := if_f c49 hs
            by_cases c52 : x1 = 3
            · have hs := if_t c52 hs
              refine u_table (k := 3) (a := 3) (off := 69) (tgt := 161) hx hb dX7_fits_92 c52 (by decide) (by decide) (by decide) (by decide) (by decide) ?_
              refine lv_iload hx hb dX7_fits_161 (lv_at hl 0 rfl) ?_
              exact u_zret (v := b6) hx hb hr hlocks hP hS hs dX7_fits_163
            have hs := if_f c52 hs
            by_cases c53 : x1 = 4
            · have hs := if_t c53 hs
              refine u_table (k := 4) (a := 4) (off := 72) (tgt := 164) hx hb dX7_fits_92 c53 (by decide) (by decide) (by decide) (by decide) (by decide) ?_
              refine lv_iload_n hx hb dX7_fits_164 rfl (lv_at hl 2 rfl) ?_
              refine lv_iconst (v := 1) hx hb dX7_fits_165 (by decide) ?_
              refine lv_icmp_eq (tgt := 178) hx hb dX7_fits_166 (by decide) (fun c54 => ?_) (fun c54 => ?_)
              · have hs := if_t c54 hs
                refine lv_iconst (v := 0) hx hb dX7_fits_178 (by decide) ?_
                exact u_zret (v := false) hx hb hr hlocks hP hS hs dX7_fits_179
              · have hs := if_f c54 hs
                refine lv_iload hx hb dX7_fits_169 (lv_at hl 1 rfl) ?_
                refine lv_if_eq (tgt := 178) hx hb dX7_fits_171 (by decide) (fun c55 => ?_) (fun c55 => ?_)
                · have hs := if_t c55 hs
                  refine lv_iconst (v := 0) hx hb dX7_fits_178 (by decide) ?_
                  exact u_zret (v := false) hx hb hr hlocks hP hS hs dX7_fits_179
                · have hs := if_f c55 hs
                  refine lv_iconst (v := 1) hx hb dX7_fits_174 (by decide) ?_
                  refine lv_goto (tgt := 179) hx hb dX7_fits_175 (by decide) ?_
                  exact u_zret (v := true) hx hb hr hlocks hP hS hs dX7_fits_179
            have hs := if_f c53 hs
            by_cases c56 : x1 = 5
            · have hs := if_t c56 hs
              refine u_table (k := 5) (a := 5) (off := 88) (tgt := 180) hx hb dX7_fits_92 c56 (by decide) (by decide) (by decide) (by decide) (by decide) ?_
              refine lv_iload hx hb dX7_fits_180 (lv_at hl 1 rfl) ?_
              exact u_zret (v := b5) hx hb hr hlocks hP hS hs dX7_fits_182
            have hs := if_f c56 hs
            refine u_tableD (tgt := 183) hx hb dX7_fits_92 (fun hlo hhi => ?_) (by decide) ?_
            · have hz : (x1).toInt = 0 ∨ (x1).toInt = 1 ∨ (x1).toInt = 2 ∨ (x1).toInt = 3 ∨ (x1).toInt = 4 ∨ (x1).toInt = 5 := by omega
              rcases hz with hz | hz | hz | hz | hz | hz
              · exact absurd hz (lv_neT c46 (by decide))
              · exact absurd hz (lv_neT c47 (by decide))
              · exact absurd hz (lv_neT c49 (by decide))
              · exact absurd hz (lv_neT c52 (by decide))
              · exact absurd hz (lv_neT c53 (by decide))
              · exact absurd hz (lv_neT c56 (by decide))
            refine lv_iload hx hb dX7_fits_183 (lv_at hl 0 rfl) ?_
            refine lv_if_eq (tgt := 197) hx hb dX7_fits_185 (by decide) (fun c57 => ?_) (fun c57 => ?_)
            · have hs := if_t c57 hs
              refine lv_iconst (v := 0) hx hb dX7_fits_197 (by decide) ?_
              exact u_zret (v := false) hx hb hr hlocks hP hS hs dX7_fits_198
            · have hs := if_f c57 hs
              refine lv_iload hx hb dX7_fits_188 (lv_at hl 1 rfl) ?_
              refine lv_if_eq (tgt := 197) hx hb dX7_fits_190 (by decide) (fun c58 => ?_) (fun c58 => ?_)
              · have hs := if_t c58 hs
                refine lv_iconst (v := 0) hx hb dX7_fits_197 (by decide) ?_
                exact u_zret (v := false) hx hb hr hlocks hP hS hs dX7_fits_198
              · have hs := if_f c58 hs
                refine lv_iconst (v := 1) hx hb dX7_fits_193 (by decide) ?_
                refine lv_goto (tgt := 198) hx hb dX7_fits_194 (by decide) ?_
                exact u_zret (v := true) hx hb hr hlocks hP hS hs dX7_fits_198
          ·
            refine lv_icmp_eq (tgt := 84) hx hb dX7_fits_58 (by decide) (fun c59 => ?_) (fun c59 => ?_)
            · have hs := if_t c59 hs
              refine lv_iconst (v := 1) hx hb dX7_fits_84 (by decide) ?_
              refine lv_goto (tgt := 89) hx hb dX7_fits_85 (by decide) ?_
              exact J6 true _ _ _ (lv_sub hl [0, 2, 3] rfl) hP hS hs
            · have hs := if_f c59 hs
              refine lv_iload_n hx hb dX7_fits_61 rfl (lv_at hl 2 rfl) ?_
              refine lv_iconst (v := 5) hx hb dX7_fits_62 (by decide) ?_
              refine lv_icmp_eq (tgt := 84) hx hb dX7_fits_63 (by decide) (fun c60 => ?_) (fun c60 => ?_)
              · have hs := if_t c60 hs
                refine lv_iconst (v := 1) hx hb dX7_fits_84 (by decide) ?_
                refine lv_goto (tgt := 89) hx hb dX7_fits_85 (by decide) ?_
                exact J6 true _ _ _ (lv_sub hl [0, 2, 3] rfl) hP hS hs
              · have hs := if_f c60 hs
                refine lv_iload_n hx hb dX7_fits_66 rfl (lv_at hl 2 rfl) ?_
                refine lv_bipush (v := 6) hx hb dX7_fits_67 (by decide) ?_
                refine lv_icmp_eq (tgt := 84) hx hb dX7_fits_69 (by decide) (fun c61 => ?_) (fun c61 => ?_)
                · have hs := if_t c61 hs
                  refine lv_iconst (v := 1) hx hb dX7_fits_84 (by decide) ?_
                  refine lv_goto (tgt := 89) hx hb dX7_fits_85 (by decide) ?_
                  exact J6 true _ _ _ (lv_sub hl [0, 2, 3] rfl) hP hS hs
                · have hs := if_f c61 hs
                  refine lv_iload_n hx hb dX7_fits_72 rfl (lv_at hl 2 rfl) ?_
                  refine lv_bipush (v := 7) hx hb dX7_fits_73 (by decide) ?_
                  refine lv_icmp_ne (tgt := 88) hx hb dX7_fits_75 (by decide) (fun c62 => ?_) (fun c62 => ?_)
                  · have hs := if_f c62 hs
                    refine lv_iconst (v := 0) hx hb dX7_fits_88 (by decide) ?_
                    exact J6 false _ _ _ (lv_sub hl [0, 2, 3] rfl) hP hS hs
                  · have hs := if_t c62 hs
                    refine lv_iload hx hb dX7_fits_78 (lv_at hl 1 rfl) ?_
                    refine lv_iconst (v := 4) hx hb dX7_fits_80 (by decide) ?_
                    refine lv_icmp_ge (tgt := 88) hx hb dX7_fits_81 (by decide) (fun c63 => ?_) (fun c63 => ?_)
                    · have hs := if_t c63 hs
                      refine lv_iconst (v := 0) hx hb dX7_fits_88 (by decide) ?_
                      exact J6 false _ _ _ (lv_sub hl [0, 2, 3] rfl) hP hS hs
                    · have hs := if_f c63 hs
                      refine lv_iconst (v := 1) hx hb dX7_fits_84 (by decide) ?_
                      refine lv_goto (tgt := 89) hx hb dX7_fits_85 (by decide) ?_
                      exact J6 true _ _ _ (lv_sub hl [0, 2, 3] rfl) hP hS hs
        ·
          refine lv_icmp_lt (tgt := 49) hx hb dX7_fits_40 (by decide) (fun c64 => ?_) (fun c64 => ?_)
          · have hs := if_t c64 hs
            refine lv_iconst (v := 1) hx hb dX7_fits_49 (by decide) ?_
            refine lv_goto (tgt := 54) hx hb dX7_fits_50 (by decide) ?_
            exact J5 true _ _ _ (lv_sub hl [0, 1, 3] rfl) hP hS hs
          · have hs := if_f c64 hs
            refine lv_iload hx hb dX7_fits_43 (lv_at hl 0 rfl) ?_
            refine lv_iconst (v := 2) hx hb dX7_fits_45 (by decide) ?_
            refine lv_icmp_ge (tgt := 53) hx hb dX7_fits_46 (by decide) (fun c65 => ?_) (fun c65 => ?_)
            · have hs := if_t c65 hs
              refine lv_iconst (v := 0) hx hb dX7_fits_53 (by decide) ?_
              exact J5 false _ _ _ (lv_sub hl [0, 1, 3] rfl) hP hS hs
            · have hs := if_f c65 hs
              refine lv_iconst (v := 1) hx hb dX7_fits_49 (by decide) ?_
              refine lv_goto (tgt := 54) hx hb dX7_fits_50 (by decide) ?_
              exact J5 true _ _ _ (lv_sub hl [0, 1, 3] rfl) hP hS hs
      · have hs := if_t c45 hs
        refine lv_iload_n hx hb dX7_fits_30 rfl (lv_at hl 4 rfl) ?_
        refine lv_iconst (v := 1) hx hb dX7_fits_31 (by decide) ?_
        refine lv_icmp_ne (tgt := 37) hx hb dX7_fits_32 (by decide) (fun c66 => ?_) (fun c66 => ?_)
        · have hs := if_f c66 hs
          refine lv_iload_n hx hb dX7_fits_37 rfl (lv_at hl 1 rfl) ?_
          refine lv_bipush (v := 7) hx hb dX7_fits_38 (by decide) ?_
          refine jn_e hs (fun K7 => ∀ (b7 : Bool) (H : Heap) (locs : List Loc) (ls : Array Slot), lv_has ls 7 [(4, .int v2), (3, .int v1), (1, .int x1)] → va_P D vwCl (wM ad cI cB S) H → va_S (AX 11 ad s.heap.size) s.heap H locs → K7 b7 = some (ro, So) → W p l e rmX7_fits s m ([.int x0, .int x1, .int x2] : List Value).toArray below meth c H locs 0 0 (MQ below (uQ D (wM ad cI cB) (some (.int (zI ro)), So) (AX 11 ad s.heap.size)) ([.int x0, .int x1, .int x2] : List Value).toArray s 0 0 (AX 11 ad s.heap.size)) (F0 m 54 ls [.int (zI b7)])) ?_ (fun K7 J7 hs => ?_)
          · intro b7 H locs ls hl hP hS hs
            refine lv_istore (lv' := [(5, .int (zI b7)), (4, .int v2), (3, .int v1), (1, .int x1)]) hx hb dX7_fits_54 hl (by decide) rfl (fun ls hl => ?_)
            refine lv_iload_n hx hb dX7_fits_56 rfl (lv_at hl 2 rfl) ?_
            refine lv_iconst (v := 2) hx hb dX7_fits_57 (by decide) ?_
            refine jn_e hs (fun K8 => ∀ (b8 : Bool) (H : Heap) (locs : List Loc) (ls : Array Slot), lv_has ls 7 [(5, .int (zI b7)), (3, .int v1), (1, .int x1)] → va_P D vwCl (wM ad cI cB S) H → va_S (AX 11 ad s.heap.size) s.heap H locs → K8 b8 = some (ro, So) → W p l e rmX7_fits s m ([.int x0, .int x1, .int x2] : List Value).toArray below meth c H locs 0 0 (MQ below (uQ D (wM ad cI cB) (some (.int (zI ro)), So) (AX 11 ad s.heap.size)) ([.int x0, .int x1, .int x2] : List Value).toArray s 0 0 (AX 11 ad s.heap.size)) (F0 m 89 ls [.int (zI b8)])) ?_ (fun K8 J8 hs => ?_)
            · intro b8 H locs ls hl hP hS hs
              refine lv_istore (lv' := [(6, .int (zI b8)), (5, .int (zI b7)), (3, .int v1), (1, .int x1)]) hx hb dX7_fits_89 hl (by decide) rfl (fun ls hl => ?_)
              refine lv_iload_n hx hb dX7_fits_91 rfl (lv_at hl 3 rfl) ?_
              by_cases c67 : x1 = 0
              · have hs := if_t c67 hs
                refine u_table (k := 0) (a := 0) (off := 40) (tgt := 132) hx hb dX7_fits_92 c67 (by decide) (by decide) (by decide) (by decide) (by decide) ?_
                refine lv_iconst (v := 1) hx hb dX7_fits_132 (by decide) ?_
                exact u_zret (v := true) hx hb hr hlocks hP hS hs dX7_fits_133
              have hs := if_f c67 hs
              by_cases c68 : x1 = 1
              · have hs := if_t c68 hs
                refine u_table (k := 1) (a := 1) (off := 42) (tgt := 134) hx hb dX7_fits_92 c68 (by decide) (by decide) (by decide) (by decide) (by decide) ?_
                refine lv_iload_n hx hb dX7_fits_134 rfl (lv_at hl 2 rfl) ?_
                refine lv_iconst (v := 1) hx hb dX7_fits_135 (by decide) ?_
                refine lv_icmp_eq (tgt := 143) hx hb dX7_fits_136 (by decide) (fun c69 => ?_) (fun c69 => ?_)
                · have hs := if_t c69 hs
                  refine lv_iconst (v := 0) hx hb dX7_fits_143 (by decide) ?_
                  exact u_zret (v := false) hx hb hr hlocks hP hS hs dX7_fits_144
                · have hs := if_f c69 hs
                  refine lv_iconst (v := 1) hx hb dX7_fits_139 (by decide) ?_
                  refine lv_goto (tgt := 144) hx hb dX7_fits_140 (by decide) ?_
                  exact u_zret (v := true) hx hb hr hlocks hP hS hs dX7_fits_144
              have hs := if_f c68 hs
              by_cases c70 : x1 = 2
              · have hs := if_t c70 hs
                refine u_table (k := 2) (a := 2) (off := 53) (tgt := 145) hx hb dX7_fits_92 c70 (by decide) (by decide) (by decide) (by decide) (by decide) ?_
                refine lv_iload_n hx hb dX7_fits_145 rfl (lv_at hl 2 rfl) ?_
                refine lv_iconst (v := 1) hx hb dX7_fits_146 (by decide) ?_
                refine lv_icmp_le (tgt := 159) hx hb dX7_fits_147 (by decide) (fun c71 => ?_) (fun c71 => ?_)
                · have hs := if_t c71 hs
                  refine lv_iconst (v := 0) hx hb dX7_fits_159 (by decide) ?_
                  exact u_zret (v := false) hx hb hr hlocks hP hS hs dX7_fits_160
                · have hs := if_f c71 hs
                  refine lv_iload hx hb dX7_fits_150 (lv_at hl 1 rfl) ?_
                  refine lv_if_eq (tgt := 159) hx hb dX7_fits_152 (by decide) (fun c72 => ?_) (fun c72 => ?_)
                  · have hs := if_t c72 hs
                    refine lv_iconst (v := 0) hx hb dX7_fits_159 (by decide) ?_
                    exact u_zret (v := false) hx hb hr hlocks hP hS hs dX7_fits_160
                  · have hs := if_f c72 hs
                    refine lv_iconst (v := 1) hx hb dX7_fits_155 (by decide) ?_
                    refine lv_goto (tgt := 160) hx hb dX7_fits_156 (by decide) ?_
                    exact u_zret (v := true) hx hb hr hlocks hP hS hs dX7_fits_160
              have hs := if_f c70 hs
              by_cases c73 : x1 = 3
              · have hs := if_t c73 hs
                refine u_table (k := 3) (a := 3) (off := 69) (tgt := 161) hx hb dX7_fits_92 c73 (by decide) (by decide) (by decide) (by decide) (by decide) ?_
                refine lv_iload hx hb dX7_fits_161 (lv_at hl 0 rfl) ?_
                exact u_zret (v := b8) hx hb hr hlocks hP hS hs dX7_fits_163
              have hs := if_f c73 hs
              by_cases c74 : x1 = 4
              · have hs := if_t c74 hs
                refine u_table (k := 4) (a := 4) (off := 72) (tgt := 164) hx hb dX7_fits_92 c74 (by decide) (by decide) (by decide) (by decide) (by decide) ?_
                refine lv_iload_n hx hb dX7_fits_164 rfl (lv_at hl 2 rfl) ?_
                refine lv_iconst (v := 1) hx hb dX7_fits_165 (by decide) ?_
                refine lv_icmp_eq (tgt := 178) hx hb dX7_fits_166 (by decide) (fun c75 => ?_) (fun c75 => ?_)
                · have hs := if_t c75 hs
                  refine lv_iconst (v := 0) hx hb dX7_fits_178 (by decide) ?_
                  exact u_zret (v := false) hx hb hr hlocks hP hS hs dX7_fits_179
                · have hs := if_f c75 hs
                  refine lv_iload hx hb dX7_fits_169 (lv_at hl 1 rfl) ?_
                  refine lv_if_eq (tgt := 178) hx hb dX7_fits_171 (by decide) (fun c76 => ?_) (fun c76 => ?_)
                  · have hs := if_t c76 hs
                    refine lv_iconst (v := 0) hx hb dX7_fits_178 (by decide) ?_
                    exact u_zret (v := false) hx hb hr hlocks hP hS hs dX7_fits_179
                  · have hs := if_f c76 hs
                    refine lv_iconst (v := 1) hx hb dX7_fits_174 (by decide) ?_
                    refine lv_goto (tgt := 179) hx hb dX7_fits_175 (by decide) ?_
                    exact u_zret (v := true) hx hb hr hlocks hP hS hs dX7_fits_179
              have hs := if_f c74 hs
              by_cases c77 : x1 = 5
              · have hs := if_t c77 hs
                refine u_table (k := 5) (a := 5) (off := 88) (tgt := 180) hx hb dX7_fits_92 c77 (by decide) (by decide) (by decide) (by decide) (by decide) ?_
                refine lv_iload hx hb dX7_fits_180 (lv_at hl 1 rfl) ?_
                exact u_zret (v := b7) hx hb hr hlocks hP hS hs dX7_fits_182
              have hs := if_f c77 hs
              refine u_tableD (tgt := 183) hx hb dX7_fits_92 (fun hlo hhi => ?_) (by decide) ?_
              · have hz : (x1).toInt = 0 ∨ (x1).toInt = 1 ∨ (x1).toInt = 2 ∨ (x1).toInt = 3 ∨ (x1).toInt = 4 ∨ (x1).toInt = 5 := by omega
                rcases hz with hz | hz | hz | hz | hz | hz
                · exact absurd hz (lv_neT c67 (by decide))
                · exact absurd hz (lv_neT c68 (by decide))
                · exact absurd hz (lv_neT c70 (by decide))
                · exact absurd hz (lv_neT c73 (by decide))
                · exact absurd hz (lv_neT c74 (by decide))
                · exact absurd hz (lv_neT c77 (by decide))
              refine lv_iload hx hb dX7_fits_183 (lv_at hl 0 rfl) ?_
              refine lv_if_eq (tgt := 197) hx hb dX7_fits_185 (by decide) (fun c78 => ?_) (fun c78 => ?_)
              · have hs := if_t c78 hs
                refine lv_iconst (v := 0) hx hb dX7_fits_197 (by decide) ?_
                exact u_zret (v := false) hx hb hr hlocks hP hS hs dX7_fits_198
              · have hs := if_f c78 hs
                refine lv_iload hx hb dX7_fits_188 (lv_at hl 1 rfl) ?_
                refine lv_if_eq (tgt := 197) hx hb dX7_fits_190 (by decide) (fun c79 => ?_) (fun c79 => ?_)
                · have hs := if_t c79 hs
                  refine lv_iconst (v := 0) hx hb dX7_fits_197 (by decide) ?_
                  exact u_zret (v := false) hx hb hr hlocks hP hS hs dX7_fits_198
                · have hs := if_f c79 hs
                  refine lv_iconst (v := 1) hx hb dX7_fits_193 (by decide) ?_
                  refine lv_goto (tgt := 198) hx hb dX7_fits_194 (by decide) ?_
                  exact u_zret (v := true) hx hb hr hlocks hP hS hs dX7_fits_198
            ·
              refine lv_icmp_eq (tgt := 84) hx hb dX7_fits_58 (by decide) (fun c80 => ?_) (fun c80 => ?_)
              · have hs := if_t c80 hs
                refine lv_iconst (v := 1) hx hb dX7_fits_84 (by decide) ?_
                refine lv_goto (tgt := 89) hx hb dX7_fits_85 (by decide) ?_
                exact J8 true _ _ _ (lv_sub hl [0, 2, 3] rfl) hP hS hs
              · have hs := if_f c80 hs
                refine lv_iload_n hx hb dX7_fits_61 rfl (lv_at hl 2 rfl) ?_
                refine lv_iconst (v := 5) hx hb dX7_fits_62 (by decide) ?_
                refine lv_icmp_eq (tgt := 84) hx hb dX7_fits_63 (by decide) (fun c81 => ?_) (fun c81 => ?_)
                · have hs := if_t c81 hs
                  refine lv_iconst (v := 1) hx hb dX7_fits_84 (by decide) ?_
                  refine lv_goto (tgt := 89) hx hb dX7_fits_85 (by decide) ?_
                  exact J8 true _ _ _ (lv_sub hl [0, 2, 3] rfl) hP hS hs
                · have hs := if_f c81 hs
                  refine lv_iload_n hx hb dX7_fits_66 rfl (lv_at hl 2 rfl) ?_
                  refine lv_bipush (v := 6) hx hb dX7_fits_67 (by decide) ?_
                  refine lv_icmp_eq (tgt := 84) hx hb dX7_fits_69 (by decide) (fun c82 => ?_) (fun c82 => ?_)
                  · have hs := if_t c82 hs
                    refine lv_iconst (v := 1) hx hb dX7_fits_84 (by decide) ?_
                    refine lv_goto (tgt := 89) hx hb dX7_fits_85 (by decide) ?_
                    exact J8 true _ _ _ (lv_sub hl [0, 2, 3] rfl) hP hS hs
                  · have hs := if_f c82 hs
                    refine lv_iload_n hx hb dX7_fits_72 rfl (lv_at hl 2 rfl) ?_
                    refine lv_bipush (v := 7) hx hb dX7_fits_73 (by decide) ?_
                    refine lv_icmp_ne (tgt := 88) hx hb dX7_fits_75 (by decide) (fun c83 => ?_) (fun c83 => ?_)
                    · have hs := if_f c83 hs
                      refine lv_iconst (v := 0) hx hb dX7_fits_88 (by decide) ?_
                      exact J8 false _ _ _ (lv_sub hl [0, 2, 3] rfl) hP hS hs
                    · have hs := if_t c83 hs
                      refine lv_iload hx hb dX7_fits_78 (lv_at hl 1 rfl) ?_
                      refine lv_iconst (v := 4) hx hb dX7_fits_80 (by decide) ?_
                      refine lv_icmp_ge (tgt := 88) hx hb dX7_fits_81 (by decide) (fun c84 => ?_) (fun c84 => ?_)
                      · have hs := if_t c84 hs
                        refine lv_iconst (v := 0) hx hb dX7_fits_88 (by decide) ?_
                        exact J8 false _ _ _ (lv_sub hl [0, 2, 3] rfl) hP hS hs
                      · have hs := if_f c84 hs
                        refine lv_iconst (v := 1) hx hb dX7_fits_84 (by decide) ?_
                        refine lv_goto (tgt := 89) hx hb dX7_fits_85 (by decide) ?_
                        exact J8 true _ _ _ (lv_sub hl [0, 2, 3] rfl) hP hS hs
          ·
            refine lv_icmp_lt (tgt := 49) hx hb dX7_fits_40 (by decide) (fun c85 => ?_) (fun c85 => ?_)
            · have hs := if_t c85 hs
              refine lv_iconst (v := 1) hx hb dX7_fits_49 (by decide) ?_
              refine lv_goto (tgt := 54) hx hb dX7_fits_50 (by decide) ?_
              exact J7 true _ _ _ (lv_sub hl [0, 1, 3] rfl) hP hS hs
            · have hs := if_f c85 hs
              refine lv_iload hx hb dX7_fits_43 (lv_at hl 0 rfl) ?_
              refine lv_iconst (v := 2) hx hb dX7_fits_45 (by decide) ?_
              refine lv_icmp_ge (tgt := 53) hx hb dX7_fits_46 (by decide) (fun c86 => ?_) (fun c86 => ?_)
              · have hs := if_t c86 hs
                refine lv_iconst (v := 0) hx hb dX7_fits_53 (by decide) ?_
                exact J7 false _ _ _ (lv_sub hl [0, 1, 3] rfl) hP hS hs
              · have hs := if_f c86 hs
                refine lv_iconst (v := 1) hx hb dX7_fits_49 (by decide) ?_
                refine lv_goto (tgt := 54) hx hb dX7_fits_50 (by decide) ?_
                exact J7 true _ _ _ (lv_sub hl [0, 1, 3] rfl) hP hS hs
        · have hs := if_t c66 hs
          refine lv_iconst (v := 0) hx hb dX7_fits_35 (by decide) ?_
          exact u_zret (v := false) hx hb hr hlocks hP hS hs dX7_fits_36
theorem kX7_fits {p : Program} {l : Launch} {e : Env} {R : Room} {s : State} {m : MethodId} {args : Array Value} {below : List Frame} {meth : Method} {c : Code} {H : Heap} {locs : List Loc} {cells slots : Nat} {Q : State → Prop} {cc : ByteArray} {pc nL : Nat} {ls : Array Slot} {rest : List Value} {D : va_G} {ad : Nat → Nat} {cI cB : ClassId} {en : Nat → Nat} {S : St} {own : String} {index : Nat} {x0 : Int32} {x1 : Int32} {x2 : Int32} {ro : Bool} {So : St} (C : CallFix p m c cc nL s args wG own) (hlk : Cond.methodLink own index yX7_fits ∈ wG) (hR : rmX7_fits.frames + 1 ≤ R.frames ∧ 8 + (7 + 11) + rmX7_fits.locals ≤ R.locals) (hc : cells ≤ R.cells ∧ slots ≤ R.slots) (hK : KM D ad cI cB en s) (hP : va_P D vwCl (wM ad cI cB S) H) (hS : va_S (AX 11 ad s.heap.size) s.heap H locs) (hls : ls.size = nL) (hrest : (rest.map fun v => v.category).sum ≤ 8) (hd : decode cc pc = .ok (.invokestatic index, 3)) (hs : fX7_fits x0 x1 x2 S = some (ro, So)) (k : ∀ (H : Heap) (locs : List Loc), va_P D vwCl (wM ad cI cB So) H → va_S (AX 11 ad s.heap.size) s.heap H locs → W p l e R s m args below meth c H locs cells slots Q (F0 m (pc + 3) ls (.int (zI ro) :: rest))) : W p l e R s m args below meth c H locs cells slots Q (F0 m pc ls (.int x2 :: .int x1 :: .int x0 :: rest)) :=
  u_callS (n := 3) (mX7_fits l D ad cI cB en S x0 x1 x2 ro So hs) C uK_M (wg_S hlk tI_X7_fits tN_X7 tK_X7_fits) rfl rfl rfl (by decide +kernel) hR rfl hK hP hS hls hrest hd hc rfl k
