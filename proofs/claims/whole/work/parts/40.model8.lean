def fX7_takeBack_b3  (k3 : Int32 → St → Option St) (v4 : Int32) (S7 : St) : Option St :=
    (if v4 < 0 then (lt (sI S7 11 0) fun S8 => (some S8))
    else (gd (ixo v4 400 = true) (gd (ixo v4 400 = true) (gd (ixo (S7.2.2 8 v4.toNatClampNeg) 4096 = true) (lt (sA S7 0 (S7.2.2 8 v4.toNatClampNeg).toNatClampNeg (S7.2.2 9 v4.toNatClampNeg)) fun S9 => (lt (v4 + (-1)) fun v5 => (k3 v5 S9)))))))
def fX7_takeBack_l3  : Nat → Int32 → St → Option St
  | 0 => fun _ _ => none
  | n + 1 => fX7_takeBack_b3  (fX7_takeBack_l3  n)
def fX7_takeBack_b2  (k2 : Int32 → St → Option St) (v2 : Int32) (S2 : St) : Option St :=
    (if 7 ≤ v2 then (gd (ixo 0 2 = true) (gd (ixo 0 2 = true) (lt (sA S2 3 (0 : Int32).toNatClampNeg (S2.2.2 7 (0 : Int32).toNatClampNeg)) fun S3 => (gd (ixo 1 2 = true) (gd (ixo 1 2 = true) (lt (sA S3 3 (1 : Int32).toNatClampNeg (S3.2.2 7 (1 : Int32).toNatClampNeg)) fun S4 => (lt (sI S4 1 (S4.1 9)) fun S5 => (lt (sI S5 2 (S5.1 10)) fun S6 => (lt (((S6.1 11) - 1) : Int32) fun v3 => (fX7_takeBack_l3  401 v3 S6))))))))))
    else (gd (ixo v2 7 = true) (gd (ixo v2 7 = true) (lt (sA S2 2 v2.toNatClampNeg (S2.2.2 6 v2.toNatClampNeg)) fun S10 => (lt (v2 + 1) fun v6 => (k2 v6 S10))))))
def fX7_takeBack_l2  : Nat → Int32 → St → Option St
  | 0 => fun _ _ => none
  | n + 1 => fX7_takeBack_b2  (fX7_takeBack_l2  n)
def fX7_takeBack_b1  (k1 : Int32 → St → Option St) (v1 : Int32) (S1 : St) : Option St :=
    (if 8 ≤ v1 then (fX7_takeBack_l2  401 0 S1)
    else (gd (ixo v1 8 = true) (gd (ixo v1 8 = true) (lt (sA S1 1 v1.toNatClampNeg (S1.2.2 5 v1.toNatClampNeg)) fun S11 => (lt (v1 + 1) fun v7 => (k1 v7 S11))))))
def fX7_takeBack_l1  : Nat → Int32 → St → Option St
  | 0 => fun _ _ => none
  | n + 1 => fX7_takeBack_b1  (fX7_takeBack_l1  n)
def fX7_takeBack  (S : St) : Option St :=
    (fX7_takeBack_l1  401 0 S)
abbrev rmX7_takeBack : Room := { frames := 0, cells := 0, slots := 0, locals := 0 }
set_option maxRecDepth 100000 in
set_option maxHeartbeats 4000000 in
theorem mX7_takeBack (l : Launch) (D : va_G) (ad : Nat → Nat) (cI cB : ClassId) (en : Nat → Nat) (S : St)  (So : St) (hs : fX7_takeBack  S = some So) : uM l yX7_takeBack (wg yX7_takeBack cX7_takeBack 2 none) rmX7_takeBack (KM D ad cI cB en) D (wM ad cI cB) (AX 11 ad) [.ref (ad 0)] S (none, So) := by
  refine uM_start (by decide) rfl ?_
  intro p e s m below meth c hx hb hr hlocks hml hown hts hK hP
  have hT : ∀ w ∈ wG, w.before _ s = true := fun w h => hts w (List.mem_cons_of_mem _ h)
  have hS : va_S (AX 11 ad s.heap.size) s.heap s.heap [] := va_S.rf
  have hown : s.vm.findClass RX7 = some m.cls := hown
  have C : CallFix p m c cX7_takeBack 2 s _ wG RX7 := ⟨hx, hb, hml, hown, hT⟩
  have hl := lv_entry ([.ref (ad 0)]) (n := 2) (Nat.le_of_ble_eq_true rfl)
  rw [lg_entry_eq]
  generalize (lg_sl ([.ref (ad 0)]) ++ List.replicate (2 - (lg_sl ([.ref (ad 0)])).length) Slot.unset).toArray = ls at hl ⊢
  have hl : lv_has ls 2 [(0, .ref (ad 0))] := hl
  unfold fX7_takeBack at hs
  refine lv_iconst (v := 0) hx hb dX7_takeBack_0 (by decide) ?_
  refine lv_istore_n (lv' := [(1, .int 0), (0, .ref (ad 0))]) hx hb dX7_takeBack_1 rfl hl (by decide) rfl (fun ls hl => ?_)
  have L3 : ∀ (n : Nat) (v1 : Int32) (S1 : St) (H : Heap) (locs : List Loc) (ls : Array Slot), lv_has ls 2 [(1, .int v1), (0, .ref (ad 0))] → va_P D vwCl (wM ad cI cB S1) H → va_S (AX 11 ad s.heap.size) s.heap H locs → fX7_takeBack_l1  n v1 S1 = some So → W p l e rmX7_takeBack s m ([.ref (ad 0)] : List Value).toArray below meth c H locs 0 0 (MQ below (uQ D (wM ad cI cB) (none, So) (AX 11 ad s.heap.size)) ([.ref (ad 0)] : List Value).toArray s 0 0 (AX 11 ad s.heap.size)) (F0 m 2 ls []) := by
    intro n
    induction n with
    | zero => intro v1 S1 H locs ls hl hP hS hs; cases hs
    | succ n ih =>
      intro v1 S1 H locs ls hl hP hS hs
      have hs : fX7_takeBack_b1  (fX7_takeBack_l1  n) v1 S1 = some So := hs
      unfold fX7_takeBack_b1 at hs
      refine lv_iload_n hx hb dX7_takeBack_2 rfl (lv_at hl 0 rfl) ?_
      refine lv_bipush (v := 8) hx hb dX7_takeBack_3 (by decide) ?_
      refine lv_icmp_ge (tgt := 26) hx hb dX7_takeBack_5 (by decide) (fun c1 => ?_) (fun c1 => ?_)
      · have hs := if_t c1 hs
        refine lv_iconst (v := 0) hx hb dX7_takeBack_26 (by decide) ?_
        refine lv_istore_n (lv' := [(1, .int 0), (0, .ref (ad 0))]) hx hb dX7_takeBack_27 rfl hl (by decide) rfl (fun ls hl => ?_)
        have L2 : ∀ (n : Nat) (v2 : Int32) (S2 : St) (H : Heap) (locs : List Loc) (ls : Array Slot), lv_has ls 2 [(1, .int v2), (0, .ref (ad 0))] → va_P D vwCl (wM ad cI cB S2) H → va_S (AX 11 ad s.heap.size) s.heap H locs → fX7_takeBack_l2  n v2 S2 = some So → W p l e rmX7_takeBack s m ([.ref (ad 0)] : List Value).toArray below meth c H locs 0 0 (MQ below (uQ D (wM ad cI cB) (none, So) (AX 11 ad s.heap.size)) ([.ref (ad 0)] : List Value).toArray s 0 0 (AX 11 ad s.heap.size)) (F0 m 28 ls []) := by
          intro n
          induction n with
          | zero => intro v2 S2 H locs ls hl hP hS hs; cases hs
          | succ n ih =>
            intro v2 S2 H locs ls hl hP hS hs
            have hs : fX7_takeBack_b2  (fX7_takeBack_l2  n) v2 S2 = some So := hs
            unfold fX7_takeBack_b2 at hs
            refine lv_iload_n hx hb dX7_takeBack_28 rfl (lv_at hl 0 rfl) ?_
            refine lv_bipush (v := 7) hx hb dX7_takeBack_29 (by decide) ?_
            refine lv_icmp_ge (tgt := 52) hx hb dX7_takeBack_31 (by decide) (fun c2 => ?_) (fun c2 => ?_)
            · have hs := if_t c2 hs
              refine lv_aload_n hx hb dX7_takeBack_52 rfl (lv_at hl 1 rfl) ?_
              refine gM_X7_stack hx hb hT hown hK hP (hT _ tF_X7_19) dX7_takeBack_53 ?_
              refine lv_iconst (v := 0) hx hb dX7_takeBack_56 (by decide) ?_
              refine lv_aload_n hx hb dX7_takeBack_57 rfl (lv_at hl 1 rfl) ?_
              refine gM_X7_wasStack hx hb hT hown hK hP (hT _ tF_X7_31) dX7_takeBack_58 ?_
              refine lv_iconst (v := 0) hx hb dX7_takeBack_61 (by decide) ?_
              obtain ⟨h1, hs⟩ := gd_e hs
              refine lM_wasStack hx hb hK hP (ixo_in h1) dX7_takeBack_62 ?_
              obtain ⟨h2, hs⟩ := gd_e hs
              obtain ⟨S3, h3, hs⟩ := lt_e hs
              refine sM_stack hx hb hK hP hS (v := (S2.2.2 7 (0 : Int32).toNatClampNeg)) (ixo_in h2) dX7_takeBack_63 h3 (fun H locs hP hS => ?_)
              refine lv_aload_n hx hb dX7_takeBack_64 rfl (lv_at hl 1 rfl) ?_
              refine gM_X7_stack hx hb hT hown hK hP (hT _ tF_X7_19) dX7_takeBack_65 ?_
              refine lv_iconst (v := 1) hx hb dX7_takeBack_68 (by decide) ?_
              refine lv_aload_n hx hb dX7_takeBack_69 rfl (lv_at hl 1 rfl) ?_
              refine gM_X7_wasStack hx hb hT hown hK hP (hT _ tF_X7_31) dX7_takeBack_70 ?_
              refine lv_iconst (v := 1) hx hb dX7_takeBack_73 (by decide) ?_
              obtain ⟨h4, hs⟩ := gd_e hs
              refine lM_wasStack hx hb hK hP (ixo_in h4) dX7_takeBack_74 ?_
              obtain ⟨h5, hs⟩ := gd_e hs
              obtain ⟨S4, h6, hs⟩ := lt_e hs
              refine sM_stack hx hb hK hP hS (v := (S3.2.2 7 (1 : Int32).toNatClampNeg)) (ixo_in h5) dX7_takeBack_75 h6 (fun H locs hP hS => ?_)
              refine lv_aload_n hx hb dX7_takeBack_76 rfl (lv_at hl 1 rfl) ?_
              refine lv_aload_n hx hb dX7_takeBack_77 rfl (lv_at hl 1 rfl) ?_
              refine gM_X7_wasPc hx hb hT hown hK hP (hT _ tF_X7_328) dX7_takeBack_78 ?_
              obtain ⟨S5, h7, hs⟩ := lt_e hs
              refine pM_X7_pc hx hb hT hown hK hP hS (hT _ tF_X7_47) dX7_takeBack_81 (v := (S4.1 9)) h7 (fun H locs hP hS => ?_)
              refine lv_aload_n hx hb dX7_takeBack_84 rfl (lv_at hl 1 rfl) ?_
              refine lv_aload_n hx hb dX7_takeBack_85 rfl (lv_at hl 1 rfl) ?_
              refine gM_X7_wasSr hx hb hT hown hK hP (hT _ tF_X7_331) dX7_takeBack_86 ?_
              obtain ⟨S6, h8, hs⟩ := lt_e hs
              refine pM_X7_sr hx hb hT hown hK hP hS (hT _ tF_X7_50) dX7_takeBack_89 (v := (S5.1 10)) h8 (fun H locs hP hS => ?_)
              refine lv_aload_n hx hb dX7_takeBack_92 rfl (lv_at hl 1 rfl) ?_
              refine gM_X7_changes hx hb hT hown hK hP (hT _ tF_X7_79) dX7_takeBack_93 ?_
              refine lv_iconst (v := 1) hx hb dX7_takeBack_96 (by decide) ?_
              refine lv_isub hx hb dX7_takeBack_97 ?_
              obtain ⟨v3, h9, hs⟩ := lt_e hs
              refine u_top h9 ?_
              refine lv_istore_n (lv' := [(1, .int v3), (0, .ref (ad 0))]) hx hb dX7_takeBack_98 rfl hl (by decide) rfl (fun ls hl => ?_)
              have L1 : ∀ (n : Nat) (v4 : Int32) (S7 : St) (H : Heap) (locs : List Loc) (ls : Array Slot), lv_has ls 2 [(1, .int v4), (0, .ref (ad 0))] → va_P D vwCl (wM ad cI cB S7) H → va_S (AX 11 ad s.heap.size) s.heap H locs → fX7_takeBack_l3  n v4 S7 = some So → W p l e rmX7_takeBack s m ([.ref (ad 0)] : List Value).toArray below meth c H locs 0 0 (MQ below (uQ D (wM ad cI cB) (none, So) (AX 11 ad s.heap.size)) ([.ref (ad 0)] : List Value).toArray s 0 0 (AX 11 ad s.heap.size)) (F0 m 99 ls []) := by
                intro n
                induction n with
                | zero => intro v4 S7 H locs ls hl hP hS hs; cases hs
                | succ n ih =>
                  intro v4 S7 H locs ls hl hP hS hs
                  have hs : fX7_takeBack_b3  (fX7_takeBack_l3  n) v4 S7 = some So := hs
                  unfold fX7_takeBack_b3 at hs
                  refine lv_iload_n hx hb dX7_takeBack_99 rfl (lv_at hl 0 rfl) ?_
                  refine lv_if_lt (tgt := 126) hx hb dX7_takeBack_100 (by decide) (fun c3 => ?_) (fun c3 => ?_)
                  · have hs := if_t c3 hs
                    refine lv_aload_n hx hb dX7_takeBack_126 rfl (lv_at hl 1 rfl) ?_
                    refine lv_iconst (v := 0) hx hb dX7_takeBack_127 (by decide) ?_
                    obtain ⟨S8, h10, hs⟩ := lt_e hs
                    refine pM_X7_changes hx hb hT hown hK hP hS (hT _ tF_X7_79) dX7_takeBack_128 (v := 0) h10 (fun H locs hP hS => ?_)
                    exact u_vret hx hb hr hlocks hP hS hs dX7_takeBack_131
                  · have hs := if_f c3 hs
                    refine lv_aload_n hx hb dX7_takeBack_103 rfl (lv_at hl 1 rfl) ?_
                    refine gM_X7_memory hx hb hT hown hK hP (hT _ tF_X7_7) dX7_takeBack_104 ?_
                    refine lv_aload_n hx hb dX7_takeBack_107 rfl (lv_at hl 1 rfl) ?_
                    refine gM_X7_changedAt hx hb hT hown hK hP (hT _ tF_X7_34) dX7_takeBack_108 ?_
                    refine lv_iload_n hx hb dX7_takeBack_111 rfl (lv_at hl 0 rfl) ?_
                    obtain ⟨h11, hs⟩ := gd_e hs
                    refine lM_changedAt hx hb hK hP (ixo_in h11) dX7_takeBack_112 ?_
                    refine lv_aload_n hx hb dX7_takeBack_113 rfl (lv_at hl 1 rfl) ?_
                    refine gM_X7_changedFrom hx hb hT hown hK hP (hT _ tF_X7_37) dX7_takeBack_114 ?_
                    refine lv_iload_n hx hb dX7_takeBack_117 rfl (lv_at hl 0 rfl) ?_
                    obtain ⟨h12, hs⟩ := gd_e hs
                    refine lM_changedFrom hx hb hK hP (ixo_in h12) dX7_takeBack_118 ?_
                    obtain ⟨h13, hs⟩ := gd_e hs
                    obtain ⟨S9, h14, hs⟩ := lt_e hs
                    refine sM_memory hx hb hK hP hS (v := (S7.2.2 9 v4.toNatClampNeg)) (ixo_in h13) dX7_takeBack_119 h14 (fun H locs hP hS => ?_)
                    obtain ⟨v5, h15, hs⟩ := lt_e hs
                    refine lv_iinc (v := v5) (lv' := [(1, .int v5), (0, .ref (ad 0))]) hx hb dX7_takeBack_120 hl (k := 0) rfl (by rw [h15]; rfl) (by decide) rfl (fun ls hl => ?_)
                    refine lv_goto (tgt := 99) hx hb dX7_takeBack_123 (by decide) ?_
                    exact ih v5 S9 _ _ _ (lv_sub hl [0, 1] rfl) hP hS hs
              exact L1 401 v3 S6 _ _ _ (lv_sub hl [0, 1] rfl) hP hS hs
            · have hs := if_f c2 hs
              refine lv_aload_n hx hb dX7_takeBack_34 rfl (lv_at hl 1 rfl) ?_
              refine gM_X7_a hx hb hT hown hK hP (hT _ tF_X7_16) dX7_takeBack_35 ?_
              refine lv_iload_n hx hb dX7_takeBack_38 rfl (lv_at hl 0 rfl) ?_
              refine lv_aload_n hx hb dX7_takeBack_39 rfl (lv_at hl 1 rfl) ?_
              refine gM_X7_wasA hx hb hT hown hK hP (hT _ tF_X7_28) dX7_takeBack_40 ?_
              refine lv_iload_n hx hb dX7_takeBack_43 rfl (lv_at hl 0 rfl) ?_
              obtain ⟨h16, hs⟩ := gd_e hs
              refine lM_wasA hx hb hK hP (ixo_in h16) dX7_takeBack_44 ?_
              obtain ⟨h17, hs⟩ := gd_e hs
              obtain ⟨S10, h18, hs⟩ := lt_e hs
              refine sM_a hx hb hK hP hS (v := (S2.2.2 6 v2.toNatClampNeg)) (ixo_in h17) dX7_takeBack_45 h18 (fun H locs hP hS => ?_)
              obtain ⟨v6, h19, hs⟩ := lt_e hs
              refine lv_iinc (v := v6) (lv' := [(1, .int v6), (0, .ref (ad 0))]) hx hb dX7_takeBack_46 hl (k := 0) rfl (by rw [h19]; rfl) (by decide) rfl (fun ls hl => ?_)
              refine lv_goto (tgt := 28) hx hb dX7_takeBack_49 (by decide) ?_
              exact ih v6 S10 _ _ _ (lv_sub hl [0, 1] rfl) hP hS hs
        exact L2 401 0 S1 _ _ _ (lv_sub hl [0, 1] rfl) hP hS hs
      · have hs := if_f c1 hs
        refine lv_aload_n hx hb dX7_takeBack_8 rfl (lv_at hl 1 rfl) ?_
        refine gM_X7_d hx hb hT hown hK hP (hT _ tF_X7_13) dX7_takeBack_9 ?_
        refine lv_iload_n hx hb dX7_takeBack_12 rfl (lv_at hl 0 rfl) ?_
        refine lv_aload_n hx hb dX7_takeBack_13 rfl (lv_at hl 1 rfl) ?_
        refine gM_X7_wasD hx hb hT hown hK hP (hT _ tF_X7_25) dX7_takeBack_14 ?_
        refine lv_iload_n hx hb dX7_takeBack_17 rfl (lv_at hl 0 rfl) ?_
        obtain ⟨h20, hs⟩ := gd_e hs
        refine lM_wasD hx hb hK hP (ixo_in h20) dX7_takeBack_18 ?_
        obtain ⟨h21, hs⟩ := gd_e hs
        obtain ⟨S11, h22, hs⟩ := lt_e hs
        refine sM_d hx hb hK hP hS (v := (S1.2.2 5 v1.toNatClampNeg)) (ixo_in h21) dX7_takeBack_19 h22 (fun H locs hP hS => ?_)
        obtain ⟨v7, h23, hs⟩ := lt_e hs
        refine lv_iinc (v := v7) (lv' := [(1, .int v7), (0, .ref (ad 0))]) hx hb dX7_takeBack_20 hl (k := 0) rfl (by rw [h23]; rfl) (by decide) rfl (fun ls hl => ?_)
        refine lv_goto (tgt := 2) hx hb dX7_takeBack_23 (by decide) ?_
        exact ih v7 S11 _ _ _ (lv_sub hl [0, 1] rfl) hP hS hs
  exact L3 401 0 S _ _ _ (lv_sub hl [0, 1] rfl) hP hS hs
theorem kX7_takeBack {p : Program} {l : Launch} {e : Env} {R : Room} {s : State} {m : MethodId} {args : Array Value} {below : List Frame} {meth : Method} {c : Code} {H : Heap} {locs : List Loc} {cells slots : Nat} {Q : State → Prop} {cc : ByteArray} {pc nL : Nat} {ls : Array Slot} {rest : List Value} {D : va_G} {ad : Nat → Nat} {cI cB : ClassId} {en : Nat → Nat} {S : St} {own : String} {index : Nat}  {So : St} (C : CallFix p m c cc nL s args wG own) (hlk : Cond.methodLink own index yX7_takeBack ∈ wG) (hR : rmX7_takeBack.frames + 1 ≤ R.frames ∧ 8 + (2 + 11) + rmX7_takeBack.locals ≤ R.locals) (hc : cells ≤ R.cells ∧ slots ≤ R.slots) (hK : KM D ad cI cB en s) (hP : va_P D vwCl (wM ad cI cB S) H) (hS : va_S (AX 11 ad s.heap.size) s.heap H locs) (hls : ls.size = nL) (hrest : (rest.map fun v => v.category).sum ≤ 8) (hd : decode cc pc = .ok (.invokevirtual index, 3)) (hs : fX7_takeBack  S = some So) (k : ∀ (H : Heap) (locs : List Loc), va_P D vwCl (wM ad cI cB So) H → va_S (AX 11 ad s.heap.size) s.heap H locs → W p l e R s m args below meth c H locs cells slots Q (F0 m (pc + 3) ls (rest))) : W p l e R s m args below meth c H locs cells slots Q (F0 m pc ls (.ref (ad 0) :: rest)) :=
  u_callV (n := 0) (mX7_takeBack l D ad cI cB en S  So hs) C uK_M (wg_V hlk tI_X7_takeBack tS_X7_takeBack tN_X7 tK_X7_takeBack) rfl rfl rfl (by decide +kernel) hR rfl (va_recv hK.1 hP (ci := 6) (q0 := 0) rfl rfl) hK hP hS hls hrest hd hc rfl k
def fX7_instruction  (S : St) : Option St :=
    (bv (fX7_remember S) fun S1 => (lt (sI S1 6 0) fun S2 => (lt (sI S2 8 0) fun S3 => (lt (sZ S3 2 false) fun S4 => (lt (sI S4 5 0) fun S5 => (bd (fX7_has 32768 S5) fun b1 S6 => (bd (fX7_extension S6) fun r1 S7 => (lt (sI S7 5 r1) fun S8 => (jn (fun (S9 : St) => (if (S9.1 6) ≤ 0 then (jn (fun (b2 : Bool) (S10 : St) => (if (zI b1) = 0 then (if (zI (S10.2.1 2)) = 0 then (some S10)
    else (lt (sZ S10 0 true) fun S11 => (some S11)))
    else (if (zI b2) = 0 then (if (zI (S10.2.1 2)) = 0 then (some S10)
    else (lt (sZ S10 0 true) fun S12 => (some S12)))
    else (bd (fX7_exception 9 false 0 S10) fun b3 S13 => (some S13))))) fun K2 =>
    (if (S9.1 8) = 0 then (K2 true S9)
    else (bd (fX7_exception (S9.1 8) false 0 S9) fun b4 S14 => (if (zI b4) = 0 then (K2 false S14)
    else (K2 true S14)))))
    else (lt ((S9.1 6) : Int32) fun v1 => (lt ((S9.1 7) : Int32) fun v2 => (bv (fX7_takeBack S9) fun S15 => (jn (fun (b5 : Bool) => (bd (fX7_exception v1 b5 v2 S15) fun b6 S16 => (some S16))) fun K3 =>
    (if v1 = 3 then (K3 true)
    else (K3 false)))))))) fun K1 =>
    (if (S8.1 6) = 0 then (bd (fX7_act S8) fun b7 S17 => (if (zI b7) = 0 then (bv (fX7_fault 4 0 S17) fun S18 => (K1 S18))
    else (K1 S17)))
    else (K1 S8)))))))))))
abbrev rmX7_instruction : Room := { frames := 10, cells := 0, slots := 0, locals := 232 }
set_option maxRecDepth 100000 in
set_option maxHeartbeats 4000000 in
theorem mX7_instruction (l : Launch) (D : va_G) (ad : Nat → Nat) (cI cB : ClassId) (en : Nat → Nat) (S : St)  (So : St) (hs : fX7_instruction  S = some So) : uM l yX7_instruction (wg yX7_instruction cX7_instruction 5 none) rmX7_instruction (KM D ad cI cB en) D (wM ad cI cB) (AX 11 ad) [.ref (ad 0)] S (none, So) := by
  refine uM_start (by decide) rfl ?_
  intro p e s m below meth c hx hb hr hlocks hml hown hts hK hP
  have hT : ∀ w ∈ wG, w.before _ s = true := fun w h => hts w (List.mem_cons_of_mem _ h)
  have hS : va_S (AX 11 ad s.heap.size) s.heap s.heap [] := va_S.rf
  have hown : s.vm.findClass RX7 = some m.cls := hown
  have C : CallFix p m c cX7_instruction 5 s _ wG RX7 := ⟨hx, hb, hml, hown, hT⟩
  have hl := lv_entry ([.ref (ad 0)]) (n := 5) (Nat.le_of_ble_eq_true rfl)
  rw [lg_entry_eq]
  generalize (lg_sl ([.ref (ad 0)]) ++ List.replicate (5 - (lg_sl ([.ref (ad 0)])).length) Slot.unset).toArray = ls at hl ⊢
  have hl : lv_has ls 5 [(0, .ref (ad 0))] := hl
  unfold fX7_instruction at hs
  refine lv_aload_n hx hb dX7_instruction_0 rfl (lv_at hl 0 rfl) ?_
  obtain ⟨S1, h1, hs⟩ := bv_e hs
  refine kX7_remember C tM_X7_334 ⟨Nat.le_of_ble_eq_true rfl, Nat.le_of_ble_eq_true rfl⟩ ⟨Nat.le_of_ble_eq_true rfl, Nat.le_of_ble_eq_true rfl⟩ hK hP hS hl.1 (rest := []) (Nat.le_of_ble_eq_true rfl) dX7_instruction_1 h1 (fun H locs hP hS => ?_)
  refine lv_aload_n hx hb dX7_instruction_4 rfl (lv_at hl 0 rfl) ?_
  refine lv_iconst (v := 0) hx hb dX7_instruction_5 (by decide) ?_
  obtain ⟨S2, h2, hs⟩ := lt_e hs
  refine pM_X7_trouble hx hb hT hown hK hP hS (hT _ tF_X7_100) dX7_instruction_6 (v := 0) h2 (fun H locs hP hS => ?_)
  refine lv_aload_n hx hb dX7_instruction_9 rfl (lv_at hl 0 rfl) ?_
  refine lv_iconst (v := 0) hx hb dX7_instruction_10 (by decide) ?_
  obtain ⟨S3, h3, hs⟩ := lt_e hs
  refine pM_X7_follows hx hb hT hown hK hP hS (hT _ tF_X7_245) dX7_instruction_11 (v := 0) h3 (fun H locs hP hS => ?_)
  refine lv_aload_n hx hb dX7_instruction_14 rfl (lv_at hl 0 rfl) ?_
  refine lv_iconst (v := 0) hx hb dX7_instruction_15 (by decide) ?_
  obtain ⟨S4, h4, hs⟩ := lt_e hs
  refine pM_X7_stops hx hb hT hown hK hP hS (hT _ tF_X7_239) dX7_instruction_16 (v := false) h4 (fun H locs hP hS => ?_)
  refine lv_aload_n hx hb dX7_instruction_19 rfl (lv_at hl 0 rfl) ?_
  refine lv_iconst (v := 0) hx hb dX7_instruction_20 (by decide) ?_
  obtain ⟨S5, h5, hs⟩ := lt_e hs
  refine pM_X7_op hx hb hT hown hK hP hS (hT _ tF_X7_174) dX7_instruction_21 (v := 0) h5 (fun H locs hP hS => ?_)
  refine lv_aload_n hx hb dX7_instruction_24 rfl (lv_at hl 0 rfl) ?_
  refine lv_ldc (v := 32768) hx hb hown (hT _ tC_X7_128) dX7_instruction_25 ?_
  obtain ⟨b1, S6, h6, hs⟩ := bd_e hs
  refine kX7_has C tM_X7_154 ⟨Nat.le_of_ble_eq_true rfl, Nat.le_of_ble_eq_true rfl⟩ ⟨Nat.le_of_ble_eq_true rfl, Nat.le_of_ble_eq_true rfl⟩ hK hP hS hl.1 (rest := []) (Nat.le_of_ble_eq_true rfl) dX7_instruction_27 h6 (fun H locs hP hS => ?_)
  refine lv_istore_n (lv' := [(1, .int (zI b1)), (0, .ref (ad 0))]) hx hb dX7_instruction_30 rfl hl (by decide) rfl (fun ls hl => ?_)
  refine lv_aload_n hx hb dX7_instruction_31 rfl (lv_at hl 1 rfl) ?_
  refine lv_aload_n hx hb dX7_instruction_32 rfl (lv_at hl 1 rfl) ?_
  obtain ⟨r1, S7, h7, hs⟩ := bd_e hs
  refine kX7_extension C tM_X7_125 ⟨Nat.le_of_ble_eq_true rfl, Nat.le_of_ble_eq_true rfl⟩ ⟨Nat.le_of_ble_eq_true rfl, Nat.le_of_ble_eq_true rfl⟩ hK hP hS hl.1 (rest := [.ref (ad 0)]) (Nat.le_of_ble_eq_true rfl) dX7_instruction_33 h7 (fun H locs hP hS => ?_)
  obtain ⟨S8, h8, hs⟩ := lt_e hs
  refine pM_X7_op hx hb hT hown hK hP hS (hT _ tF_X7_174) dX7_instruction_36 (v := r1) h8 (fun H locs hP hS => ?_)
  refine lv_aload_n hx hb dX7_instruction_39 rfl (lv_at hl 1 rfl) ?_
  refine gM_X7_trouble hx hb hT hown hK hP (hT _ tF_X7_100) dX7_instruction_40 ?_
  refine jn_e hs (fun K1 => ∀ (S9 : St) (H : Heap) (locs : List Loc) (ls : Array Slot), lv_has ls 5 [(1, .int (zI b1)), (0, .ref (ad 0))] → va_P D vwCl (wM ad cI cB S9) H → va_S (AX 11 ad s.heap.size) s.heap H locs → K1 S9 = some So → W p l e rmX7_instruction s m ([.ref (ad 0)] : List Value).toArray below meth c H locs 0 0 (MQ below (uQ D (wM ad cI cB) (none, So) (AX 11 ad s.heap.size)) ([.ref (ad 0)] : List Value).toArray s 0 0 (AX 11 ad s.heap.size)) (F0 m 59 ls [])) ?_ (fun K1 J1 hs => ?_)
  · intro S9 H locs ls hl hP hS hs
    refine lv_aload_n hx hb dX7_instruction_59 rfl (lv_at hl 1 rfl) ?_
    refine gM_X7_trouble hx hb hT hown hK hP (hT _ tF_X7_100) dX7_instruction_60 ?_
    refine lv_if_le (tgt := 99) hx hb dX7_instruction_63 (by decide) (fun c1 => ?_) (fun c1 => ?_)
    · have hs := if_t c1 hs
      refine lv_aload_n hx hb dX7_instruction_99 rfl (lv_at hl 1 rfl) ?_
      refine gM_X7_follows hx hb hT hown hK hP (hT _ tF_X7_245) dX7_instruction_100 ?_
      refine jn_e hs (fun K2 => ∀ (b2 : Bool) (S10 : St) (H : Heap) (locs : List Loc) (ls : Array Slot), lv_has ls 5 [(1, .int (zI b1)), (0, .ref (ad 0))] → va_P D vwCl (wM ad cI cB S10) H → va_S (AX 11 ad s.heap.size) s.heap H locs → K2 b2 S10 = some So → W p l e rmX7_instruction s m ([.ref (ad 0)] : List Value).toArray below meth c H locs 0 0 (MQ below (uQ D (wM ad cI cB) (none, So) (AX 11 ad s.heap.size)) ([.ref (ad 0)] : List Value).toArray s 0 0 (AX 11 ad s.heap.size)) (F0 m 124 ls [.int (zI b2)])) ?_ (fun K2 J2 hs => ?_)
      · intro b2 S10 H locs ls hl hP hS hs
        refine lv_istore_n (lv' := [(2, .int (zI b2)), (1, .int (zI b1)), (0, .ref (ad 0))]) hx hb dX7_instruction_124 rfl hl (by decide) rfl (fun ls hl => ?_)
        refine lv_iload_n hx hb dX7_instruction_125 rfl (lv_at hl 1 rfl) ?_
        refine lv_if_eq (tgt := 145) hx hb dX7_instruction_126 (by decide) (fun c2 => ?_) (fun c2 => ?_)
        · have hs := if_t c2 hs
          refine lv_aload_n hx hb dX7_instruction_145 rfl (lv_at hl 2 rfl) ?_
          refine gM_X7_stops hx hb hT hown hK hP (hT _ tF_X7_239) dX7_instruction_146 ?_
          refine lv_if_eq (tgt := 157) hx hb dX7_instruction_149 (by decide) (fun c3 => ?_) (fun c3 => ?_)
          · have hs := if_t c3 hs
            exact u_vret hx hb hr hlocks hP hS hs dX7_instruction_157
          · have hs := if_f c3 hs
            refine lv_aload_n hx hb dX7_instruction_152 rfl (lv_at hl 2 rfl) ?_
            refine lv_iconst (v := 1) hx hb dX7_instruction_153 (by decide) ?_
            obtain ⟨S11, h9, hs⟩ := lt_e hs
            refine pM_X7_waits hx hb hT hown hK hP hS (hT _ tF_X7_53) dX7_instruction_154 (v := true) h9 (fun H locs hP hS => ?_)
            exact u_vret hx hb hr hlocks hP hS hs dX7_instruction_157
        · have hs := if_f c2 hs
          refine lv_iload_n hx hb dX7_instruction_129 rfl (lv_at hl 0 rfl) ?_
          refine lv_if_eq (tgt := 145) hx hb dX7_instruction_130 (by decide) (fun c4 => ?_) (fun c4 => ?_)
          · have hs := if_t c4 hs
            refine lv_aload_n hx hb dX7_instruction_145 rfl (lv_at hl 2 rfl) ?_
            refine gM_X7_stops hx hb hT hown hK hP (hT _ tF_X7_239) dX7_instruction_146 ?_
            refine lv_if_eq (tgt := 157) hx hb dX7_instruction_149 (by decide) (fun c5 => ?_) (fun c5 => ?_)
            · have hs := if_t c5 hs
              exact u_vret hx hb hr hlocks hP hS hs dX7_instruction_157
            · have hs := if_f c5 hs
              refine lv_aload_n hx hb dX7_instruction_152 rfl (lv_at hl 2 rfl) ?_
              refine lv_iconst (v := 1) hx hb dX7_instruction_153 (by decide) ?_
              obtain ⟨S12, h10, hs⟩ := lt_e hs
              refine pM_X7_waits hx hb hT hown hK hP hS (hT _ tF_X7_53) dX7_instruction_154 (v := true) h10 (fun H locs hP hS => ?_)
              exact u_vret hx hb hr hlocks hP hS hs dX7_instruction_157
          · have hs := if_f c4 hs
            refine lv_aload_n hx hb dX7_instruction_133 rfl (lv_at hl 2 rfl) ?_
            refine lv_bipush (v := 9) hx hb dX7_instruction_134 (by decide) ?_
            refine lv_iconst (v := 0) hx hb dX7_instruction_136 (by decide) ?_
            refine lv_iconst (v := 0) hx hb dX7_instruction_137 (by decide) ?_
            obtain ⟨b3, S13, h11, hs⟩ := bd_e hs
            refine kX7_exception C tM_X7_343 ⟨Nat.le_of_ble_eq_true rfl, Nat.le_of_ble_eq_true rfl⟩ ⟨Nat.le_of_ble_eq_true rfl, Nat.le_of_ble_eq_true rfl⟩ hK hP hS hl.1 (rest := []) (Nat.le_of_ble_eq_true rfl) dX7_instruction_138 h11 (fun H locs hP hS => ?_)
            refine lv_istore_n (lv' := [(3, .int (zI b3)), (2, .int (zI b2)), (1, .int (zI b1)), (0, .ref (ad 0))]) hx hb dX7_instruction_141 rfl hl (by decide) rfl (fun ls hl => ?_)
            refine lv_goto (tgt := 157) hx hb dX7_instruction_142 (by decide) ?_
            exact u_vret hx hb hr hlocks hP hS hs dX7_instruction_157
      ·
        refine lv_if_eq (tgt := 119) hx hb dX7_instruction_103 (by decide) (fun c6 => ?_) (fun c6 => ?_)
        · have hs := if_t c6 hs
          refine lv_iconst (v := 1) hx hb dX7_instruction_119 (by decide) ?_
          refine lv_goto (tgt := 124) hx hb dX7_instruction_120 (by decide) ?_
          exact J2 true S9 _ _ _ (lv_sub hl [0, 1] rfl) hP hS hs
        · have hs := if_f c6 hs
          refine lv_aload_n hx hb dX7_instruction_106 rfl (lv_at hl 1 rfl) ?_
          refine lv_aload_n hx hb dX7_instruction_107 rfl (lv_at hl 1 rfl) ?_
          refine gM_X7_follows hx hb hT hown hK hP (hT _ tF_X7_245) dX7_instruction_108 ?_
          refine lv_iconst (v := 0) hx hb dX7_instruction_111 (by decide) ?_
          refine lv_iconst (v := 0) hx hb dX7_instruction_112 (by decide) ?_
          obtain ⟨b4, S14, h12, hs⟩ := bd_e hs
          refine kX7_exception C tM_X7_343 ⟨Nat.le_of_ble_eq_true rfl, Nat.le_of_ble_eq_true rfl⟩ ⟨Nat.le_of_ble_eq_true rfl, Nat.le_of_ble_eq_true rfl⟩ hK hP hS hl.1 (rest := []) (Nat.le_of_ble_eq_true rfl) dX7_instruction_113 h12 (fun H locs hP hS => ?_)
          refine lv_if_eq (tgt := 123) hx hb dX7_instruction_116 (by decide) (fun c7 => ?_) (fun c7 => ?_)
          · have hs := if_t c7 hs
            refine lv_iconst (v := 0) hx hb dX7_instruction_123 (by decide) ?_
            exact J2 false S14 _ _ _ (lv_sub hl [0, 1] rfl) hP hS hs
          · have hs := if_f c7 hs
            refine lv_iconst (v := 1) hx hb dX7_instruction_119 (by decide) ?_
            refine lv_goto (tgt := 124) hx hb dX7_instruction_120 (by decide) ?_
            exact J2 true S14 _ _ _ (lv_sub hl [0, 1] rfl) hP hS hs
    · have hs := if_f c1 hs
      refine lv_aload_n hx hb dX7_instruction_66 rfl (lv_at hl 1 rfl) ?_
      refine gM_X7_trouble hx hb hT hown hK hP (hT _ tF_X7_100) dX7_instruction_67 ?_
      obtain ⟨v1, h13, hs⟩ := lt_e hs
      refine u_top h13 ?_
      refine lv_istore_n (lv' := [(2, .int v1), (1, .int (zI b1)), (0, .ref (ad 0))]) hx hb dX7_instruction_70 rfl hl (by decide) rfl (fun ls hl => ?_)
      refine lv_aload_n hx hb dX7_instruction_71 rfl (lv_at hl 2 rfl) ?_
      refine gM_X7_troubleAt hx hb hT hown hK hP (hT _ tF_X7_103) dX7_instruction_72 ?_
      obtain ⟨v2, h14, hs⟩ := lt_e hs
      refine u_top h14 ?_
      refine lv_istore_n (lv' := [(3, .int v2), (2, .int v1), (1, .int (zI b1)), (0, .ref (ad 0))]) hx hb dX7_instruction_75 rfl hl (by decide) rfl (fun ls hl => ?_)
      refine lv_aload_n hx hb dX7_instruction_76 rfl (lv_at hl 3 rfl) ?_
      obtain ⟨S15, h15, hs⟩ := bv_e hs
      refine kX7_takeBack C tM_X7_340 ⟨Nat.le_of_ble_eq_true rfl, Nat.le_of_ble_eq_true rfl⟩ ⟨Nat.le_of_ble_eq_true rfl, Nat.le_of_ble_eq_true rfl⟩ hK hP hS hl.1 (rest := []) (Nat.le_of_ble_eq_true rfl) dX7_instruction_77 h15 (fun H locs hP hS => ?_)
      refine lv_aload_n hx hb dX7_instruction_80 rfl (lv_at hl 3 rfl) ?_
      refine lv_iload_n hx hb dX7_instruction_81 rfl (lv_at hl 1 rfl) ?_
      refine lv_iload_n hx hb dX7_instruction_82 rfl (lv_at hl 1 rfl) ?_
      refine lv_iconst (v := 3) hx hb dX7_instruction_83 (by decide) ?_
      refine jn_e hs (fun K3 => ∀ (b5 : Bool) (H : Heap) (locs : List Loc) (ls : Array Slot), lv_has ls 5 [(3, .int v2)] → va_P D vwCl (wM ad cI cB S15) H → va_S (AX 11 ad s.heap.size) s.heap H locs → K3 b5 = some So → W p l e rmX7_instruction s m ([.ref (ad 0)] : List Value).toArray below meth c H locs 0 0 (MQ below (uQ D (wM ad cI cB) (none, So) (AX 11 ad s.heap.size)) ([.ref (ad 0)] : List Value).toArray s 0 0 (AX 11 ad s.heap.size)) (F0 m 92 ls [.int (zI b5), .int v1, .ref (ad 0)])) ?_ (fun K3 J3 hs => ?_)
      · intro b5 H locs ls hl hP hS hs
        refine lv_iload_n hx hb dX7_instruction_92 rfl (lv_at hl 0 rfl) ?_
        obtain ⟨b6, S16, h16, hs⟩ := bd_e hs
        refine kX7_exception C tM_X7_343 ⟨Nat.le_of_ble_eq_true rfl, Nat.le_of_ble_eq_true rfl⟩ ⟨Nat.le_of_ble_eq_true rfl, Nat.le_of_ble_eq_true rfl⟩ hK hP hS hl.1 (rest := []) (Nat.le_of_ble_eq_true rfl) dX7_instruction_93 h16 (fun H locs hP hS => ?_)
        refine lv_istore (lv' := [(4, .int (zI b6)), (3, .int v2)]) hx hb dX7_instruction_96 hl (by decide) rfl (fun ls hl => ?_)
        exact u_vret hx hb hr hlocks hP hS hs dX7_instruction_98
      ·
        refine lv_icmp_ne (tgt := 91) hx hb dX7_instruction_84 (by decide) (fun c8 => ?_) (fun c8 => ?_)
        · have hs := if_f c8 hs
          refine lv_iconst (v := 0) hx hb dX7_instruction_91 (by decide) ?_
          exact J3 false _ _ _ (lv_sub hl [0] rfl) hP hS hs
        · have hs := if_t c8 hs
          refine lv_iconst (v := 1) hx hb dX7_instruction_87 (by decide) ?_
          refine lv_goto (tgt := 92) hx hb dX7_instruction_88 (by decide) ?_
          exact J3 true _ _ _ (lv_sub hl [0] rfl) hP hS hs
  ·
    refine lv_if_ne (tgt := 59) hx hb dX7_instruction_43 (by decide) (fun c9 => ?_) (fun c9 => ?_)
    · have hs := if_f c9 hs
      exact J1 S8 _ _ _ (lv_sub hl [0, 1] rfl) hP hS hs
    · have hs := if_t c9 hs
      refine lv_aload_n hx hb dX7_instruction_46 rfl (lv_at hl 1 rfl) ?_
      obtain ⟨b7, S17, h17, hs⟩ := bd_e hs
      refine kX7_act C tM_X7_337 ⟨Nat.le_of_ble_eq_true rfl, Nat.le_of_ble_eq_true rfl⟩ ⟨Nat.le_of_ble_eq_true rfl, Nat.le_of_ble_eq_true rfl⟩ hK hP hS hl.1 (rest := []) (Nat.le_of_ble_eq_true rfl) dX7_instruction_47 h17 (fun H locs hP hS => ?_)
      refine lv_if_ne (tgt := 59) hx hb dX7_instruction_50 (by decide) (fun c10 => ?_) (fun c10 => ?_)
      · have hs := if_f c10 hs
        exact J1 S17 _ _ _ (lv_sub hl [0, 1] rfl) hP hS hs
      · have hs := if_t c10 hs
        refine lv_aload_n hx hb dX7_instruction_53 rfl (lv_at hl 1 rfl) ?_
        refine lv_iconst (v := 4) hx hb dX7_instruction_54 (by decide) ?_
        refine lv_iconst (v := 0) hx hb dX7_instruction_55 (by decide) ?_
        obtain ⟨S18, h18, hs⟩ := bv_e hs
        refine kX7_fault C tM_X7_106 ⟨Nat.le_of_ble_eq_true rfl, Nat.le_of_ble_eq_true rfl⟩ ⟨Nat.le_of_ble_eq_true rfl, Nat.le_of_ble_eq_true rfl⟩ hK hP hS hl.1 (rest := []) (Nat.le_of_ble_eq_true rfl) dX7_instruction_56 h18 (fun H locs hP hS => ?_)
        exact J1 S18 _ _ _ (lv_sub hl [0, 1] rfl) hP hS hs
theorem kX7_instruction {p : Program} {l : Launch} {e : Env} {R : Room} {s : State} {m : MethodId} {args : Array Value} {below : List Frame} {meth : Method} {c : Code} {H : Heap} {locs : List Loc} {cells slots : Nat} {Q : State → Prop} {cc : ByteArray} {pc nL : Nat} {ls : Array Slot} {rest : List Value} {D : va_G} {ad : Nat → Nat} {cI cB : ClassId} {en : Nat → Nat} {S : St} {own : String} {index : Nat}  {So : St} (C : CallFix p m c cc nL s args wG own) (hlk : Cond.methodLink own index yX7_instruction ∈ wG) (hR : rmX7_instruction.frames + 1 ≤ R.frames ∧ 8 + (5 + 11) + rmX7_instruction.locals ≤ R.locals) (hc : cells ≤ R.cells ∧ slots ≤ R.slots) (hK : KM D ad cI cB en s) (hP : va_P D vwCl (wM ad cI cB S) H) (hS : va_S (AX 11 ad s.heap.size) s.heap H locs) (hls : ls.size = nL) (hrest : (rest.map fun v => v.category).sum ≤ 8) (hd : decode cc pc = .ok (.invokevirtual index, 3)) (hs : fX7_instruction  S = some So) (k : ∀ (H : Heap) (locs : List Loc), va_P D vwCl (wM ad cI cB So) H → va_S (AX 11 ad s.heap.size) s.heap H locs → W p l e R s m args below meth c H locs cells slots Q (F0 m (pc + 3) ls (rest))) : W p l e R s m args below meth c H locs cells slots Q (F0 m pc ls (.ref (ad 0) :: rest)) :=
  u_callV (n := 0) (mX7_instruction l D ad cI cB en S  So hs) C uK_M (wg_V hlk tI_X7_instruction tS_X7_instruction tN_X7 tK_X7_instruction) rfl rfl rfl (by decide +kernel) hR rfl (va_recv hK.1 hP (ci := 6) (q0 := 0) rfl rfl) hK hP hS hls hrest hd hc rfl k
def fX7_interrupt  (S : St) : Option (Bool × St) :=
    (lt ((((S.1 2) >>> ((8 : Int32) &&& 31)) &&& 7) : Int32) fun v1 => (if (S.1 3) = 0 then (some (false, S))
    else (if v1 < (S.1 3) then (lt ((S.1 3) : Int32) fun v2 => (lt (sI S 3 0) fun S1 => (lt (sZ S1 0 false) fun S2 => (bd (fX7_exception (24 + v2) false 0 S2) fun b1 S3 => (if (zI b1) = 0 then (some (true, S3))
    else (lt (sI S3 2 (((S3.1 2) &&& (-1793 : Int32)) ||| (v2 <<< ((8 : Int32) &&& 31)))) fun S4 => (some (true, S4))))))))
    else (if 7 ≤ (S.1 3) then (lt ((S.1 3) : Int32) fun v3 => (lt (sI S 3 0) fun S5 => (lt (sZ S5 0 false) fun S6 => (bd (fX7_exception (24 + v3) false 0 S6) fun b2 S7 => (if (zI b2) = 0 then (some (true, S7))
    else (lt (sI S7 2 (((S7.1 2) &&& (-1793 : Int32)) ||| (v3 <<< ((8 : Int32) &&& 31)))) fun S8 => (some (true, S8))))))))
    else (some (false, S))))))
abbrev rmX7_interrupt : Room := { frames := 3, cells := 0, slots := 0, locals := 71 }
set_option maxRecDepth 100000 in
set_option maxHeartbeats 4000000 in
theorem mX7_interrupt (l : Launch) (D : va_G) (ad : Nat → Nat) (cI cB : ClassId) (en : Nat → Nat) (S : St)  (ro : Bool) (So : St) (hs : fX7_interrupt  S = some (ro, So)) : uM l yX7_interrupt (wg yX7_interrupt cX7_interrupt 3 (some .boolean)) rmX7_interrupt (KM D ad cI cB en) D (wM ad cI cB) (AX 11 ad) [.ref (ad 0)] S (some (.int (zI ro)), So) := by
  refine uM_start (by decide) rfl ?_
  intro p e s m below meth c hx hb hr hlocks hml hown hts hK hP
  have hT : ∀ w ∈ wG, w.before _ s = true := fun w h => hts w (List.mem_cons_of_mem _ h)
  have hS : va_S (AX 11 ad s.heap.size) s.heap s.heap [] := va_S.rf
  have hown : s.vm.findClass RX7 = some m.cls := hown
  have C : CallFix p m c cX7_interrupt 3 s _ wG RX7 := ⟨hx, hb, hml, hown, hT⟩
  have hl := lv_entry ([.ref (ad 0)]) (n := 3) (Nat.le_of_ble_eq_true rfl)
  rw [lg_entry_eq]
  generalize (lg_sl ([.ref (ad 0)]) ++ List.replicate (3 - (lg_sl ([.ref (ad 0)])).length) Slot.unset).toArray = ls at hl ⊢
  have hl : lv_has ls 3 [(0, .ref (ad 0))] := hl
  unfold fX7_interrupt at hs
  refine lv_aload_n hx hb dX7_interrupt_0 rfl (lv_at hl 0 rfl) ?_
  refine gM_X7_sr hx hb hT hown hK hP (hT _ tF_X7_50) dX7_interrupt_1 ?_
  refine lv_bipush (v := 8) hx hb dX7_interrupt_4 (by decide) ?_
  refine lv_ishr hx hb dX7_interrupt_6 ?_
  refine lv_bipush (v := 7) hx hb dX7_interrupt_7 (by decide) ?_
  refine lv_iand hx hb dX7_interrupt_9 ?_
  obtain ⟨v1, h1, hs⟩ := lt_e hs
  refine u_top h1 ?_
  refine lv_istore_n (lv' := [(1, .int v1), (0, .ref (ad 0))]) hx hb dX7_interrupt_10 rfl hl (by decide) rfl (fun ls hl => ?_)
  refine lv_aload_n hx hb dX7_interrupt_11 rfl (lv_at hl 1 rfl) ?_
  refine gM_X7_wanted hx hb hT hown hK hP (hT _ tF_X7_60) dX7_interrupt_12 ?_
  refine lv_if_eq (tgt := 35) hx hb dX7_interrupt_15 (by decide) (fun c1 => ?_) (fun c1 => ?_)
  · have hs := if_t c1 hs
    refine lv_iconst (v := 0) hx hb dX7_interrupt_35 (by decide) ?_
    exact u_zret (v := false) hx hb hr hlocks hP hS hs dX7_interrupt_36
  · have hs := if_f c1 hs
    refine lv_aload_n hx hb dX7_interrupt_18 rfl (lv_at hl 1 rfl) ?_
    refine gM_X7_wanted hx hb hT hown hK hP (hT _ tF_X7_60) dX7_interrupt_19 ?_
    refine lv_iload_n hx hb dX7_interrupt_22 rfl (lv_at hl 0 rfl) ?_
    refine lv_icmp_gt (tgt := 37) hx hb dX7_interrupt_23 (by decide) (fun c2 => ?_) (fun c2 => ?_)
    · have hs := if_t c2 hs
      refine lv_aload_n hx hb dX7_interrupt_37 rfl (lv_at hl 1 rfl) ?_
      refine gM_X7_wanted hx hb hT hown hK hP (hT _ tF_X7_60) dX7_interrupt_38 ?_
      obtain ⟨v2, h2, hs⟩ := lt_e hs
      refine u_top h2 ?_
      refine lv_istore_n (lv' := [(2, .int v2), (1, .int v1), (0, .ref (ad 0))]) hx hb dX7_interrupt_41 rfl hl (by decide) rfl (fun ls hl => ?_)
      refine lv_aload_n hx hb dX7_interrupt_42 rfl (lv_at hl 2 rfl) ?_
      refine lv_iconst (v := 0) hx hb dX7_interrupt_43 (by decide) ?_
      obtain ⟨S1, h3, hs⟩ := lt_e hs
      refine pM_X7_wanted hx hb hT hown hK hP hS (hT _ tF_X7_60) dX7_interrupt_44 (v := 0) h3 (fun H locs hP hS => ?_)
      refine lv_aload_n hx hb dX7_interrupt_47 rfl (lv_at hl 2 rfl) ?_
      refine lv_iconst (v := 0) hx hb dX7_interrupt_48 (by decide) ?_
      obtain ⟨S2, h4, hs⟩ := lt_e hs
      refine pM_X7_waits hx hb hT hown hK hP hS (hT _ tF_X7_53) dX7_interrupt_49 (v := false) h4 (fun H locs hP hS => ?_)
      refine lv_aload_n hx hb dX7_interrupt_52 rfl (lv_at hl 2 rfl) ?_
      refine lv_bipush (v := 24) hx hb dX7_interrupt_53 (by decide) ?_
      refine lv_iload_n hx hb dX7_interrupt_55 rfl (lv_at hl 0 rfl) ?_
      refine lv_iadd hx hb dX7_interrupt_56 ?_
      refine lv_iconst (v := 0) hx hb dX7_interrupt_57 (by decide) ?_
      refine lv_iconst (v := 0) hx hb dX7_interrupt_58 (by decide) ?_
      obtain ⟨b1, S3, h5, hs⟩ := bd_e hs
      refine kX7_exception C tM_X7_343 ⟨Nat.le_of_ble_eq_true rfl, Nat.le_of_ble_eq_true rfl⟩ ⟨Nat.le_of_ble_eq_true rfl, Nat.le_of_ble_eq_true rfl⟩ hK hP hS hl.1 (rest := []) (Nat.le_of_ble_eq_true rfl) dX7_interrupt_59 h5 (fun H locs hP hS => ?_)
      refine lv_if_eq (tgt := 82) hx hb dX7_interrupt_62 (by decide) (fun c3 => ?_) (fun c3 => ?_)
      · have hs := if_t c3 hs
        refine lv_iconst (v := 1) hx hb dX7_interrupt_82 (by decide) ?_
        exact u_zret (v := true) hx hb hr hlocks hP hS hs dX7_interrupt_83
      · have hs := if_f c3 hs
        refine lv_aload_n hx hb dX7_interrupt_65 rfl (lv_at hl 2 rfl) ?_
        refine lv_aload_n hx hb dX7_interrupt_66 rfl (lv_at hl 2 rfl) ?_
        refine gM_X7_sr hx hb hT hown hK hP (hT _ tF_X7_50) dX7_interrupt_67 ?_
        refine lv_sipush (v := (-1793 : Int32)) hx hb dX7_interrupt_70 (by decide) ?_
        refine lv_iand hx hb dX7_interrupt_73 ?_
        refine lv_iload_n hx hb dX7_interrupt_74 rfl (lv_at hl 0 rfl) ?_
        refine lv_bipush (v := 8) hx hb dX7_interrupt_75 (by decide) ?_
        refine lv_ishl hx hb dX7_interrupt_77 ?_
        refine lv_ior hx hb dX7_interrupt_78 ?_
        obtain ⟨S4, h6, hs⟩ := lt_e hs
        refine pM_X7_sr hx hb hT hown hK hP hS (hT _ tF_X7_50) dX7_interrupt_79 (v := (((S3.1 2) &&& (-1793 : Int32)) ||| (v2 <<< ((8 : Int32) &&& 31)))) h6 (fun H locs hP hS => ?_)
        refine lv_iconst (v := 1) hx hb dX7_interrupt_82 (by decide) ?_
        exact u_zret (v := true) hx hb hr hlocks hP hS hs dX7_interrupt_83
    · have hs := if_f c2 hs
      refine lv_aload_n hx hb dX7_interrupt_26 rfl (lv_at hl 1 rfl) ?_
      refine gM_X7_wanted hx hb hT hown hK hP (hT _ tF_X7_60) dX7_interrupt_27 ?_
      refine lv_bipush (v := 7) hx hb dX7_interrupt_30 (by decide) ?_
      refine lv_icmp_ge (tgt := 37) hx hb dX7_interrupt_32 (by decide) (fun c4 => ?_) (fun c4 => ?_)
      · have hs := if_t c4 hs
        refine lv_aload_n hx hb dX7_interrupt_37 rfl (lv_at hl 1 rfl) ?_
        refine gM_X7_wanted hx hb hT hown hK hP (hT _ tF_X7_60) dX7_interrupt_38 ?_
        obtain ⟨v3, h7, hs⟩ := lt_e hs
        refine u_top h7 ?_
        refine lv_istore_n (lv' := [(2, .int v3), (1, .int v1), (0, .ref (ad 0))]) hx hb dX7_interrupt_41 rfl hl (by decide) rfl (fun ls hl => ?_)
        refine lv_aload_n hx hb dX7_interrupt_42 rfl (lv_at hl 2 rfl) ?_
        refine lv_iconst (v := 0) hx hb dX7_interrupt_43 (by decide) ?_
        obtain ⟨S5, h8, hs⟩ := lt_e hs
        refine pM_X7_wanted hx hb hT hown hK hP hS (hT _ tF_X7_60) dX7_interrupt_44 (v := 0) h8 (fun H locs hP hS => ?_)
        refine lv_aload_n hx hb dX7_interrupt_47 rfl (lv_at hl 2 rfl) ?_
        refine lv_iconst (v := 0) hx hb dX7_interrupt_48 (by decide) ?_
        obtain ⟨S6, h9, hs⟩ := lt_e hs
        refine pM_X7_waits hx hb hT hown hK hP hS (hT _ tF_X7_53) dX7_interrupt_49 (v := false) h9 (fun H locs hP hS => ?_)
        refine lv_aload_n hx hb dX7_interrupt_52 rfl (lv_at hl 2 rfl) ?_
        refine lv_bipush (v := 24) hx hb dX7_interrupt_53 (by decide) ?_
        refine lv_iload_n hx hb dX7_interrupt_55 rfl (lv_at hl 0 rfl) ?_
        refine lv_iadd hx hb dX7_interrupt_56 ?_
        refine lv_iconst (v := 0) hx hb dX7_interrupt_57 (by decide) ?_
        refine lv_iconst (v := 0) hx hb dX7_interrupt_58 (by decide) ?_
        obtain ⟨b2, S7, h10, hs⟩ := bd_e hs
        refine kX7_exception C tM_X7_343 ⟨Nat.le_of_ble_eq_true rfl, Nat.le_of_ble_eq_true rfl⟩ ⟨Nat.le_of_ble_eq_true rfl, Nat.le_of_ble_eq_true rfl⟩ hK hP hS hl.1 (rest := []) (Nat.le_of_ble_eq_true rfl) dX7_interrupt_59 h10 (fun H locs hP hS => ?_)
        refine lv_if_eq (tgt := 82) hx hb dX7_interrupt_62 (by decide) (fun c5 => ?_) (fun c5 => ?_)
        · have hs := if_t c5 hs
          refine lv_iconst (v := 1) hx hb dX7_interrupt_82 (by decide) ?_
          exact u_zret (v := true) hx hb hr hlocks hP hS hs dX7_interrupt_83
        · have hs := if_f c5 hs
          refine lv_aload_n hx hb dX7_interrupt_65 rfl (lv_at hl 2 rfl) ?_
          refine lv_aload_n hx hb dX7_interrupt_66 rfl (lv_at hl 2 rfl) ?_
          refine gM_X7_sr hx hb hT hown hK hP (hT _ tF_X7_50) dX7_interrupt_67 ?_
          refine lv_sipush (v := (-1793 : Int32)) hx hb dX7_interrupt_70 (by decide) ?_
          refine lv_iand hx hb dX7_interrupt_73 ?_
          refine lv_iload_n hx hb dX7_interrupt_74 rfl (lv_at hl 0 rfl) ?_
          refine lv_bipush (v := 8) hx hb dX7_interrupt_75 (by decide) ?_
          refine lv_ishl hx hb dX7_interrupt_77 ?_
          refine lv_ior hx hb dX7_interrupt_78 ?_
          obtain ⟨S8, h11, hs⟩ := lt_e hs
          refine pM_X7_sr hx hb hT hown hK hP hS (hT _ tF_X7_50) dX7_interrupt_79 (v := (((S7.1 2) &&& (-1793 : Int32)) ||| (v3 <<< ((8 : Int32) &&& 31)))) h11 (fun H locs hP hS => ?_)
          refine lv_iconst (v := 1) hx hb dX7_interrupt_82 (by decide) ?_
          exact u_zret (v := true) hx hb hr hlocks hP hS hs dX7_interrupt_83
      · have hs := if_f c4 hs
        refine lv_iconst (v := 0) hx hb dX7_interrupt_35 (by decide) ?_
        exact u_zret (v := false) hx hb hr hlocks hP hS hs dX7_interrupt_36
theorem kX7_interrupt {p : Program} {l : Launch} {e : Env} {R : Room} {s : State} {m : MethodId} {args : Array Value} {below : List Frame} {meth : Method} {c : Code} {H : Heap} {locs : List Loc} {cells slots : Nat} {Q : State → Prop} {cc : ByteArray} {pc nL : Nat} {ls : Array Slot} {rest : List Value} {D : va_G} {ad : Nat → Nat} {cI cB : ClassId} {en : Nat → Nat} {S : St} {own : String} {index : Nat}  {ro : Bool} {So : St} (C : CallFix p m c cc nL s args wG own) (hlk : Cond.methodLink own index yX7_interrupt ∈ wG) (hR : rmX7_interrupt.frames + 1 ≤ R.frames ∧ 8 + (3 + 11) + rmX7_interrupt.locals ≤ R.locals) (hc : cells ≤ R.cells ∧ slots ≤ R.slots) (hK : KM D ad cI cB en s) (hP : va_P D vwCl (wM ad cI cB S) H) (hS : va_S (AX 11 ad s.heap.size) s.heap H locs) (hls : ls.size = nL) (hrest : (rest.map fun v => v.category).sum ≤ 8) (hd : decode cc pc = .ok (.invokevirtual index, 3)) (hs : fX7_interrupt  S = some (ro, So)) (k : ∀ (H : Heap) (locs : List Loc), va_P D vwCl (wM ad cI cB So) H → va_S (AX 11 ad s.heap.size) s.heap H locs → W p l e R s m args below meth c H locs cells slots Q (F0 m (pc + 3) ls (.int (zI ro) :: rest))) : W p l e R s m args below meth c H locs cells slots Q (F0 m pc ls (.ref (ad 0) :: rest)) :=
  u_callV (n := 0) (mX7_interrupt l D ad cI cB en S  ro So hs) C uK_M (wg_V hlk tI_X7_interrupt tS_X7_interrupt tN_X7 tK_X7_interrupt) rfl rfl rfl (by decide +kernel) hR rfl (va_recv hK.1 hP (ci := 6) (q0 := 0) rfl rfl) hK hP hS hls hrest hd hc rfl k
def fX7_want (x1 : Int32) (S : St) : Option St :=
    (jn (fun (b1 : Bool) => (lt (sI S 0 (zI b1)) fun S1 => (if (S1.1 0) = 0 then (lt (sI S1 3 x1) fun S2 => (some S2))
    else (some S1)))) fun K1 =>
    (if x1 < 0 then (K1 true)
    else (if x1 ≤ 7 then (K1 false)
    else (K1 true))))
abbrev rmX7_want : Room := { frames := 0, cells := 0, slots := 0, locals := 0 }
set_option maxRecDepth 100000 in
set_option maxHeartbeats 4000000 in
theorem mX7_want (l : Launch) (D : va_G) (ad : Nat → Nat) (cI cB : ClassId) (en : Nat → Nat) (S : St) (x1 : Int32) (So : St) (hs : fX7_want x1 S = some So) : uM l yX7_want (wg yX7_want cX7_want 2 none) rmX7_want (KM D ad cI cB en) D (wM ad cI cB) (AX 11 ad) [.ref (ad 0), .int x1] S (none, So) := by
  refine uM_start (by decide) rfl ?_
  intro p e s m below meth c hx hb hr hlocks hml hown hts hK hP
  have hT : ∀ w ∈ wG, w.before _ s = true := fun w h => hts w (List.mem_cons_of_mem _ h)
  have hS : va_S (AX 11 ad s.heap.size) s.heap s.heap [] := va_S.rf
  have hown : s.vm.findClass RX7 = some m.cls := hown
  have C : CallFix p m c cX7_want 2 s _ wG RX7 := ⟨hx, hb, hml, hown, hT⟩
  have hl := lv_entry ([.ref (ad 0), .int x1]) (n := 2) (Nat.le_of_ble_eq_true rfl)
  rw [lg_entry_eq]
  generalize (lg_sl ([.ref (ad 0), .int x1]) ++ List.replicate (2 - (lg_sl ([.ref (ad 0), .int x1])).length) Slot.unset).toArray = ls at hl ⊢
  have hl : lv_has ls 2 [(0, .ref (ad 0)), (1, .int x1)] := hl
  unfold fX7_want at hs
  refine lv_aload_n hx hb dX7_want_0 rfl (lv_at hl 0 rfl) ?_
  refine lv_iload_n hx hb dX7_want_1 rfl (lv_at hl 1 rfl) ?_
  refine jn_e hs (fun K1 => ∀ (b1 : Bool) (H : Heap) (locs : List Loc) (ls : Array Slot), lv_has ls 2 [(0, .ref (ad 0)), (1, .int x1)] → va_P D vwCl (wM ad cI cB S) H → va_S (AX 11 ad s.heap.size) s.heap H locs → K1 b1 = some So → W p l e rmX7_want s m ([.ref (ad 0), .int x1] : List Value).toArray below meth c H locs 0 0 (MQ below (uQ D (wM ad cI cB) (none, So) (AX 11 ad s.heap.size)) ([.ref (ad 0), .int x1] : List Value).toArray s 0 0 (AX 11 ad s.heap.size)) (F0 m 16 ls [.int (zI b1), .ref (ad 0)])) ?_ (fun K1 J1 hs => ?_)
  · intro b1 H locs ls hl hP hS hs
    obtain ⟨S1, h1, hs⟩ := lt_e hs
    refine pM_X7_thrown hx hb hT hown hK hP hS (hT _ tF_X7_43) dX7_want_16 (v := (zI b1)) h1 (fun H locs hP hS => ?_)
    refine lv_aload_n hx hb dX7_want_19 rfl (lv_at hl 0 rfl) ?_
    refine gM_X7_thrown hx hb hT hown hK hP (hT _ tF_X7_43) dX7_want_20 ?_
    refine lv_if_ne (tgt := 31) hx hb dX7_want_23 (by decide) (fun c1 => ?_) (fun c1 => ?_)
    · have hs := if_f c1 hs
      exact u_vret hx hb hr hlocks hP hS hs dX7_want_31
    · have hs := if_t c1 hs
      refine lv_aload_n hx hb dX7_want_26 rfl (lv_at hl 0 rfl) ?_
      refine lv_iload_n hx hb dX7_want_27 rfl (lv_at hl 1 rfl) ?_
      obtain ⟨S2, h2, hs⟩ := lt_e hs
      refine pM_X7_wanted hx hb hT hown hK hP hS (hT _ tF_X7_60) dX7_want_28 (v := x1) h2 (fun H locs hP hS => ?_)
      exact u_vret hx hb hr hlocks hP hS hs dX7_want_31
  ·
    refine lv_if_lt (tgt := 11) hx hb dX7_want_2 (by decide) (fun c2 => ?_) (fun c2 => ?_)
    · have hs := if_t c2 hs
      refine lv_iconst (v := 1) hx hb dX7_want_11 (by decide) ?_
      refine lv_goto (tgt := 16) hx hb dX7_want_12 (by decide) ?_
      exact J1 true _ _ _ (lv_sub hl [0, 1] rfl) hP hS hs
    · have hs := if_f c2 hs
      refine lv_iload_n hx hb dX7_want_5 rfl (lv_at hl 1 rfl) ?_
      refine lv_bipush (v := 7) hx hb dX7_want_6 (by decide) ?_
      refine lv_icmp_le (tgt := 15) hx hb dX7_want_8 (by decide) (fun c3 => ?_) (fun c3 => ?_)
      · have hs := if_t c3 hs
        refine lv_iconst (v := 0) hx hb dX7_want_15 (by decide) ?_
        exact J1 false _ _ _ (lv_sub hl [0, 1] rfl) hP hS hs
      · have hs := if_f c3 hs
        refine lv_iconst (v := 1) hx hb dX7_want_11 (by decide) ?_
        refine lv_goto (tgt := 16) hx hb dX7_want_12 (by decide) ?_
        exact J1 true _ _ _ (lv_sub hl [0, 1] rfl) hP hS hs
theorem kX7_want {p : Program} {l : Launch} {e : Env} {R : Room} {s : State} {m : MethodId} {args : Array Value} {below : List Frame} {meth : Method} {c : Code} {H : Heap} {locs : List Loc} {cells slots : Nat} {Q : State → Prop} {cc : ByteArray} {pc nL : Nat} {ls : Array Slot} {rest : List Value} {D : va_G} {ad : Nat → Nat} {cI cB : ClassId} {en : Nat → Nat} {S : St} {own : String} {index : Nat} {x1 : Int32} {So : St} (C : CallFix p m c cc nL s args wG own) (hlk : Cond.methodLink own index yX7_want ∈ wG) (hR : rmX7_want.frames + 1 ≤ R.frames ∧ 8 + (2 + 11) + rmX7_want.locals ≤ R.locals) (hc : cells ≤ R.cells ∧ slots ≤ R.slots) (hK : KM D ad cI cB en s) (hP : va_P D vwCl (wM ad cI cB S) H) (hS : va_S (AX 11 ad s.heap.size) s.heap H locs) (hls : ls.size = nL) (hrest : (rest.map fun v => v.category).sum ≤ 8) (hd : decode cc pc = .ok (.invokevirtual index, 3)) (hs : fX7_want x1 S = some So) (k : ∀ (H : Heap) (locs : List Loc), va_P D vwCl (wM ad cI cB So) H → va_S (AX 11 ad s.heap.size) s.heap H locs → W p l e R s m args below meth c H locs cells slots Q (F0 m (pc + 3) ls (rest))) : W p l e R s m args below meth c H locs cells slots Q (F0 m pc ls (.int x1 :: .ref (ad 0) :: rest)) :=
  u_callV (n := 1) (mX7_want l D ad cI cB en S x1 So hs) C uK_M (wg_V hlk tI_X7_want tS_X7_want tN_X7 tK_X7_want) rfl rfl rfl (by decide +kernel) hR rfl (va_recv hK.1 hP (ci := 6) (q0 := 0) rfl rfl) hK hP hS hls hrest hd hc rfl k
def fX7_step_b1 (x1 : Int32) (k1 : Int32 → St → Option (Int32 × St)) (v1 : Int32) (S2 : St) : Option (Int32 × St) :=
    (if (S2.1 0) = 0 then (if x1 ≤ v1 then (some (v1, S2))
    else (if (zI (S2.2.1 1)) = 0 then (lt (sI S2 11 0) fun S3 => (bd (fX7_interrupt S3) fun b2 S4 => (if (zI b2) = 0 then (if (zI (S4.2.1 0)) = 0 then (bv (fX7_instruction S4) fun S5 => (lt (v1 + 1) fun v3 => (k1 v3 S5)))
    else (some (v1, S4)))
    else (lt (v1 + 1) fun v2 => (k1 v2 S4)))))
    else (some (v1, S2))))
    else (some (v1, S2)))
def fX7_step_l1 (x1 : Int32) : Nat → Int32 → St → Option (Int32 × St)
  | 0 => fun _ _ => none
  | n + 1 => fX7_step_b1 x1 (fX7_step_l1 x1 n)
def fX7_step (x1 : Int32) (S : St) : Option (Int32 × St) :=
    (jn (fun (b1 : Bool) => (lt (sI S 0 (zI b1)) fun S1 => (fX7_step_l1 x1 3001 0 S1))) fun K1 =>
    (if x1 < 0 then (K1 true)
    else (if x1 ≤ 3000 then (K1 false)
    else (K1 true))))
abbrev rmX7_step : Room := { frames := 11, cells := 0, slots := 0, locals := 256 }
set_option maxRecDepth 100000 in
set_option maxHeartbeats 4000000 in
theorem mX7_step (l : Launch) (D : va_G) (ad : Nat → Nat) (cI cB : ClassId) (en : Nat → Nat) (S : St) (x1 : Int32) (ro : Int32) (So : St) (hs : fX7_step x1 S = some (ro, So)) : uM l yX7_step (wg yX7_step cX7_step 3 (some .int)) rmX7_step (KM D ad cI cB en) D (wM ad cI cB) (AX 11 ad) [.ref (ad 0), .int x1] S (some (.int ro), So) := by
  refine uM_start (by decide) rfl ?_
  intro p e s m below meth c hx hb hr hlocks hml hown hts hK hP
  have hT : ∀ w ∈ wG, w.before _ s = true := fun w h => hts w (List.mem_cons_of_mem _ h)
  have hS : va_S (AX 11 ad s.heap.size) s.heap s.heap [] := va_S.rf
  have hown : s.vm.findClass RX7 = some m.cls := hown
  have C : CallFix p m c cX7_step 3 s _ wG RX7 := ⟨hx, hb, hml, hown, hT⟩
  have hl := lv_entry ([.ref (ad 0), .int x1]) (n := 3) (Nat.le_of_ble_eq_true rfl)
  rw [lg_entry_eq]
  generalize (lg_sl ([.ref (ad 0), .int x1]) ++ List.replicate (3 - (lg_sl ([.ref (ad 0), .int x1])).length) Slot.unset).toArray = ls at hl ⊢
  have hl : lv_has ls 3 [(0, .ref (ad 0)), (1, .int x1)] := hl
  unfold fX7_step at hs
  refine lv_aload_n hx hb dX7_step_0 rfl (lv_at hl 0 rfl) ?_
  refine lv_iload_n hx hb dX7_step_1 rfl (lv_at hl 1 rfl) ?_
  refine jn_e hs (fun K1 => ∀ (b1 : Bool) (H : Heap) (locs : List Loc) (ls : Array Slot), lv_has ls 3 [(0, .ref (ad 0)), (1, .int x1)] → va_P D vwCl (wM ad cI cB S) H → va_S (AX 11 ad s.heap.size) s.heap H locs → K1 b1 = some (ro, So) → W p l e rmX7_step s m ([.ref (ad 0), .int x1] : List Value).toArray below meth c H locs 0 0 (MQ below (uQ D (wM ad cI cB) (some (.int ro), So) (AX 11 ad s.heap.size)) ([.ref (ad 0), .int x1] : List Value).toArray s 0 0 (AX 11 ad s.heap.size)) (F0 m 17 ls [.int (zI b1), .ref (ad 0)])) ?_ (fun K1 J1 hs => ?_)
  · intro b1 H locs ls hl hP hS hs
    obtain ⟨S1, h1, hs⟩ := lt_e hs
    refine pM_X7_thrown hx hb hT hown hK hP hS (hT _ tF_X7_43) dX7_step_17 (v := (zI b1)) h1 (fun H locs hP hS => ?_)
    refine lv_iconst (v := 0) hx hb dX7_step_20 (by decide) ?_
    refine lv_istore_n (lv' := [(2, .int 0), (0, .ref (ad 0)), (1, .int x1)]) hx hb dX7_step_21 rfl hl (by decide) rfl (fun ls hl => ?_)
    have L1 : ∀ (n : Nat) (v1 : Int32) (S2 : St) (H : Heap) (locs : List Loc) (ls : Array Slot), lv_has ls 3 [(2, .int v1), (0, .ref (ad 0)), (1, .int x1)] → va_P D vwCl (wM ad cI cB S2) H → va_S (AX 11 ad s.heap.size) s.heap H locs → fX7_step_l1 x1 n v1 S2 = some (ro, So) → W p l e rmX7_step s m ([.ref (ad 0), .int x1] : List Value).toArray below meth c H locs 0 0 (MQ below (uQ D (wM ad cI cB) (some (.int ro), So) (AX 11 ad s.heap.size)) ([.ref (ad 0), .int x1] : List Value).toArray s 0 0 (AX 11 ad s.heap.size)) (F0 m 22 ls []) := by
      intro n
      induction n with
      | zero => intro v1 S2 H locs ls hl hP hS hs; cases hs
      | succ n ih =>
        intro v1 S2 H locs ls hl hP hS hs
        have hs : fX7_step_b1 x1 (fX7_step_l1 x1 n) v1 S2 = some (ro, So) := hs
        unfold fX7_step_b1 at hs
        refine lv_aload_n hx hb dX7_step_22 rfl (lv_at hl 1 rfl) ?_
        refine gM_X7_thrown hx hb hT hown hK hP (hT _ tF_X7_43) dX7_step_23 ?_
        refine lv_if_ne (tgt := 72) hx hb dX7_step_26 (by decide) (fun c1 => ?_) (fun c1 => ?_)
        · have hs := if_f c1 hs
          refine lv_iload_n hx hb dX7_step_72 rfl (lv_at hl 0 rfl) ?_
          exact u_iret hx hb hr hlocks hP hS hs dX7_step_73
        · have hs := if_t c1 hs
          refine lv_iload_n hx hb dX7_step_29 rfl (lv_at hl 0 rfl) ?_
          refine lv_iload_n hx hb dX7_step_30 rfl (lv_at hl 2 rfl) ?_
          refine lv_icmp_ge (tgt := 72) hx hb dX7_step_31 (by decide) (fun c2 => ?_) (fun c2 => ?_)
          · have hs := if_t c2 hs
            refine lv_iload_n hx hb dX7_step_72 rfl (lv_at hl 0 rfl) ?_
            exact u_iret hx hb hr hlocks hP hS hs dX7_step_73
          · have hs := if_f c2 hs
            refine lv_aload_n hx hb dX7_step_34 rfl (lv_at hl 1 rfl) ?_
            refine gM_X7_halted hx hb hT hown hK hP (hT _ tF_X7_57) dX7_step_35 ?_
            refine lv_if_ne (tgt := 72) hx hb dX7_step_38 (by decide) (fun c3 => ?_) (fun c3 => ?_)
            · have hs := if_f c3 hs
              refine lv_iload_n hx hb dX7_step_72 rfl (lv_at hl 0 rfl) ?_
              exact u_iret hx hb hr hlocks hP hS hs dX7_step_73
            · have hs := if_t c3 hs
              refine lv_aload_n hx hb dX7_step_41 rfl (lv_at hl 1 rfl) ?_
              refine lv_iconst (v := 0) hx hb dX7_step_42 (by decide) ?_
              obtain ⟨S3, h2, hs⟩ := lt_e hs
              refine pM_X7_changes hx hb hT hown hK hP hS (hT _ tF_X7_79) dX7_step_43 (v := 0) h2 (fun H locs hP hS => ?_)
              refine lv_aload_n hx hb dX7_step_46 rfl (lv_at hl 1 rfl) ?_
              obtain ⟨b2, S4, h3, hs⟩ := bd_e hs
              refine kX7_interrupt C tM_X7_347 ⟨Nat.le_of_ble_eq_true rfl, Nat.le_of_ble_eq_true rfl⟩ ⟨Nat.le_of_ble_eq_true rfl, Nat.le_of_ble_eq_true rfl⟩ hK hP hS hl.1 (rest := []) (Nat.le_of_ble_eq_true rfl) dX7_step_47 h3 (fun H locs hP hS => ?_)
              refine lv_if_ne (tgt := 66) hx hb dX7_step_50 (by decide) (fun c4 => ?_) (fun c4 => ?_)
              · have hs := if_f c4 hs
                obtain ⟨v2, h4, hs⟩ := lt_e hs
                refine lv_iinc (v := v2) (lv' := [(2, .int v2), (0, .ref (ad 0)), (1, .int x1)]) hx hb dX7_step_66 hl (k := 0) rfl (by rw [h4]; rfl) (by decide) rfl (fun ls hl => ?_)
                refine lv_goto (tgt := 22) hx hb dX7_step_69 (by decide) ?_
                exact ih v2 S4 _ _ _ (lv_sub hl [0, 1, 2] rfl) hP hS hs
              · have hs := if_t c4 hs
                refine lv_aload_n hx hb dX7_step_53 rfl (lv_at hl 1 rfl) ?_
                refine gM_X7_waits hx hb hT hown hK hP (hT _ tF_X7_53) dX7_step_54 ?_
                refine lv_if_eq (tgt := 62) hx hb dX7_step_57 (by decide) (fun c5 => ?_) (fun c5 => ?_)
                · have hs := if_t c5 hs
                  refine lv_aload_n hx hb dX7_step_62 rfl (lv_at hl 1 rfl) ?_
                  obtain ⟨S5, h5, hs⟩ := bv_e hs
                  refine kX7_instruction C tM_X7_350 ⟨Nat.le_of_ble_eq_true rfl, Nat.le_of_ble_eq_true rfl⟩ ⟨Nat.le_of_ble_eq_true rfl, Nat.le_of_ble_eq_true rfl⟩ hK hP hS hl.1 (rest := []) (Nat.le_of_ble_eq_true rfl) dX7_step_63 h5 (fun H locs hP hS => ?_)
                  obtain ⟨v3, h6, hs⟩ := lt_e hs
                  refine lv_iinc (v := v3) (lv' := [(2, .int v3), (0, .ref (ad 0)), (1, .int x1)]) hx hb dX7_step_66 hl (k := 0) rfl (by rw [h6]; rfl) (by decide) rfl (fun ls hl => ?_)
                  refine lv_goto (tgt := 22) hx hb dX7_step_69 (by decide) ?_
                  exact ih v3 S5 _ _ _ (lv_sub hl [0, 1, 2] rfl) hP hS hs
                · have hs := if_f c5 hs
                  refine lv_iload_n hx hb dX7_step_60 rfl (lv_at hl 0 rfl) ?_
                  exact u_iret hx hb hr hlocks hP hS hs dX7_step_61
    exact L1 3001 0 S1 _ _ _ (lv_sub hl [0, 1, 2] rfl) hP hS hs
  ·
    refine lv_if_lt (tgt := 12) hx hb dX7_step_2 (by decide) (fun c6 => ?_) (fun c6 => ?_)
    · have hs := if_t c6 hs
      refine lv_iconst (v := 1) hx hb dX7_step_12 (by decide) ?_
      refine lv_goto (tgt := 17) hx hb dX7_step_13 (by decide) ?_
      exact J1 true _ _ _ (lv_sub hl [0, 1] rfl) hP hS hs
    · have hs := if_f c6 hs
      refine lv_iload_n hx hb dX7_step_5 rfl (lv_at hl 1 rfl) ?_
      refine lv_sipush (v := 3000) hx hb dX7_step_6 (by decide) ?_
      refine lv_icmp_le (tgt := 16) hx hb dX7_step_9 (by decide) (fun c7 => ?_) (fun c7 => ?_)
      · have hs := if_t c7 hs
        refine lv_iconst (v := 0) hx hb dX7_step_16 (by decide) ?_
        exact J1 false _ _ _ (lv_sub hl [0, 1] rfl) hP hS hs
      · have hs := if_f c7 hs
        refine lv_iconst (v := 1) hx hb dX7_step_12 (by decide) ?_
        refine lv_goto (tgt := 17) hx hb dX7_step_13 (by decide) ?_
        exact J1 true _ _ _ (lv_sub hl [0, 1] rfl) hP hS hs
theorem kX7_step {p : Program} {l : Launch} {e : Env} {R : Room} {s : State} {m : MethodId} {args : Array Value} {below : List Frame} {meth : Method} {c : Code} {H : Heap} {locs : List Loc} {cells slots : Nat} {Q : State → Prop} {cc : ByteArray} {pc nL : Nat} {ls : Array Slot} {rest : List Value} {D : va_G} {ad : Nat → Nat} {cI cB : ClassId} {en : Nat → Nat} {S : St} {own : String} {index : Nat} {x1 : Int32} {ro : Int32} {So : St} (C : CallFix p m c cc nL s args wG own) (hlk : Cond.methodLink own index yX7_step ∈ wG) (hR : rmX7_step.frames + 1 ≤ R.frames ∧ 8 + (3 + 11) + rmX7_step.locals ≤ R.locals) (hc : cells ≤ R.cells ∧ slots ≤ R.slots) (hK : KM D ad cI cB en s) (hP : va_P D vwCl (wM ad cI cB S) H) (hS : va_S (AX 11 ad s.heap.size) s.heap H locs) (hls : ls.size = nL) (hrest : (rest.map fun v => v.category).sum ≤ 8) (hd : decode cc pc = .ok (.invokevirtual index, 3)) (hs : fX7_step x1 S = some (ro, So)) (k : ∀ (H : Heap) (locs : List Loc), va_P D vwCl (wM ad cI cB So) H → va_S (AX 11 ad s.heap.size) s.heap H locs → W p l e R s m args below meth c H locs cells slots Q (F0 m (pc + 3) ls (.int ro :: rest))) : W p l e R s m args below meth c H locs cells slots Q (F0 m pc ls (.int x1 :: .ref (ad 0) :: rest)) :=
  u_callV (n := 1) (mX7_step l D ad cI cB en S x1 ro So hs) C uK_M (wg_V hlk tI_X7_step tS_X7_step tN_X7 tK_X7_step) rfl rfl rfl (by decide +kernel) hR rfl (va_recv hK.1 hP (ci := 6) (q0 := 0) rfl rfl) hK hP hS hls hrest hd hc rfl k
def fX7_state  (S : St) : Option (Int32 × St) :=
    (lt (sI S 0 0) fun S1 => (if (zI (S1.2.1 1)) = 0 then (if (zI (S1.2.1 0)) = 0 then (some (0, S1))
    else (some (1, S1)))
    else (some (2, S1))))
abbrev rmX7_state : Room := { frames := 0, cells := 0, slots := 0, locals := 0 }
set_option maxRecDepth 100000 in
set_option maxHeartbeats 4000000 in
theorem mX7_state (l : Launch) (D : va_G) (ad : Nat → Nat) (cI cB : ClassId) (en : Nat → Nat) (S : St)  (ro : Int32) (So : St) (hs : fX7_state  S = some (ro, So)) : uM l yX7_state (wg yX7_state cX7_state 1 (some .int)) rmX7_state (KM D ad cI cB en) D (wM ad cI cB) (AX 11 ad) [.ref (ad 0)] S (some (.int ro), So) := by
  refine uM_start (by decide) rfl ?_
  intro p e s m below meth c hx hb hr hlocks hml hown hts hK hP
  have hT : ∀ w ∈ wG, w.before _ s = true := fun w h => hts w (List.mem_cons_of_mem _ h)
  have hS : va_S (AX 11 ad s.heap.size) s.heap s.heap [] := va_S.rf
  have hown : s.vm.findClass RX7 = some m.cls := hown
  have C : CallFix p m c cX7_state 1 s _ wG RX7 := ⟨hx, hb, hml, hown, hT⟩
  have hl := lv_entry ([.ref (ad 0)]) (n := 1) (Nat.le_of_ble_eq_true rfl)
  rw [lg_entry_eq]
  generalize (lg_sl ([.ref (ad 0)]) ++ List.replicate (1 - (lg_sl ([.ref (ad 0)])).length) Slot.unset).toArray = ls at hl ⊢
  have hl : lv_has ls 1 [(0, .ref (ad 0))] := hl
  unfold fX7_state at hs
  refine lv_aload_n hx hb dX7_state_0 rfl (lv_at hl 0 rfl) ?_
  refine lv_iconst (v := 0) hx hb dX7_state_1 (by decide) ?_
  obtain ⟨S1, h1, hs⟩ := lt_e hs
  refine pM_X7_thrown hx hb hT hown hK hP hS (hT _ tF_X7_43) dX7_state_2 (v := 0) h1 (fun H locs hP hS => ?_)
  refine lv_aload_n hx hb dX7_state_5 rfl (lv_at hl 0 rfl) ?_
  refine gM_X7_halted hx hb hT hown hK hP (hT _ tF_X7_57) dX7_state_6 ?_
  refine lv_if_eq (tgt := 16) hx hb dX7_state_9 (by decide) (fun c1 => ?_) (fun c1 => ?_)
  · have hs := if_t c1 hs
    refine lv_aload_n hx hb dX7_state_16 rfl (lv_at hl 0 rfl) ?_
    refine gM_X7_waits hx hb hT hown hK hP (hT _ tF_X7_53) dX7_state_17 ?_
    refine lv_if_eq (tgt := 27) hx hb dX7_state_20 (by decide) (fun c2 => ?_) (fun c2 => ?_)
    · have hs := if_t c2 hs
      refine lv_iconst (v := 0) hx hb dX7_state_27 (by decide) ?_
      exact u_iret hx hb hr hlocks hP hS hs dX7_state_28
    · have hs := if_f c2 hs
      refine lv_iconst (v := 1) hx hb dX7_state_23 (by decide) ?_
      refine lv_goto (tgt := 28) hx hb dX7_state_24 (by decide) ?_
      exact u_iret hx hb hr hlocks hP hS hs dX7_state_28
  · have hs := if_f c1 hs
    refine lv_iconst (v := 2) hx hb dX7_state_12 (by decide) ?_
    refine lv_goto (tgt := 28) hx hb dX7_state_13 (by decide) ?_
    exact u_iret hx hb hr hlocks hP hS hs dX7_state_28
theorem kX7_state {p : Program} {l : Launch} {e : Env} {R : Room} {s : State} {m : MethodId} {args : Array Value} {below : List Frame} {meth : Method} {c : Code} {H : Heap} {locs : List Loc} {cells slots : Nat} {Q : State → Prop} {cc : ByteArray} {pc nL : Nat} {ls : Array Slot} {rest : List Value} {D : va_G} {ad : Nat → Nat} {cI cB : ClassId} {en : Nat → Nat} {S : St} {own : String} {index : Nat}  {ro : Int32} {So : St} (C : CallFix p m c cc nL s args wG own) (hlk : Cond.methodLink own index yX7_state ∈ wG) (hR : rmX7_state.frames + 1 ≤ R.frames ∧ 8 + (1 + 11) + rmX7_state.locals ≤ R.locals) (hc : cells ≤ R.cells ∧ slots ≤ R.slots) (hK : KM D ad cI cB en s) (hP : va_P D vwCl (wM ad cI cB S) H) (hS : va_S (AX 11 ad s.heap.size) s.heap H locs) (hls : ls.size = nL) (hrest : (rest.map fun v => v.category).sum ≤ 8) (hd : decode cc pc = .ok (.invokevirtual index, 3)) (hs : fX7_state  S = some (ro, So)) (k : ∀ (H : Heap) (locs : List Loc), va_P D vwCl (wM ad cI cB So) H → va_S (AX 11 ad s.heap.size) s.heap H locs → W p l e R s m args below meth c H locs cells slots Q (F0 m (pc + 3) ls (.int ro :: rest))) : W p l e R s m args below meth c H locs cells slots Q (F0 m pc ls (.ref (ad 0) :: rest)) :=
  u_callV (n := 0) (mX7_state l D ad cI cB en S  ro So hs) C uK_M (wg_V hlk tI_X7_state tS_X7_state tN_X7 tK_X7_state) rfl rfl rfl (by decide +kernel) hR rfl (va_recv hK.1 hP (ci := 6) (q0 := 0) rfl rfl) hK hP hS hls hrest hd hc rfl k
def fX7_exceptions (x1 : Int32) (S : St) : Option (Int32 × St) :=
    (jn (fun (b1 : Bool) => (lt (sI S 0 (zI b1)) fun S1 => (if (S1.1 0) ≤ 0 then (if x1 = 0 then (some ((S1.1 4), S1))
    else (gd (ixo x1 64 = true) (some ((S1.2.2 4 x1.toNatClampNeg), S1))))
    else (some (0, S1))))) fun K1 =>
    (if x1 < 0 then (K1 true)
    else (if x1 ≤ 63 then (K1 false)
    else (K1 true))))
abbrev rmX7_exceptions : Room := { frames := 0, cells := 0, slots := 0, locals := 0 }
set_option maxRecDepth 100000 in
set_option maxHeartbeats 4000000 in
theorem mX7_exceptions (l : Launch) (D : va_G) (ad : Nat → Nat) (cI cB : ClassId) (en : Nat → Nat) (S : St) (x1 : Int32) (ro : Int32) (So : St) (hs : fX7_exceptions x1 S = some (ro, So)) : uM l yX7_exceptions (wg yX7_exceptions cX7_exceptions 2 (some .int)) rmX7_exceptions (KM D ad cI cB en) D (wM ad cI cB) (AX 11 ad) [.ref (ad 0), .int x1] S (some (.int ro), So) := by
  refine uM_start (by decide) rfl ?_
  intro p e s m below meth c hx hb hr hlocks hml hown hts hK hP
  have hT : ∀ w ∈ wG, w.before _ s = true := fun w h => hts w (List.mem_cons_of_mem _ h)
  have hS : va_S (AX 11 ad s.heap.size) s.heap s.heap [] := va_S.rf
  have hown : s.vm.findClass RX7 = some m.cls := hown
  have C : CallFix p m c cX7_exceptions 2 s _ wG RX7 := ⟨hx, hb, hml, hown, hT⟩
  have hl := lv_entry ([.ref (ad 0), .int x1]) (n := 2) (Nat.le_of_ble_eq_true rfl)
  rw [lg_entry_eq]
  generalize (lg_sl ([.ref (ad 0), .int x1]) ++ List.replicate (2 - (lg_sl ([.ref (ad 0), .int x1])).length) Slot.unset).toArray = ls at hl ⊢
  have hl : lv_has ls 2 [(0, .ref (ad 0)), (1, .int x1)] := hl
  unfold fX7_exceptions at hs
  refine lv_aload_n hx hb dX7_exceptions_0 rfl (lv_at hl 0 rfl) ?_
  refine lv_iload_n hx hb dX7_exceptions_1 rfl (lv_at hl 1 rfl) ?_
  refine jn_e hs (fun K1 => ∀ (b1 : Bool) (H : Heap) (locs : List Loc) (ls : Array Slot), lv_has ls 2 [(0, .ref (ad 0)), (1, .int x1)] → va_P D vwCl (wM ad cI cB S) H → va_S (AX 11 ad s.heap.size) s.heap H locs → K1 b1 = some (ro, So) → W p l e rmX7_exceptions s m ([.ref (ad 0), .int x1] : List Value).toArray below meth c H locs 0 0 (MQ below (uQ D (wM ad cI cB) (some (.int ro), So) (AX 11 ad s.heap.size)) ([.ref (ad 0), .int x1] : List Value).toArray s 0 0 (AX 11 ad s.heap.size)) (F0 m 16 ls [.int (zI b1), .ref (ad 0)])) ?_ (fun K1 J1 hs => ?_)
  · intro b1 H locs ls hl hP hS hs
    obtain ⟨S1, h1, hs⟩ := lt_e hs
    refine pM_X7_thrown hx hb hT hown hK hP hS (hT _ tF_X7_43) dX7_exceptions_16 (v := (zI b1)) h1 (fun H locs hP hS => ?_)
    refine lv_aload_n hx hb dX7_exceptions_19 rfl (lv_at hl 0 rfl) ?_
    refine gM_X7_thrown hx hb hT hown hK hP (hT _ tF_X7_43) dX7_exceptions_20 ?_
    refine lv_if_le (tgt := 30) hx hb dX7_exceptions_23 (by decide) (fun c1 => ?_) (fun c1 => ?_)
    · have hs := if_t c1 hs
      refine lv_iload_n hx hb dX7_exceptions_30 rfl (lv_at hl 1 rfl) ?_
      refine lv_if_ne (tgt := 41) hx hb dX7_exceptions_31 (by decide) (fun c2 => ?_) (fun c2 => ?_)
      · have hs := if_f c2 hs
        refine lv_aload_n hx hb dX7_exceptions_41 rfl (lv_at hl 0 rfl) ?_
        refine gM_X7_counts hx hb hT hown hK hP (hT _ tF_X7_22) dX7_exceptions_42 ?_
        refine lv_iload_n hx hb dX7_exceptions_45 rfl (lv_at hl 1 rfl) ?_
        obtain ⟨h2, hs⟩ := gd_e hs
        refine lM_counts hx hb hK hP (ixo_in h2) dX7_exceptions_46 ?_
        exact u_iret hx hb hr hlocks hP hS hs dX7_exceptions_47
      · have hs := if_t c2 hs
        refine lv_aload_n hx hb dX7_exceptions_34 rfl (lv_at hl 0 rfl) ?_
        refine gM_X7_all hx hb hT hown hK hP (hT _ tF_X7_63) dX7_exceptions_35 ?_
        refine lv_goto (tgt := 47) hx hb dX7_exceptions_38 (by decide) ?_
        exact u_iret hx hb hr hlocks hP hS hs dX7_exceptions_47
    · have hs := if_f c1 hs
      refine lv_iconst (v := 0) hx hb dX7_exceptions_26 (by decide) ?_
      refine lv_goto (tgt := 47) hx hb dX7_exceptions_27 (by decide) ?_
      exact u_iret hx hb hr hlocks hP hS hs dX7_exceptions_47
  ·
    refine lv_if_lt (tgt := 11) hx hb dX7_exceptions_2 (by decide) (fun c3 => ?_) (fun c3 => ?_)
    · have hs := if_t c3 hs
      refine lv_iconst (v := 1) hx hb dX7_exceptions_11 (by decide) ?_
      refine lv_goto (tgt := 16) hx hb dX7_exceptions_12 (by decide) ?_
      exact J1 true _ _ _ (lv_sub hl [0, 1] rfl) hP hS hs
    · have hs := if_f c3 hs
      refine lv_iload_n hx hb dX7_exceptions_5 rfl (lv_at hl 1 rfl) ?_
      refine lv_bipush (v := 63) hx hb dX7_exceptions_6 (by decide) ?_
      refine lv_icmp_le (tgt := 15) hx hb dX7_exceptions_8 (by decide) (fun c4 => ?_) (fun c4 => ?_)
      · have hs := if_t c4 hs
        refine lv_iconst (v := 0) hx hb dX7_exceptions_15 (by decide) ?_
        exact J1 false _ _ _ (lv_sub hl [0, 1] rfl) hP hS hs
      · have hs := if_f c4 hs
        refine lv_iconst (v := 1) hx hb dX7_exceptions_11 (by decide) ?_
        refine lv_goto (tgt := 16) hx hb dX7_exceptions_12 (by decide) ?_
        exact J1 true _ _ _ (lv_sub hl [0, 1] rfl) hP hS hs
theorem kX7_exceptions {p : Program} {l : Launch} {e : Env} {R : Room} {s : State} {m : MethodId} {args : Array Value} {below : List Frame} {meth : Method} {c : Code} {H : Heap} {locs : List Loc} {cells slots : Nat} {Q : State → Prop} {cc : ByteArray} {pc nL : Nat} {ls : Array Slot} {rest : List Value} {D : va_G} {ad : Nat → Nat} {cI cB : ClassId} {en : Nat → Nat} {S : St} {own : String} {index : Nat} {x1 : Int32} {ro : Int32} {So : St} (C : CallFix p m c cc nL s args wG own) (hlk : Cond.methodLink own index yX7_exceptions ∈ wG) (hR : rmX7_exceptions.frames + 1 ≤ R.frames ∧ 8 + (2 + 11) + rmX7_exceptions.locals ≤ R.locals) (hc : cells ≤ R.cells ∧ slots ≤ R.slots) (hK : KM D ad cI cB en s) (hP : va_P D vwCl (wM ad cI cB S) H) (hS : va_S (AX 11 ad s.heap.size) s.heap H locs) (hls : ls.size = nL) (hrest : (rest.map fun v => v.category).sum ≤ 8) (hd : decode cc pc = .ok (.invokevirtual index, 3)) (hs : fX7_exceptions x1 S = some (ro, So)) (k : ∀ (H : Heap) (locs : List Loc), va_P D vwCl (wM ad cI cB So) H → va_S (AX 11 ad s.heap.size) s.heap H locs → W p l e R s m args below meth c H locs cells slots Q (F0 m (pc + 3) ls (.int ro :: rest))) : W p l e R s m args below meth c H locs cells slots Q (F0 m pc ls (.int x1 :: .ref (ad 0) :: rest)) :=
  u_callV (n := 1) (mX7_exceptions l D ad cI cB en S x1 ro So hs) C uK_M (wg_V hlk tI_X7_exceptions tS_X7_exceptions tN_X7 tK_X7_exceptions) rfl rfl rfl (by decide +kernel) hR rfl (va_recv hK.1 hP (ci := 6) (q0 := 0) rfl rfl) hK hP hS hls hrest hd hc rfl k
