/-! ===== the law's helpers ===== -/
abbrev wgH (y : MethodName) (b : ByteArray) (n : Nat) (hh : List (Nat × Nat × Nat × Nat)) : List Cond := Cond.codeWith y b n (some .int) hh :: wG
abbrev rmH : Room := { frames := 8, cells := 1, slots := 6, locals := 210 }
def adO (ad : Nat → Nat) (o : Nat) : Nat → Nat := fun k => if k = 10 then o else ad k
def wO (ad : Nat → Nat) (o : Nat) (cI cB cJ : ClassId) (S : St) (f : Nat → Int64) : va_W := wB ad cI cB S ++ [(o, .inl (cJ, 1, .inr (.inl f)))]
def KO (D : va_G) (ad : Nat → Nat) (o : Nat) (cI cB cJ : ClassId) (en : Nat → Nat) (U : State) : Prop := KB D ad cI cB en U ∧ va_K D vwCl [(cJ, .long)] U ∧ (∀ k, k < 10 → ad k ≠ o) ∧ EX (fun _ => False) U U.heap
def KP (D : va_G) (ad : Nat → Nat) (cI cB : ClassId) (en : Nat → Nat) (U : State) : Prop := KB D ad cI cB en U ∧ EX (fun _ => False) U U.heap
abbrev QO (D : va_G) (ad : Nat → Nat) (o : Nat) (cI cB cJ : ClassId) (sz : Nat) (k : Int32) (S : St) (f : Nat → Int64) : Array Value → State → Outcome → State → Prop := fun _ st o9 t => o9 = .returned (some (.int k)) ∧ va_P D vwCl (wO ad o cI cB cJ S f) t.heap ∧ va_F (AX 11 (adO ad o) sz) st t
abbrev QP (D : va_G) (ad : Nat → Nat) (cI cB : ClassId) (sz : Nat) (k : Int32) (S : St) : Array Value → State → Outcome → State → Prop := fun _ st o9 t => o9 = .returned (some (.int k)) ∧ va_P D vwCl (wB ad cI cB S) t.heap ∧ va_F (AX 10 ad sz) st t
abbrev PO (D : va_G) (ad : Nat → Nat) (o : Nat) (cI cB cJ : ClassId) (en : Nat → Nat) (As : List Value) (S : St) (f : Nat → Int64) (sz : Nat) : Array Value → State → Prop := va_Pc As (fun U => U.heap.size = sz ∧ va_P D vwCl (wO ad o cI cB cJ S f) U.heap ∧ KO D ad o cI cB cJ en U)
abbrev PP (D : va_G) (ad : Nat → Nat) (cI cB : ClassId) (en : Nat → Nat) (As : List Value) (S : St) (sz : Nat) : Array Value → State → Prop := va_Pc As (fun U => U.heap.size = sz ∧ va_P D vwCl (wB ad cI cB S) U.heap ∧ KP D ad cI cB en U)
theorem adO_in {ad : Nat → Nat} {o sz q : Nat} (h : AX 10 ad sz q) : AX 11 (adO ad o) sz q := by
  rcases h with ⟨k, hk, rfl⟩ | h
  · refine Or.inl ⟨k, by omega, ?_⟩
    unfold adO
    rw [if_neg (by omega)]
  · exact Or.inr h
theorem adO_D {ad : Nat → Nat} {o : Nat} {cI cB cJ : ClassId} {S : St} {f : Nat → Int64} (sz : Nat) (h1 : ∀ i j, i < 10 → j < 10 → ad i = ad j → i = j) (h2 : ∀ k, k < 10 → ad k ≠ o) : va_D (AX 11 (adO ad o) sz) (wO ad o cI cB cJ S f) := by
  refine w_D rfl ?_ sz
  intro i j hi hj h
  unfold adO at h
  by_cases a : i = 10
  · by_cases b : j = 10
    · omega
    · rw [if_pos a, if_neg b] at h
      exact absurd h.symm (h2 j (by omega))
  · by_cases b : j = 10
    · rw [if_neg a, if_pos b] at h
      exact absurd h (h2 i (by omega))
    · rw [if_neg a, if_neg b] at h
      exact h1 i j (by omega) (by omega) h
theorem wO_B {D : va_G} {ad : Nat → Nat} {o : Nat} {cI cB cJ : ClassId} {S : St} {f : Nat → Int64} {H : Heap} (h : va_P D vwCl (wO ad o cI cB cJ S f) H) : va_P D vwCl (wB ad cI cB S) H := h.sub [0, 1, 2, 3, 4, 5, 6, 7, 8, 9] rfl
theorem wO_o {D : va_G} {ad : Nat → Nat} {o : Nat} {cI cB cJ : ClassId} {S : St} {f : Nat → Int64} {H : Heap} (h : va_P D vwCl (wO ad o cI cB cJ S f) H) : va_P D vwCl [(o, .inl (cJ, 1, .inr (.inl f)))] H := h.sub [10] rfl
theorem wO_keep {D : va_G} {ad : Nat → Nat} {o : Nat} {cI cB cJ : ClassId} {S S1 : St} {f : Nat → Int64} {H H1 : Heap} (h : va_P D vwCl (wO ad o cI cB cJ S f) H) (hB : va_P D vwCl (wB ad cI cB S1) H1) (ho : ∀ k, k < 10 → ad k ≠ o) (hk : ∀ q : Nat, q < H.size → ¬ AX 10 ad H.size q → H1[q]? = H[q]?) : va_P D vwCl (wO ad o cI cB cJ S1 f) H1 := by
  refine hB.app ((wO_o h).kept ?_)
  intro k q hq
  have hlt : o < H.size := vx_lt (wO_o h) (k := 0) rfl
  have : q.1 = o := by
    match k, hq with
    | 0, hq => cases hq; rfl
    | k + 1, hq => cases hq
  rw [this]
  refine hk o hlt ?_
  rintro (⟨k, hk, e⟩ | e)
  · exact ho k hk e.symm
  · omega
theorem nil_of {L : List Loc} (h : ∀ z ∈ L, False) : L = [] := by
  cases L with
  | nil => rfl
  | cons a b => exact (h a List.mem_cons_self).elim
theorem blind_T {As : List Value} : FrameBlind (va_Pc As (fun U => EX (fun _ => False) U U.heap)) := fun a U g mk q => ⟨q.1, EX.same rfl q.2⟩
set_option maxRecDepth 100000 in
set_option maxHeartbeats 4000000 in
theorem hL_register (l : Launch) (hl : l.stackTraces = false) (D : va_G) (ad : Nat → Nat) (cI cB : ClassId) (en : Nat → Nat) (o : Nat) (cJ : ClassId) (S : St) (f : Nat → Int64) (x1 k : Int32) (S1 : St) (f1 : Nat → Int64) (hc : ((x1 < 0 ∨ ¬ x1 ≤ 19) ∧ k = 1 ∧ S1 = S ∧ f1 = f) ∨ ∃ r, fX6_register x1 S = some (r, S1) ∧ k = 0 ∧ f1 = vp_updL f 0 r.toInt64) (sz : Nat) :
    vx_Met l yL_register (wgH yL_register cL_register 4 [(0, 9, 12, 13)]) rmH (PO D ad o cI cB cJ en ([.ref (ad 0), .int x1, .ref o]) S f sz) (QO D ad o cI cB cJ sz k S1 f1) (fun _ _ _ => False) 1 6 (AX 11 (adO ad o) sz) := by
  refine vx_ofWH (cc := cL_register) (maxL := 4) (ret := some .int) (hh := [(0, 9, 12, 13)]) (by decide) rfl ?_
  intro p e s m args below meth c s₁ B hml hv
  obtain ⟨rfl, rfl, hP, hK⟩ := hv
  have hx := B.exec
  have hb := B.bytes
  have hr := B.returns
  have hlocks := B.notSynchronized
  have hts := atoms_spec (ws := wgH yL_register cL_register 4 [(0, 9, 12, 13)]) B.pre
  have htab := vx_table (x := yL_law) B (hts _ List.mem_cons_self)
  have hT : ∀ w ∈ wG, w.before _ s = true := fun w h => hts w (List.mem_cons_of_mem _ h)
  have hown : s.vm.findClass RL = some m.cls := findClass_of_methodNamed B.named
  have hS : va_S (AX 11 (adO ad o) s.heap.size) s.heap s.heap [] := va_S.rf
  have C : CallFix p m c cL_register 4 s _ wG RL := ⟨hx, hb, hml, hown, hT⟩
  have hl9 := lv_entry ([.ref (ad 0), .int x1, .ref o]) (n := 4) (Nat.le_of_ble_eq_true rfl)
  rw [lg_entry_eq]
  generalize (lg_sl ([.ref (ad 0), .int x1, .ref o]) ++ List.replicate (4 - (lg_sl ([.ref (ad 0), .int x1, .ref o])).length) Slot.unset).toArray = ls at hl9 ⊢
  have hl9 : lv_has ls 4 [(0, .ref (ad 0)), (1, .int x1), (2, .ref o)] := hl9
  refine lv_aload_n hx hb dL_register_0 rfl (lv_at hl9 2 rfl) ?_
  refine lv_iconst (v := 0) hx hb dL_register_1 (by decide) ?_
  refine lv_aload_n hx hb dL_register_2 rfl (lv_at hl9 0 rfl) ?_
  refine lv_iload_n hx hb dL_register_3 rfl (lv_at hl9 1 rfl) ?_
  rcases hc with ⟨hc, rfl, rfl, rfl⟩ | ⟨r, hf, rfl, rfl⟩
  · have hrun := vx_runV (cells := 0) (slots := 0) (locs := []) (meth := meth) (below := below) (e := e) (As := [.int x1]) (rest := [.int 0, .ref o]) (R := rmH) C (tX6_register l hl (ad 0) x1 hc) (cwV 1 hT (wg_V tM_L_7 tI_X6_register tS_X6_register tN_X6 tK_X6_register) rfl rfl rfl (by decide +kernel) ⟨by decide, by decide⟩) ⟨blind_T, va_recv hK.1.1 (wO_B hP) (ci := 5) (q0 := 0) rfl rfl, fun U hU hW => ⟨rfl, EX.warm hW (by rw [hU]; exact hK.2.2.2)⟩⟩ (g := F0 m 4 ls (.int x1 :: .ref (ad 0) :: [.int 0, .ref o])) rfl rfl hl9.1 rfl (lv_room (Nat.le_of_ble_eq_true rfl)) dL_register_4 ⟨by decide, by decide⟩
    intro T hT0 X
    rcases hrun T hT0 X with ⟨v, st₀, t, T', L, h0, X', hL, e1, e2, hq, st⟩ | ⟨q, st₀, t, T', L, E, ce, h0, X', hL, e1, e2, ⟨rfl, hF⟩, hce, hcv, hcl, st⟩
    · exact hq.elim
    · obtain rfl := nil_of hL
      have hkeep : ∀ j : Nat, j < s.heap.size → T'.heap[j]? = s.heap[j]? := fun j hj => by rw [e1, hF.2 j (by rw [h0]; exact hj) (fun z => z), h0]
      have hz : s.heap.size ≤ T'.heap.size := by rw [e1, ← h0]; exact hF.1
      have hP1 := hP.kept (H1 := T'.heap) (fun k9 q9 hq9 => hkeep _ (vx_lt hP hq9))
      have hS1 : va_S (AX 11 (adO ad o) s.heap.size) s.heap T'.heap [] := ⟨hz, fun j hj _ => hkeep j hj, fun _ h => by cases h⟩
      have hcatch : vx_W p l e rmH s m (#[.ref (ad 0), .int x1, .ref o] : Array Value) below meth c T'.heap [] 1 6 (vx_MQ below (QO D ad o cI cB cJ s.heap.size 1 S1 f1) (fun _ _ _ => False) (#[.ref (ad 0), .int x1, .ref o] : Array Value) s 1 6 (AX 11 (adO ad o) s.heap.size)) (F0 m 4 ls [.int 0, .ref o]) q := by
        refine cx_catch hown ⟨0, 9, 12, 13⟩ [] htab (by decide) (by decide) (hT _ tC_L_13) (va_Nw.use rfl hK.2.2.2.2.2.1) (by rw [e1]; exact hce) hcv hcl ?_
        refine lv_astore_n (lv' := [(3, .ref q), (0, .ref (ad 0)), (1, .int x1), (2, .ref o)]) hx hb dL_register_12 rfl hl9 (by decide) rfl (fun ls hl9 => ?_)
        refine lv_iconst (v := 1) hx hb dL_register_13 (by decide) ?_
        exact vx_ret (W.iret (v := 1) hx hb hr (fun t9 ht9 _ => ⟨rfl, by rw [ht9]; exact hP1, hS1.F ht9⟩) hS1.2.2 dL_register_14)
      obtain ⟨t2, a1, b1⟩ := hcatch T' rfl X'
      exact ⟨t2, st.trans a1, b1⟩
  · refine u_callV2 (n := 1) (rest := [.int 0, .ref o]) (mX6_register l D ad cI cB en S x1 r S1 hf) C uK_B (wg_V tM_L_7 tI_X6_register tS_X6_register tN_X6 tK_X6_register) rfl rfl rfl (by decide +kernel) ⟨by decide, by decide⟩ rfl (va_recv hK.1.1 (wO_B hP) (ci := 5) (q0 := 0) rfl rfl) (fun U hU hW => uK_B.2.1 s U s.heap [] hK.1 va_S.rf hU hW) (wO_B hP) hS (fun q hq => adO_in hq) hl9.1 (Nat.le_of_ble_eq_true rfl) dL_register_4 ⟨by decide, by decide⟩ rfl (fun H1 locs1 hP1 hz1 hk1 hS1 => ?_)
    have hP2 := wO_keep hP hP1 hK.2.2.1 hk1
    have hD2 : va_D (AX 11 (adO ad o) s.heap.size) (wO ad o cI cB cJ S1 f) := adO_D _ hK.1.2.1 hK.2.2.1
    have hK3 := hK.1.1.app hK.2.1
    refine lv_i2l (v := r.toInt64) hx hb dL_register_7 rfl ?_
    refine va_last hx hb hK3 hP2 hD2 hS1 10 2 rfl rfl (by rintro (z | z) <;> revert z <;> decide) dL_register_8 (fun H2 locs2 hP3 hD3 hS3 => ?_)
    have hP3 : va_P D vwCl (wO ad o cI cB cJ S1 (vp_updL f 0 r.toInt64)) H2 := hP3
    refine lv_goto (tgt := 15) hx hb dL_register_9 (by decide) ?_
    refine lv_iconst (v := 0) hx hb dL_register_15 (by decide) ?_
    refine W.widen (k := 1) (n := 6) (by decide) (by decide) ?_
    exact vx_ret (W.iret (v := 0) hx hb hr (fun t9 ht9 _ => ⟨rfl, by rw [ht9]; exact hP3, hS3.F ht9⟩) hS3.2.2 dL_register_16)
set_option maxRecDepth 100000 in
set_option maxHeartbeats 4000000 in
theorem hL_put (l : Launch) (hl : l.stackTraces = false) (D : va_G) (ad : Nat → Nat) (cI cB : ClassId) (en : Nat → Nat) (S : St) (x1 x2 k : Int32) (S1 : St) (hc : ((x1 < 0 ∨ ¬ x1 ≤ 19) ∧ k = 1 ∧ S1 = S) ∨ (fX6_put x1 x2 S = some S1 ∧ k = 0)) (sz : Nat) :
    vx_Met l yL_put (wgH yL_put cL_put 4 [(0, 6, 9, 13)]) rmH (PP D ad cI cB en ([.ref (ad 0), .int x1, .int x2]) S sz) (QP D ad cI cB sz k S1) (fun _ _ _ => False) 1 6 (AX 10 ad sz) := by
  refine vx_ofWH (cc := cL_put) (maxL := 4) (ret := some .int) (hh := [(0, 6, 9, 13)]) (by decide) rfl ?_
  intro p e s m args below meth c s₁ B hml hv
  obtain ⟨rfl, rfl, hP, hK⟩ := hv
  have hx := B.exec
  have hb := B.bytes
  have hr := B.returns
  have hlocks := B.notSynchronized
  have hts := atoms_spec (ws := wgH yL_put cL_put 4 [(0, 6, 9, 13)]) B.pre
  have htab := vx_table (x := yL_law) B (hts _ List.mem_cons_self)
  have hT : ∀ w ∈ wG, w.before _ s = true := fun w h => hts w (List.mem_cons_of_mem _ h)
  have hown : s.vm.findClass RL = some m.cls := findClass_of_methodNamed B.named
  have hS : va_S (AX 10 ad s.heap.size) s.heap s.heap [] := va_S.rf
  have C : CallFix p m c cL_put 4 s _ wG RL := ⟨hx, hb, hml, hown, hT⟩
  have hl9 := lv_entry ([.ref (ad 0), .int x1, .int x2]) (n := 4) (Nat.le_of_ble_eq_true rfl)
  rw [lg_entry_eq]
  generalize (lg_sl ([.ref (ad 0), .int x1, .int x2]) ++ List.replicate (4 - (lg_sl ([.ref (ad 0), .int x1, .int x2])).length) Slot.unset).toArray = ls at hl9 ⊢
  have hl9 : lv_has ls 4 [(0, .ref (ad 0)), (1, .int x1), (2, .int x2)] := hl9
  refine lv_aload_n hx hb dL_put_0 rfl (lv_at hl9 0 rfl) ?_
  refine lv_iload_n hx hb dL_put_1 rfl (lv_at hl9 1 rfl) ?_
  refine lv_iload_n hx hb dL_put_2 rfl (lv_at hl9 2 rfl) ?_
  rcases hc with ⟨hc, rfl, rfl⟩ | ⟨hf, rfl⟩
  · have hrun := vx_runV (cells := 0) (slots := 0) (locs := []) (meth := meth) (below := below) (e := e) (As := [.int x1, .int x2]) (rest := []) (R := rmH) C (tX6_put l hl (ad 0) x1 x2 hc) (cwV 2 hT (wg_V tM_L_15 tI_X6_put tS_X6_put tN_X6 tK_X6_put) rfl rfl rfl (by decide +kernel) ⟨by decide, by decide⟩) ⟨blind_T, va_recv hK.1.1 hP (ci := 5) (q0 := 0) rfl rfl, fun U hU hW => ⟨rfl, EX.warm hW (by rw [hU]; exact hK.2)⟩⟩ (g := F0 m 3 ls (.int x2 :: .int x1 :: .ref (ad 0) :: [])) rfl rfl hl9.1 rfl (lv_room (Nat.le_of_ble_eq_true rfl)) dL_put_3 ⟨by decide, by decide⟩
    intro T hT0 X
    rcases hrun T hT0 X with ⟨v, st₀, t, T', L, h0, X', hL, e1, e2, hq, st⟩ | ⟨q, st₀, t, T', L, E, ce, h0, X', hL, e1, e2, ⟨rfl, hF⟩, hce, hcv, hcl, st⟩
    · exact hq.elim
    · obtain rfl := nil_of hL
      have hkeep : ∀ j : Nat, j < s.heap.size → T'.heap[j]? = s.heap[j]? := fun j hj => by rw [e1, hF.2 j (by rw [h0]; exact hj) (fun z => z), h0]
      have hz : s.heap.size ≤ T'.heap.size := by rw [e1, ← h0]; exact hF.1
      have hP1 := hP.kept (H1 := T'.heap) (fun k9 q9 hq9 => hkeep _ (vx_lt hP hq9))
      have hS1 : va_S (AX 10 ad s.heap.size) s.heap T'.heap [] := ⟨hz, fun j hj _ => hkeep j hj, fun _ h => by cases h⟩
      have hcatch : vx_W p l e rmH s m (#[.ref (ad 0), .int x1, .int x2] : Array Value) below meth c T'.heap [] 1 6 (vx_MQ below (QP D ad cI cB s.heap.size 1 S1) (fun _ _ _ => False) (#[.ref (ad 0), .int x1, .int x2] : Array Value) s 1 6 (AX 10 ad s.heap.size)) (F0 m 3 ls []) q := by
        refine cx_catch hown ⟨0, 6, 9, 13⟩ [] htab (by decide) (by decide) (hT _ tC_L_13) (va_Nw.use rfl hK.2.2.2.1) (by rw [e1]; exact hce) hcv hcl ?_
        refine lv_astore_n (lv' := [(3, .ref q), (0, .ref (ad 0)), (1, .int x1), (2, .int x2)]) hx hb dL_put_9 rfl hl9 (by decide) rfl (fun ls hl9 => ?_)
        refine lv_iconst (v := 1) hx hb dL_put_10 (by decide) ?_
        exact vx_ret (W.iret (v := 1) hx hb hr (fun t9 ht9 _ => ⟨rfl, by rw [ht9]; exact hP1, hS1.F ht9⟩) hS1.2.2 dL_put_11)
      obtain ⟨t2, a1, b1⟩ := hcatch T' rfl X'
      exact ⟨t2, st.trans a1, b1⟩
  · refine u_callV2 (n := 2) (rest := []) (mX6_put l D ad cI cB en S x1 x2 S1 hf) C uK_B (wg_V tM_L_15 tI_X6_put tS_X6_put tN_X6 tK_X6_put) rfl rfl rfl (by decide +kernel) ⟨by decide, by decide⟩ rfl (va_recv hK.1.1 hP (ci := 5) (q0 := 0) rfl rfl) (fun U hU hW => uK_B.2.1 s U s.heap [] hK.1 va_S.rf hU hW) hP hS (fun q hq => hq) hl9.1 (Nat.le_of_ble_eq_true rfl) dL_put_3 ⟨by decide, by decide⟩ rfl (fun H1 locs1 hP1 hz1 hk1 hS1 => ?_)
    refine lv_goto (tgt := 12) hx hb dL_put_6 (by decide) ?_
    refine lv_iconst (v := 0) hx hb dL_put_12 (by decide) ?_
    refine W.widen (k := 1) (n := 6) (by decide) (by decide) ?_
    exact vx_ret (W.iret (v := 0) hx hb hr (fun t9 ht9 _ => ⟨rfl, by rw [ht9]; exact hP1, hS1.F ht9⟩) hS1.2.2 dL_put_13)
set_option maxRecDepth 100000 in
set_option maxHeartbeats 4000000 in
theorem hL_write (l : Launch) (hl : l.stackTraces = false) (D : va_G) (ad : Nat → Nat) (cI cB : ClassId) (en : Nat → Nat) (S : St) (x1 x2 x3 k : Int32) (S1 : St) (hc : ((¬ x3 = 1 ∧ ¬ x3 = 2 ∧ ¬ x3 = 4) ∧ k = 1 ∧ S1 = S) ∨ (fX6_write x1 x2 x3 S = some S1 ∧ k = 0)) (sz : Nat) :
    vx_Met l yL_write (wgH yL_write cL_write 5 [(0, 7, 10, 23)]) rmH (PP D ad cI cB en ([.ref (ad 0), .int x1, .int x2, .int x3]) S sz) (QP D ad cI cB sz k S1) (fun _ _ _ => False) 1 6 (AX 10 ad sz) := by
  refine vx_ofWH (cc := cL_write) (maxL := 5) (ret := some .int) (hh := [(0, 7, 10, 23)]) (by decide) rfl ?_
  intro p e s m args below meth c s₁ B hml hv
  obtain ⟨rfl, rfl, hP, hK⟩ := hv
  have hx := B.exec
  have hb := B.bytes
  have hr := B.returns
  have hlocks := B.notSynchronized
  have hts := atoms_spec (ws := wgH yL_write cL_write 5 [(0, 7, 10, 23)]) B.pre
  have htab := vx_table (x := yL_law) B (hts _ List.mem_cons_self)
  have hT : ∀ w ∈ wG, w.before _ s = true := fun w h => hts w (List.mem_cons_of_mem _ h)
  have hown : s.vm.findClass RL = some m.cls := findClass_of_methodNamed B.named
  have hS : va_S (AX 10 ad s.heap.size) s.heap s.heap [] := va_S.rf
  have C : CallFix p m c cL_write 5 s _ wG RL := ⟨hx, hb, hml, hown, hT⟩
  have hl9 := lv_entry ([.ref (ad 0), .int x1, .int x2, .int x3]) (n := 5) (Nat.le_of_ble_eq_true rfl)
  rw [lg_entry_eq]
  generalize (lg_sl ([.ref (ad 0), .int x1, .int x2, .int x3]) ++ List.replicate (5 - (lg_sl ([.ref (ad 0), .int x1, .int x2, .int x3])).length) Slot.unset).toArray = ls at hl9 ⊢
  have hl9 : lv_has ls 5 [(0, .ref (ad 0)), (1, .int x1), (2, .int x2), (3, .int x3)] := hl9
  refine lv_aload_n hx hb dL_write_0 rfl (lv_at hl9 0 rfl) ?_
  refine lv_iload_n hx hb dL_write_1 rfl (lv_at hl9 1 rfl) ?_
  refine lv_iload_n hx hb dL_write_2 rfl (lv_at hl9 2 rfl) ?_
  refine lv_iload_n hx hb dL_write_3 rfl (lv_at hl9 3 rfl) ?_
  rcases hc with ⟨hc, rfl, rfl⟩ | ⟨hf, rfl⟩
  · have hrun := vx_runV (cells := 0) (slots := 0) (locs := []) (meth := meth) (below := below) (e := e) (As := [.int x1, .int x2, .int x3]) (rest := []) (R := rmH) C (tX6_write l hl (ad 0) x1 x2 x3 hc) (cwV 3 hT (wg_V tM_L_19 tI_X6_write tS_X6_write tN_X6 tK_X6_write) rfl rfl rfl (by decide +kernel) ⟨by decide, by decide⟩) ⟨blind_T, va_recv hK.1.1 hP (ci := 5) (q0 := 0) rfl rfl, fun U hU hW => ⟨rfl, EX.warm hW (by rw [hU]; exact hK.2)⟩⟩ (g := F0 m 4 ls (.int x3 :: .int x2 :: .int x1 :: .ref (ad 0) :: [])) rfl rfl hl9.1 rfl (lv_room (Nat.le_of_ble_eq_true rfl)) dL_write_4 ⟨by decide, by decide⟩
    intro T hT0 X
    rcases hrun T hT0 X with ⟨v, st₀, t, T', L, h0, X', hL, e1, e2, hq, st⟩ | ⟨q, st₀, t, T', L, E, ce, h0, X', hL, e1, e2, ⟨rfl, hF⟩, hce, hcv, hcl, st⟩
    · exact hq.elim
    · obtain rfl := nil_of hL
      have hkeep : ∀ j : Nat, j < s.heap.size → T'.heap[j]? = s.heap[j]? := fun j hj => by rw [e1, hF.2 j (by rw [h0]; exact hj) (fun z => z), h0]
      have hz : s.heap.size ≤ T'.heap.size := by rw [e1, ← h0]; exact hF.1
      have hP1 := hP.kept (H1 := T'.heap) (fun k9 q9 hq9 => hkeep _ (vx_lt hP hq9))
      have hS1 : va_S (AX 10 ad s.heap.size) s.heap T'.heap [] := ⟨hz, fun j hj _ => hkeep j hj, fun _ h => by cases h⟩
      have hcatch : vx_W p l e rmH s m (#[.ref (ad 0), .int x1, .int x2, .int x3] : Array Value) below meth c T'.heap [] 1 6 (vx_MQ below (QP D ad cI cB s.heap.size 1 S1) (fun _ _ _ => False) (#[.ref (ad 0), .int x1, .int x2, .int x3] : Array Value) s 1 6 (AX 10 ad s.heap.size)) (F0 m 4 ls []) q := by
        refine cx_catch hown ⟨0, 7, 10, 23⟩ [] htab (by decide) (by decide) (hT _ tC_L_23) (va_Nw.use rfl hK.2.2.2.2.1) (by rw [e1]; exact hce) hcv hcl ?_
        refine lv_astore (lv' := [(4, .ref q), (0, .ref (ad 0)), (1, .int x1), (2, .int x2), (3, .int x3)]) hx hb dL_write_10 hl9 (by decide) rfl (fun ls hl9 => ?_)
        refine lv_iconst (v := 1) hx hb dL_write_12 (by decide) ?_
        exact vx_ret (W.iret (v := 1) hx hb hr (fun t9 ht9 _ => ⟨rfl, by rw [ht9]; exact hP1, hS1.F ht9⟩) hS1.2.2 dL_write_13)
      obtain ⟨t2, a1, b1⟩ := hcatch T' rfl X'
      exact ⟨t2, st.trans a1, b1⟩
  · refine u_callV2 (n := 3) (rest := []) (mX6_write l D ad cI cB en S x1 x2 x3 S1 hf) C uK_B (wg_V tM_L_19 tI_X6_write tS_X6_write tN_X6 tK_X6_write) rfl rfl rfl (by decide +kernel) ⟨by decide, by decide⟩ rfl (va_recv hK.1.1 hP (ci := 5) (q0 := 0) rfl rfl) (fun U hU hW => uK_B.2.1 s U s.heap [] hK.1 va_S.rf hU hW) hP hS (fun q hq => hq) hl9.1 (Nat.le_of_ble_eq_true rfl) dL_write_4 ⟨by decide, by decide⟩ rfl (fun H1 locs1 hP1 hz1 hk1 hS1 => ?_)
    refine lv_goto (tgt := 14) hx hb dL_write_7 (by decide) ?_
    refine lv_iconst (v := 0) hx hb dL_write_14 (by decide) ?_
    refine W.widen (k := 1) (n := 6) (by decide) (by decide) ?_
    exact vx_ret (W.iret (v := 0) hx hb hr (fun t9 ht9 _ => ⟨rfl, by rw [ht9]; exact hP1, hS1.F ht9⟩) hS1.2.2 dL_write_15)
set_option maxRecDepth 100000 in
set_option maxHeartbeats 4000000 in
theorem hL_read (l : Launch) (hl : l.stackTraces = false) (D : va_G) (ad : Nat → Nat) (cI cB : ClassId) (en : Nat → Nat) (o : Nat) (cJ : ClassId) (S : St) (f : Nat → Int64) (x1 x2 k : Int32) (S1 : St) (f1 : Nat → Int64) (hc : ((¬ x2 = 1 ∧ ¬ x2 = 2 ∧ ¬ x2 = 4) ∧ k = 1 ∧ S1 = S ∧ f1 = f) ∨ ∃ r, fX6_read x1 x2 S = some (r, S1) ∧ k = 0 ∧ f1 = vp_updL f 0 r.toInt64) (sz : Nat) :
    vx_Met l yL_read (wgH yL_read cL_read 5 [(0, 10, 13, 23)]) rmH (PO D ad o cI cB cJ en ([.ref (ad 0), .int x1, .int x2, .ref o]) S f sz) (QO D ad o cI cB cJ sz k S1 f1) (fun _ _ _ => False) 1 6 (AX 11 (adO ad o) sz) := by
  refine vx_ofWH (cc := cL_read) (maxL := 5) (ret := some .int) (hh := [(0, 10, 13, 23)]) (by decide) rfl ?_
  intro p e s m args below meth c s₁ B hml hv
  obtain ⟨rfl, rfl, hP, hK⟩ := hv
  have hx := B.exec
  have hb := B.bytes
  have hr := B.returns
  have hlocks := B.notSynchronized
  have hts := atoms_spec (ws := wgH yL_read cL_read 5 [(0, 10, 13, 23)]) B.pre
  have htab := vx_table (x := yL_law) B (hts _ List.mem_cons_self)
  have hT : ∀ w ∈ wG, w.before _ s = true := fun w h => hts w (List.mem_cons_of_mem _ h)
  have hown : s.vm.findClass RL = some m.cls := findClass_of_methodNamed B.named
  have hS : va_S (AX 11 (adO ad o) s.heap.size) s.heap s.heap [] := va_S.rf
  have C : CallFix p m c cL_read 5 s _ wG RL := ⟨hx, hb, hml, hown, hT⟩
  have hl9 := lv_entry ([.ref (ad 0), .int x1, .int x2, .ref o]) (n := 5) (Nat.le_of_ble_eq_true rfl)
  rw [lg_entry_eq]
  generalize (lg_sl ([.ref (ad 0), .int x1, .int x2, .ref o]) ++ List.replicate (5 - (lg_sl ([.ref (ad 0), .int x1, .int x2, .ref o])).length) Slot.unset).toArray = ls at hl9 ⊢
  have hl9 : lv_has ls 5 [(0, .ref (ad 0)), (1, .int x1), (2, .int x2), (3, .ref o)] := hl9
  refine lv_aload_n hx hb dL_read_0 rfl (lv_at hl9 3 rfl) ?_
  refine lv_iconst (v := 0) hx hb dL_read_1 (by decide) ?_
  refine lv_aload_n hx hb dL_read_2 rfl (lv_at hl9 0 rfl) ?_
  refine lv_iload_n hx hb dL_read_3 rfl (lv_at hl9 1 rfl) ?_
  refine lv_iload_n hx hb dL_read_4 rfl (lv_at hl9 2 rfl) ?_
  rcases hc with ⟨hc, rfl, rfl, rfl⟩ | ⟨r, hf, rfl, rfl⟩
  · have hrun := vx_runV (cells := 0) (slots := 0) (locs := []) (meth := meth) (below := below) (e := e) (As := [.int x1, .int x2]) (rest := [.int 0, .ref o]) (R := rmH) C (tX6_read l hl (ad 0) x1 x2 hc) (cwV 2 hT (wg_V tM_L_25 tI_X6_read tS_X6_read tN_X6 tK_X6_read) rfl rfl rfl (by decide +kernel) ⟨by decide, by decide⟩) ⟨blind_T, va_recv hK.1.1 (wO_B hP) (ci := 5) (q0 := 0) rfl rfl, fun U hU hW => ⟨rfl, EX.warm hW (by rw [hU]; exact hK.2.2.2)⟩⟩ (g := F0 m 5 ls (.int x2 :: .int x1 :: .ref (ad 0) :: [.int 0, .ref o])) rfl rfl hl9.1 rfl (lv_room (Nat.le_of_ble_eq_true rfl)) dL_read_5 ⟨by decide, by decide⟩
    intro T hT0 X
    rcases hrun T hT0 X with ⟨v, st₀, t, T', L, h0, X', hL, e1, e2, hq, st⟩ | ⟨q, st₀, t, T', L, E, ce, h0, X', hL, e1, e2, ⟨rfl, hF⟩, hce, hcv, hcl, st⟩
    · exact hq.elim
    · obtain rfl := nil_of hL
      have hkeep : ∀ j : Nat, j < s.heap.size → T'.heap[j]? = s.heap[j]? := fun j hj => by rw [e1, hF.2 j (by rw [h0]; exact hj) (fun z => z), h0]
      have hz : s.heap.size ≤ T'.heap.size := by rw [e1, ← h0]; exact hF.1
      have hP1 := hP.kept (H1 := T'.heap) (fun k9 q9 hq9 => hkeep _ (vx_lt hP hq9))
      have hS1 : va_S (AX 11 (adO ad o) s.heap.size) s.heap T'.heap [] := ⟨hz, fun j hj _ => hkeep j hj, fun _ h => by cases h⟩
      have hcatch : vx_W p l e rmH s m (#[.ref (ad 0), .int x1, .int x2, .ref o] : Array Value) below meth c T'.heap [] 1 6 (vx_MQ below (QO D ad o cI cB cJ s.heap.size 1 S1 f1) (fun _ _ _ => False) (#[.ref (ad 0), .int x1, .int x2, .ref o] : Array Value) s 1 6 (AX 11 (adO ad o) s.heap.size)) (F0 m 5 ls [.int 0, .ref o]) q := by
        refine cx_catch hown ⟨0, 10, 13, 23⟩ [] htab (by decide) (by decide) (hT _ tC_L_23) (va_Nw.use rfl hK.2.2.2.2.2.2.1) (by rw [e1]; exact hce) hcv hcl ?_
        refine lv_astore (lv' := [(4, .ref q), (0, .ref (ad 0)), (1, .int x1), (2, .int x2), (3, .ref o)]) hx hb dL_read_13 hl9 (by decide) rfl (fun ls hl9 => ?_)
        refine lv_iconst (v := 1) hx hb dL_read_15 (by decide) ?_
        exact vx_ret (W.iret (v := 1) hx hb hr (fun t9 ht9 _ => ⟨rfl, by rw [ht9]; exact hP1, hS1.F ht9⟩) hS1.2.2 dL_read_16)
      obtain ⟨t2, a1, b1⟩ := hcatch T' rfl X'
      exact ⟨t2, st.trans a1, b1⟩
  · refine u_callV2 (n := 2) (rest := [.int 0, .ref o]) (mX6_read l D ad cI cB en S x1 x2 r S1 hf) C uK_B (wg_V tM_L_25 tI_X6_read tS_X6_read tN_X6 tK_X6_read) rfl rfl rfl (by decide +kernel) ⟨by decide, by decide⟩ rfl (va_recv hK.1.1 (wO_B hP) (ci := 5) (q0 := 0) rfl rfl) (fun U hU hW => uK_B.2.1 s U s.heap [] hK.1 va_S.rf hU hW) (wO_B hP) hS (fun q hq => adO_in hq) hl9.1 (Nat.le_of_ble_eq_true rfl) dL_read_5 ⟨by decide, by decide⟩ rfl (fun H1 locs1 hP1 hz1 hk1 hS1 => ?_)
    have hP2 := wO_keep hP hP1 hK.2.2.1 hk1
    have hD2 : va_D (AX 11 (adO ad o) s.heap.size) (wO ad o cI cB cJ S1 f) := adO_D _ hK.1.2.1 hK.2.2.1
    have hK3 := hK.1.1.app hK.2.1
    refine lv_i2l (v := r.toInt64) hx hb dL_read_8 rfl ?_
    refine va_last hx hb hK3 hP2 hD2 hS1 10 2 rfl rfl (by rintro (z | z) <;> revert z <;> decide) dL_read_9 (fun H2 locs2 hP3 hD3 hS3 => ?_)
    have hP3 : va_P D vwCl (wO ad o cI cB cJ S1 (vp_updL f 0 r.toInt64)) H2 := hP3
    refine lv_goto (tgt := 17) hx hb dL_read_10 (by decide) ?_
    refine lv_iconst (v := 0) hx hb dL_read_17 (by decide) ?_
    refine W.widen (k := 1) (n := 6) (by decide) (by decide) ?_
    exact vx_ret (W.iret (v := 0) hx hb hr (fun t9 ht9 _ => ⟨rfl, by rw [ht9]; exact hP3, hS3.F ht9⟩) hS3.2.2 dL_read_18)
set_option maxRecDepth 100000 in
set_option maxHeartbeats 4000000 in
theorem hL_want (l : Launch) (hl : l.stackTraces = false) (D : va_G) (ad : Nat → Nat) (cI cB : ClassId) (en : Nat → Nat) (S : St) (x1 k : Int32) (S1 : St) (hc : ((x1 < 0 ∨ ¬ x1 ≤ 7) ∧ k = 1 ∧ S1 = S) ∨ (fX6_want x1 S = some S1 ∧ k = 0)) (sz : Nat) :
    vx_Met l yL_want (wgH yL_want cL_want 3 [(0, 5, 8, 23)]) rmH (PP D ad cI cB en ([.ref (ad 0), .int x1]) S sz) (QP D ad cI cB sz k S1) (fun _ _ _ => False) 1 6 (AX 10 ad sz) := by
  refine vx_ofWH (cc := cL_want) (maxL := 3) (ret := some .int) (hh := [(0, 5, 8, 23)]) (by decide) rfl ?_
  intro p e s m args below meth c s₁ B hml hv
  obtain ⟨rfl, rfl, hP, hK⟩ := hv
  have hx := B.exec
  have hb := B.bytes
  have hr := B.returns
  have hlocks := B.notSynchronized
  have hts := atoms_spec (ws := wgH yL_want cL_want 3 [(0, 5, 8, 23)]) B.pre
  have htab := vx_table (x := yL_law) B (hts _ List.mem_cons_self)
  have hT : ∀ w ∈ wG, w.before _ s = true := fun w h => hts w (List.mem_cons_of_mem _ h)
  have hown : s.vm.findClass RL = some m.cls := findClass_of_methodNamed B.named
  have hS : va_S (AX 10 ad s.heap.size) s.heap s.heap [] := va_S.rf
  have C : CallFix p m c cL_want 3 s _ wG RL := ⟨hx, hb, hml, hown, hT⟩
  have hl9 := lv_entry ([.ref (ad 0), .int x1]) (n := 3) (Nat.le_of_ble_eq_true rfl)
  rw [lg_entry_eq]
  generalize (lg_sl ([.ref (ad 0), .int x1]) ++ List.replicate (3 - (lg_sl ([.ref (ad 0), .int x1])).length) Slot.unset).toArray = ls at hl9 ⊢
  have hl9 : lv_has ls 3 [(0, .ref (ad 0)), (1, .int x1)] := hl9
  refine lv_aload_n hx hb dL_want_0 rfl (lv_at hl9 0 rfl) ?_
  refine lv_iload_n hx hb dL_want_1 rfl (lv_at hl9 1 rfl) ?_
  rcases hc with ⟨hc, rfl, rfl⟩ | ⟨hf, rfl⟩
  · have hrun := vx_runV (cells := 0) (slots := 0) (locs := []) (meth := meth) (below := below) (e := e) (As := [.int x1]) (rest := []) (R := rmH) C (tX6_want l hl (ad 0) x1 hc) (cwV 1 hT (wg_V tM_L_29 tI_X6_want tS_X6_want tN_X6 tK_X6_want) rfl rfl rfl (by decide +kernel) ⟨by decide, by decide⟩) ⟨blind_T, va_recv hK.1.1 hP (ci := 5) (q0 := 0) rfl rfl, fun U hU hW => ⟨rfl, EX.warm hW (by rw [hU]; exact hK.2)⟩⟩ (g := F0 m 2 ls (.int x1 :: .ref (ad 0) :: [])) rfl rfl hl9.1 rfl (lv_room (Nat.le_of_ble_eq_true rfl)) dL_want_2 ⟨by decide, by decide⟩
    intro T hT0 X
    rcases hrun T hT0 X with ⟨v, st₀, t, T', L, h0, X', hL, e1, e2, hq, st⟩ | ⟨q, st₀, t, T', L, E, ce, h0, X', hL, e1, e2, ⟨rfl, hF⟩, hce, hcv, hcl, st⟩
    · exact hq.elim
    · obtain rfl := nil_of hL
      have hkeep : ∀ j : Nat, j < s.heap.size → T'.heap[j]? = s.heap[j]? := fun j hj => by rw [e1, hF.2 j (by rw [h0]; exact hj) (fun z => z), h0]
      have hz : s.heap.size ≤ T'.heap.size := by rw [e1, ← h0]; exact hF.1
      have hP1 := hP.kept (H1 := T'.heap) (fun k9 q9 hq9 => hkeep _ (vx_lt hP hq9))
      have hS1 : va_S (AX 10 ad s.heap.size) s.heap T'.heap [] := ⟨hz, fun j hj _ => hkeep j hj, fun _ h => by cases h⟩
      have hcatch : vx_W p l e rmH s m (#[.ref (ad 0), .int x1] : Array Value) below meth c T'.heap [] 1 6 (vx_MQ below (QP D ad cI cB s.heap.size 1 S1) (fun _ _ _ => False) (#[.ref (ad 0), .int x1] : Array Value) s 1 6 (AX 10 ad s.heap.size)) (F0 m 2 ls []) q := by
        refine cx_catch hown ⟨0, 5, 8, 23⟩ [] htab (by decide) (by decide) (hT _ tC_L_23) (va_Nw.use rfl hK.2.2.2.2.1) (by rw [e1]; exact hce) hcv hcl ?_
        refine lv_astore_n (lv' := [(2, .ref q), (0, .ref (ad 0)), (1, .int x1)]) hx hb dL_want_8 rfl hl9 (by decide) rfl (fun ls hl9 => ?_)
        refine lv_iconst (v := 1) hx hb dL_want_9 (by decide) ?_
        exact vx_ret (W.iret (v := 1) hx hb hr (fun t9 ht9 _ => ⟨rfl, by rw [ht9]; exact hP1, hS1.F ht9⟩) hS1.2.2 dL_want_10)
      obtain ⟨t2, a1, b1⟩ := hcatch T' rfl X'
      exact ⟨t2, st.trans a1, b1⟩
  · refine u_callV2 (n := 1) (rest := []) (mX6_want l D ad cI cB en S x1 S1 hf) C uK_B (wg_V tM_L_29 tI_X6_want tS_X6_want tN_X6 tK_X6_want) rfl rfl rfl (by decide +kernel) ⟨by decide, by decide⟩ rfl (va_recv hK.1.1 hP (ci := 5) (q0 := 0) rfl rfl) (fun U hU hW => uK_B.2.1 s U s.heap [] hK.1 va_S.rf hU hW) hP hS (fun q hq => hq) hl9.1 (Nat.le_of_ble_eq_true rfl) dL_want_2 ⟨by decide, by decide⟩ rfl (fun H1 locs1 hP1 hz1 hk1 hS1 => ?_)
    refine lv_goto (tgt := 11) hx hb dL_want_5 (by decide) ?_
    refine lv_iconst (v := 0) hx hb dL_want_11 (by decide) ?_
    refine W.widen (k := 1) (n := 6) (by decide) (by decide) ?_
    exact vx_ret (W.iret (v := 0) hx hb hr (fun t9 ht9 _ => ⟨rfl, by rw [ht9]; exact hP1, hS1.F ht9⟩) hS1.2.2 dL_want_12)
set_option maxRecDepth 100000 in
set_option maxHeartbeats 4000000 in
theorem hL_step (l : Launch) (hl : l.stackTraces = false) (D : va_G) (ad : Nat → Nat) (cI cB : ClassId) (en : Nat → Nat) (o : Nat) (cJ : ClassId) (S : St) (f : Nat → Int64) (x1 k : Int32) (S1 : St) (f1 : Nat → Int64) (hc : ((x1 < 0 ∨ ¬ x1 ≤ 3000) ∧ k = 1 ∧ S1 = S ∧ f1 = f) ∨ ∃ r, fX6_step x1 S = some (r, S1) ∧ k = 0 ∧ f1 = vp_updL f 0 r.toInt64) (sz : Nat) :
    vx_Met l yL_step (wgH yL_step cL_step 4 [(0, 9, 12, 23)]) rmH (PO D ad o cI cB cJ en ([.ref (ad 0), .int x1, .ref o]) S f sz) (QO D ad o cI cB cJ sz k S1 f1) (fun _ _ _ => False) 1 6 (AX 11 (adO ad o) sz) := by
  refine vx_ofWH (cc := cL_step) (maxL := 4) (ret := some .int) (hh := [(0, 9, 12, 23)]) (by decide) rfl ?_
  intro p e s m args below meth c s₁ B hml hv
  obtain ⟨rfl, rfl, hP, hK⟩ := hv
  have hx := B.exec
  have hb := B.bytes
  have hr := B.returns
  have hlocks := B.notSynchronized
  have hts := atoms_spec (ws := wgH yL_step cL_step 4 [(0, 9, 12, 23)]) B.pre
  have htab := vx_table (x := yL_law) B (hts _ List.mem_cons_self)
  have hT : ∀ w ∈ wG, w.before _ s = true := fun w h => hts w (List.mem_cons_of_mem _ h)
  have hown : s.vm.findClass RL = some m.cls := findClass_of_methodNamed B.named
  have hS : va_S (AX 11 (adO ad o) s.heap.size) s.heap s.heap [] := va_S.rf
  have C : CallFix p m c cL_step 4 s _ wG RL := ⟨hx, hb, hml, hown, hT⟩
  have hl9 := lv_entry ([.ref (ad 0), .int x1, .ref o]) (n := 4) (Nat.le_of_ble_eq_true rfl)
  rw [lg_entry_eq]
  generalize (lg_sl ([.ref (ad 0), .int x1, .ref o]) ++ List.replicate (4 - (lg_sl ([.ref (ad 0), .int x1, .ref o])).length) Slot.unset).toArray = ls at hl9 ⊢
  have hl9 : lv_has ls 4 [(0, .ref (ad 0)), (1, .int x1), (2, .ref o)] := hl9
  refine lv_aload_n hx hb dL_step_0 rfl (lv_at hl9 2 rfl) ?_
  refine lv_iconst (v := 0) hx hb dL_step_1 (by decide) ?_
  refine lv_aload_n hx hb dL_step_2 rfl (lv_at hl9 0 rfl) ?_
  refine lv_iload_n hx hb dL_step_3 rfl (lv_at hl9 1 rfl) ?_
  rcases hc with ⟨hc, rfl, rfl, rfl⟩ | ⟨r, hf, rfl, rfl⟩
  · have hrun := vx_runV (cells := 0) (slots := 0) (locs := []) (meth := meth) (below := below) (e := e) (As := [.int x1]) (rest := [.int 0, .ref o]) (R := rmH) C (tX6_step l hl (ad 0) x1 hc) (cwV 1 hT (wg_V tM_L_33 tI_X6_step tS_X6_step tN_X6 tK_X6_step) rfl rfl rfl (by decide +kernel) ⟨by decide, by decide⟩) ⟨blind_T, va_recv hK.1.1 (wO_B hP) (ci := 5) (q0 := 0) rfl rfl, fun U hU hW => ⟨rfl, EX.warm hW (by rw [hU]; exact hK.2.2.2)⟩⟩ (g := F0 m 4 ls (.int x1 :: .ref (ad 0) :: [.int 0, .ref o])) rfl rfl hl9.1 rfl (lv_room (Nat.le_of_ble_eq_true rfl)) dL_step_4 ⟨by decide, by decide⟩
    intro T hT0 X
    rcases hrun T hT0 X with ⟨v, st₀, t, T', L, h0, X', hL, e1, e2, hq, st⟩ | ⟨q, st₀, t, T', L, E, ce, h0, X', hL, e1, e2, ⟨rfl, hF⟩, hce, hcv, hcl, st⟩
    · exact hq.elim
    · obtain rfl := nil_of hL
      have hkeep : ∀ j : Nat, j < s.heap.size → T'.heap[j]? = s.heap[j]? := fun j hj => by rw [e1, hF.2 j (by rw [h0]; exact hj) (fun z => z), h0]
      have hz : s.heap.size ≤ T'.heap.size := by rw [e1, ← h0]; exact hF.1
      have hP1 := hP.kept (H1 := T'.heap) (fun k9 q9 hq9 => hkeep _ (vx_lt hP hq9))
      have hS1 : va_S (AX 11 (adO ad o) s.heap.size) s.heap T'.heap [] := ⟨hz, fun j hj _ => hkeep j hj, fun _ h => by cases h⟩
      have hcatch : vx_W p l e rmH s m (#[.ref (ad 0), .int x1, .ref o] : Array Value) below meth c T'.heap [] 1 6 (vx_MQ below (QO D ad o cI cB cJ s.heap.size 1 S1 f1) (fun _ _ _ => False) (#[.ref (ad 0), .int x1, .ref o] : Array Value) s 1 6 (AX 11 (adO ad o) s.heap.size)) (F0 m 4 ls [.int 0, .ref o]) q := by
        refine cx_catch hown ⟨0, 9, 12, 23⟩ [] htab (by decide) (by decide) (hT _ tC_L_23) (va_Nw.use rfl hK.2.2.2.2.2.2.1) (by rw [e1]; exact hce) hcv hcl ?_
        refine lv_astore_n (lv' := [(3, .ref q), (0, .ref (ad 0)), (1, .int x1), (2, .ref o)]) hx hb dL_step_12 rfl hl9 (by decide) rfl (fun ls hl9 => ?_)
        refine lv_iconst (v := 1) hx hb dL_step_13 (by decide) ?_
        exact vx_ret (W.iret (v := 1) hx hb hr (fun t9 ht9 _ => ⟨rfl, by rw [ht9]; exact hP1, hS1.F ht9⟩) hS1.2.2 dL_step_14)
      obtain ⟨t2, a1, b1⟩ := hcatch T' rfl X'
      exact ⟨t2, st.trans a1, b1⟩
  · refine u_callV2 (n := 1) (rest := [.int 0, .ref o]) (mX6_step l D ad cI cB en S x1 r S1 hf) C uK_B (wg_V tM_L_33 tI_X6_step tS_X6_step tN_X6 tK_X6_step) rfl rfl rfl (by decide +kernel) ⟨by decide, by decide⟩ rfl (va_recv hK.1.1 (wO_B hP) (ci := 5) (q0 := 0) rfl rfl) (fun U hU hW => uK_B.2.1 s U s.heap [] hK.1 va_S.rf hU hW) (wO_B hP) hS (fun q hq => adO_in hq) hl9.1 (Nat.le_of_ble_eq_true rfl) dL_step_4 ⟨by decide, by decide⟩ rfl (fun H1 locs1 hP1 hz1 hk1 hS1 => ?_)
    have hP2 := wO_keep hP hP1 hK.2.2.1 hk1
    have hD2 : va_D (AX 11 (adO ad o) s.heap.size) (wO ad o cI cB cJ S1 f) := adO_D _ hK.1.2.1 hK.2.2.1
    have hK3 := hK.1.1.app hK.2.1
    refine lv_i2l (v := r.toInt64) hx hb dL_step_7 rfl ?_
    refine va_last hx hb hK3 hP2 hD2 hS1 10 2 rfl rfl (by rintro (z | z) <;> revert z <;> decide) dL_step_8 (fun H2 locs2 hP3 hD3 hS3 => ?_)
    have hP3 : va_P D vwCl (wO ad o cI cB cJ S1 (vp_updL f 0 r.toInt64)) H2 := hP3
    refine lv_goto (tgt := 15) hx hb dL_step_9 (by decide) ?_
    refine lv_iconst (v := 0) hx hb dL_step_15 (by decide) ?_
    refine W.widen (k := 1) (n := 6) (by decide) (by decide) ?_
    exact vx_ret (W.iret (v := 0) hx hb hr (fun t9 ht9 _ => ⟨rfl, by rw [ht9]; exact hP3, hS3.F ht9⟩) hS3.2.2 dL_step_16)
set_option maxRecDepth 100000 in
set_option maxHeartbeats 4000000 in
theorem hL_exceptions (l : Launch) (hl : l.stackTraces = false) (D : va_G) (ad : Nat → Nat) (cI cB : ClassId) (en : Nat → Nat) (o : Nat) (cJ : ClassId) (S : St) (f : Nat → Int64) (x1 k : Int32) (S1 : St) (f1 : Nat → Int64) (hc : ((x1 < 0 ∨ ¬ x1 < 64) ∧ k = 1 ∧ S1 = S ∧ f1 = f) ∨ ∃ r, fX6_exceptions x1 S = some (r, S1) ∧ k = 0 ∧ f1 = vp_updL f 0 r.toInt64) (sz : Nat) :
    vx_Met l yL_exceptions (wgH yL_exceptions cL_exceptions 4 [(0, 9, 12, 23)]) rmH (PO D ad o cI cB cJ en ([.ref (ad 0), .int x1, .ref o]) S f sz) (QO D ad o cI cB cJ sz k S1 f1) (fun _ _ _ => False) 1 6 (AX 11 (adO ad o) sz) := by
  refine vx_ofWH (cc := cL_exceptions) (maxL := 4) (ret := some .int) (hh := [(0, 9, 12, 23)]) (by decide) rfl ?_
  intro p e s m args below meth c s₁ B hml hv
  obtain ⟨rfl, rfl, hP, hK⟩ := hv
  have hx := B.exec
  have hb := B.bytes
  have hr := B.returns
  have hlocks := B.notSynchronized
  have hts := atoms_spec (ws := wgH yL_exceptions cL_exceptions 4 [(0, 9, 12, 23)]) B.pre
  have htab := vx_table (x := yL_law) B (hts _ List.mem_cons_self)
  have hT : ∀ w ∈ wG, w.before _ s = true := fun w h => hts w (List.mem_cons_of_mem _ h)
  have hown : s.vm.findClass RL = some m.cls := findClass_of_methodNamed B.named
  have hS : va_S (AX 11 (adO ad o) s.heap.size) s.heap s.heap [] := va_S.rf
  have C : CallFix p m c cL_exceptions 4 s _ wG RL := ⟨hx, hb, hml, hown, hT⟩
  have hl9 := lv_entry ([.ref (ad 0), .int x1, .ref o]) (n := 4) (Nat.le_of_ble_eq_true rfl)
  rw [lg_entry_eq]
  generalize (lg_sl ([.ref (ad 0), .int x1, .ref o]) ++ List.replicate (4 - (lg_sl ([.ref (ad 0), .int x1, .ref o])).length) Slot.unset).toArray = ls at hl9 ⊢
  have hl9 : lv_has ls 4 [(0, .ref (ad 0)), (1, .int x1), (2, .ref o)] := hl9
  refine lv_aload_n hx hb dL_exceptions_0 rfl (lv_at hl9 2 rfl) ?_
  refine lv_iconst (v := 0) hx hb dL_exceptions_1 (by decide) ?_
  refine lv_aload_n hx hb dL_exceptions_2 rfl (lv_at hl9 0 rfl) ?_
  refine lv_iload_n hx hb dL_exceptions_3 rfl (lv_at hl9 1 rfl) ?_
  rcases hc with ⟨hc, rfl, rfl, rfl⟩ | ⟨r, hf, rfl, rfl⟩
  · have hrun := vx_runV (cells := 0) (slots := 0) (locs := []) (meth := meth) (below := below) (e := e) (As := [.int x1]) (rest := [.int 0, .ref o]) (R := rmH) C (tX6_exceptions l hl (ad 0) x1 hc) (cwV 1 hT (wg_V tM_L_36 tI_X6_exceptions tS_X6_exceptions tN_X6 tK_X6_exceptions) rfl rfl rfl (by decide +kernel) ⟨by decide, by decide⟩) ⟨blind_T, va_recv hK.1.1 (wO_B hP) (ci := 5) (q0 := 0) rfl rfl, fun U hU hW => ⟨rfl, EX.warm hW (by rw [hU]; exact hK.2.2.2)⟩⟩ (g := F0 m 4 ls (.int x1 :: .ref (ad 0) :: [.int 0, .ref o])) rfl rfl hl9.1 rfl (lv_room (Nat.le_of_ble_eq_true rfl)) dL_exceptions_4 ⟨by decide, by decide⟩
    intro T hT0 X
    rcases hrun T hT0 X with ⟨v, st₀, t, T', L, h0, X', hL, e1, e2, hq, st⟩ | ⟨q, st₀, t, T', L, E, ce, h0, X', hL, e1, e2, ⟨rfl, hF⟩, hce, hcv, hcl, st⟩
    · exact hq.elim
    · obtain rfl := nil_of hL
      have hkeep : ∀ j : Nat, j < s.heap.size → T'.heap[j]? = s.heap[j]? := fun j hj => by rw [e1, hF.2 j (by rw [h0]; exact hj) (fun z => z), h0]
      have hz : s.heap.size ≤ T'.heap.size := by rw [e1, ← h0]; exact hF.1
      have hP1 := hP.kept (H1 := T'.heap) (fun k9 q9 hq9 => hkeep _ (vx_lt hP hq9))
      have hS1 : va_S (AX 11 (adO ad o) s.heap.size) s.heap T'.heap [] := ⟨hz, fun j hj _ => hkeep j hj, fun _ h => by cases h⟩
      have hcatch : vx_W p l e rmH s m (#[.ref (ad 0), .int x1, .ref o] : Array Value) below meth c T'.heap [] 1 6 (vx_MQ below (QO D ad o cI cB cJ s.heap.size 1 S1 f1) (fun _ _ _ => False) (#[.ref (ad 0), .int x1, .ref o] : Array Value) s 1 6 (AX 11 (adO ad o) s.heap.size)) (F0 m 4 ls [.int 0, .ref o]) q := by
        refine cx_catch hown ⟨0, 9, 12, 23⟩ [] htab (by decide) (by decide) (hT _ tC_L_23) (va_Nw.use rfl hK.2.2.2.2.2.2.1) (by rw [e1]; exact hce) hcv hcl ?_
        refine lv_astore_n (lv' := [(3, .ref q), (0, .ref (ad 0)), (1, .int x1), (2, .ref o)]) hx hb dL_exceptions_12 rfl hl9 (by decide) rfl (fun ls hl9 => ?_)
        refine lv_iconst (v := 1) hx hb dL_exceptions_13 (by decide) ?_
        exact vx_ret (W.iret (v := 1) hx hb hr (fun t9 ht9 _ => ⟨rfl, by rw [ht9]; exact hP1, hS1.F ht9⟩) hS1.2.2 dL_exceptions_14)
      obtain ⟨t2, a1, b1⟩ := hcatch T' rfl X'
      exact ⟨t2, st.trans a1, b1⟩
  · refine u_callV2 (n := 1) (rest := [.int 0, .ref o]) (mX6_exceptions l D ad cI cB en S x1 r S1 hf) C uK_B (wg_V tM_L_36 tI_X6_exceptions tS_X6_exceptions tN_X6 tK_X6_exceptions) rfl rfl rfl (by decide +kernel) ⟨by decide, by decide⟩ rfl (va_recv hK.1.1 (wO_B hP) (ci := 5) (q0 := 0) rfl rfl) (fun U hU hW => uK_B.2.1 s U s.heap [] hK.1 va_S.rf hU hW) (wO_B hP) hS (fun q hq => adO_in hq) hl9.1 (Nat.le_of_ble_eq_true rfl) dL_exceptions_4 ⟨by decide, by decide⟩ rfl (fun H1 locs1 hP1 hz1 hk1 hS1 => ?_)
    have hP2 := wO_keep hP hP1 hK.2.2.1 hk1
    have hD2 : va_D (AX 11 (adO ad o) s.heap.size) (wO ad o cI cB cJ S1 f) := adO_D _ hK.1.2.1 hK.2.2.1
    have hK3 := hK.1.1.app hK.2.1
    refine lv_i2l (v := r.toInt64) hx hb dL_exceptions_7 rfl ?_
    refine va_last hx hb hK3 hP2 hD2 hS1 10 2 rfl rfl (by rintro (z | z) <;> revert z <;> decide) dL_exceptions_8 (fun H2 locs2 hP3 hD3 hS3 => ?_)
    have hP3 : va_P D vwCl (wO ad o cI cB cJ S1 (vp_updL f 0 r.toInt64)) H2 := hP3
    refine lv_goto (tgt := 15) hx hb dL_exceptions_9 (by decide) ?_
    refine lv_iconst (v := 0) hx hb dL_exceptions_15 (by decide) ?_
    refine W.widen (k := 1) (n := 6) (by decide) (by decide) ?_
    exact vx_ret (W.iret (v := 0) hx hb hr (fun t9 ht9 _ => ⟨rfl, by rw [ht9]; exact hP3, hS3.F ht9⟩) hS3.2.2 dL_exceptions_16)
