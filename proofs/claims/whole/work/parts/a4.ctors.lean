/-! ===== the constructors ===== -/
theorem wg_I {y : MethodName} {b : ByteArray} {n : Nat} {r : Option FieldType} (h5 : Cond.code y b n r ∈ wG) : GoodIn wG (wg y b n r) := by
  intro w hw
  have h : w ∈ wG := by
    rcases List.mem_cons.mp hw with rfl | h
    · exact h5
    · exact h
  exact ⟨h, wG_good h⟩
theorem bl_ct {As : List Value} {sz : Nat} {D : va_G} {ws : va_W} {A : Nat → Prop} : FrameBlind (va_Pc As (fun U => U.heap.size = sz ∧ va_P D vwCl ws U.heap ∧ va_K D vwCl [] U ∧ va_D A ws)) := fun a U g mk q => by
  obtain ⟨q0, q1, qP, qK, qD⟩ := q
  exact ⟨q0, q1, qP, va_K.moved (u := U) (U := U.calling g mk a) (Vm.Alike.refl U.vm) qK, qD⟩
set_option maxHeartbeats 4000000 in
set_option maxRecDepth 100000 in
theorem cX3_ct (l : Launch) (D : va_G) (h0 : Nat) (sz : Nat) : Met l yX3_init (wg yX3_init cX3_init 1 none) ({ frames := 1, cells := 1, slots := 4096, locals := 12 }) (va_Pc ([.ref h0]) (fun U => U.heap.size = sz ∧ va_P D vwCl [(h0, .inr (3, [.null]))] U.heap ∧ va_K D vwCl [] U ∧ va_D (fun _ => True) [(h0, .inr (3, [.null]))])) (va_Qv (fun _ : Nat × ClassId => True) (fun u t => va_P D vwCl [(h0, .inr (3, [.ref u.1])), (u.1, .inl (u.2, 4096, .inl (fun _ => 0)))] t.heap ∧ va_K D vwCl [(u.2, .byte)] t ∧ va_D (va_A [(h0, .inr (3, [.null]))] sz) [(h0, .inr (3, [.ref u.1])), (u.1, .inl (u.2, 4096, .inl (fun _ => 0)))]) (va_A [(h0, .inr (3, [.null]))] sz)) 1 4096 (va_A [(h0, .inr (3, [.null]))] sz) := by
  refine Met.ofW (cc := cX3_init) (maxL := 1) (ret := none) (by decide) rfl ?_
  intro p e s m args below meth c s₁ B hml hv
  obtain ⟨rfl, rfl, hP, hK, hD0⟩ := hv
  have hx := B.exec
  have hb := B.bytes
  have hr := B.returns
  have hts := atoms_spec (ws := wg yX3_init cX3_init 1 none) B.pre
  have hT : ∀ w ∈ wG, w.before _ s = true := fun w h => hts w (List.mem_cons_of_mem _ h)
  have hown : s.vm.findClass RX3 = some m.cls := findClass_of_methodNamed B.named
  have hlocks := B.notSynchronized
  have hin : meth.name = "<init>" := (name_of_methodNamed B.named B.method).1
  have C : CallFix p m c cX3_init 1 s _ wG RX3 := ⟨hx, hb, hml, hown, hT⟩
  have hD := hD0.self (sz := s.heap.size)
  generalize hAe : va_A [(h0, .inr (3, [.null]))] s.heap.size = A at hD ⊢
  have hA : ∀ q : Nat, s.heap.size ≤ q → A q := fun q h => by rw [← hAe]; exact Or.inr h
  have hS : va_S A s.heap s.heap [] := va_S.rf
  have hl := lv_entry ([.ref h0]) (n := 1) (Nat.le_of_ble_eq_true rfl)
  rw [lg_entry_eq]
  generalize (lg_sl ([.ref h0]) ++ List.replicate (1 - (lg_sl ([.ref h0])).length) Slot.unset).toArray = ls at hl ⊢
  have hl : lv_has ls 1 [(0, .ref h0)] := hl
  refine lv_aload_n hx hb dX3_init_0 rfl (lv_at hl 0 rfl) ?_
  refine W.objInit hx hb hown (hT _ tO_X3) (hT _ tI_obj) (hT _ tK_obj) rfl (by rw [hml]; exact hl.1) rfl dX3_init_1 (Nat.le_of_ble_eq_true rfl) (Nat.le_of_ble_eq_true rfl) ?_
  refine W.eq (g2 := F0 m 4 ls []) rfl ?_
  refine lv_aload_n hx hb dX3_init_4 rfl (lv_at hl 0 rfl) ?_
  refine lv_sipush (v := 4096) hx hb dX3_init_5 (by decide) ?_
  refine va_newa (atype := .byte) (N' := 4096) (a0 := (4096, .inl (fun _ => 0))) hx hb (hT _ ta_byte) rfl hK hP hD hS hA (fun cA => rfl) (by decide) rfl (Nat.le_of_ble_eq_true rfl) (Nat.le_of_ble_eq_true rfl) (Nat.le_of_ble_eq_true rfl) dX3_init_8 (fun q1 cAq1 H hK hP hD hS => ?_)
  have hP : va_P D vwCl [(h0, .inr (3, [.null])), (q1, .inl (cAq1, 4096, .inl (fun _ => 0)))] H := hP
  have hD : va_D A [(h0, .inr (3, [.null])), (q1, .inl (cAq1, 4096, .inl (fun _ => 0)))] := hD
  have hK : va_K D vwCl [(cAq1, .byte)] s := hK
  refine W.widen (k := 1) (n := 4096) (by omega) (by omega) ?_
  refine va_putF (D := D) (ci := 3) (v := .ref q1) (ty := .array .byte) (C := RX3) (T := TX3) (N := 1) hx hb hT inGX3 tyX3 tyX3_ok nmX3 hown hK hP hD hS 0 rfl rfl 0 (by decide) (hT _ tF_X3_9) (fun _ h => h) rfl hin rfl (by decide +kernel) rfl rfl (Nat.le_of_ble_eq_true rfl) dX3_init_10 (fun H locs hP hD hS => ?_)
  have hP : va_P D vwCl [(h0, .inr (3, [.ref q1])), (q1, .inl (cAq1, 4096, .inl (fun _ => 0)))] H := hP
  have hD : va_D A [(h0, .inr (3, [.ref q1])), (q1, .inl (cAq1, 4096, .inl (fun _ => 0)))] := hD
  have hP9 := hP.sub (ws' := [(h0, .inr (3, [.ref q1])), (q1, .inl (cAq1, 4096, .inl (fun _ => 0)))]) [0, 1] rfl
  have hD9 := hD.sub (ws' := [(h0, .inr (3, [.ref q1])), (q1, .inl (cAq1, 4096, .inl (fun _ => 0)))]) [0, 1] (by decide) rfl
  have hK9 := hK.sub (tys' := [(cAq1, .byte)]) [0] rfl
  exact W.vret hx hb hr (fun t ht hW => ⟨⟨(q1, cAq1), rfl, trivial, by rw [ht]; exact hP9, va_K.moved hW.alike hK9, hD9⟩, hS.F ht⟩) hS.2.2 dX3_init_13
set_option maxHeartbeats 4000000 in
set_option maxRecDepth 100000 in
theorem cX4_ct (l : Launch) (D : va_G) (h0 : Nat) (sz : Nat) : Met l yX4_init (wg yX4_init cX4_init 1 none) ({ frames := 1, cells := 2, slots := 34, locals := 12 }) (va_Pc ([.ref h0]) (fun U => U.heap.size = sz ∧ va_P D vwCl [(h0, .inr (4, [.null, .null, .int 0, .int 0, .int 0, .int 0]))] U.heap ∧ va_K D vwCl [] U ∧ va_D (fun _ => True) [(h0, .inr (4, [.null, .null, .int 0, .int 0, .int 0, .int 0]))])) (va_Qv (fun _ : Nat × Nat × ClassId => True) (fun u t => va_P D vwCl [(h0, .inr (4, [.ref u.1, .ref u.2.1, .int 1024, .int 8192, .int 0, .int 0])), (u.1, .inl (u.2.2, 17, .inl (upd (fun _ => 0) 15 1024))), (u.2.1, .inl (u.2.2, 17, .inl (fun _ => 0)))] t.heap ∧ va_K D vwCl [(u.2.2, .int)] t ∧ va_D (va_A [(h0, .inr (4, [.null, .null, .int 0, .int 0, .int 0, .int 0]))] sz) [(h0, .inr (4, [.ref u.1, .ref u.2.1, .int 1024, .int 8192, .int 0, .int 0])), (u.1, .inl (u.2.2, 17, .inl (upd (fun _ => 0) 15 1024))), (u.2.1, .inl (u.2.2, 17, .inl (fun _ => 0)))]) (va_A [(h0, .inr (4, [.null, .null, .int 0, .int 0, .int 0, .int 0]))] sz)) 2 34 (va_A [(h0, .inr (4, [.null, .null, .int 0, .int 0, .int 0, .int 0]))] sz) := by
  refine Met.ofW (cc := cX4_init) (maxL := 1) (ret := none) (by decide) rfl ?_
  intro p e s m args below meth c s₁ B hml hv
  obtain ⟨rfl, rfl, hP, hK, hD0⟩ := hv
  have hx := B.exec
  have hb := B.bytes
  have hr := B.returns
  have hts := atoms_spec (ws := wg yX4_init cX4_init 1 none) B.pre
  have hT : ∀ w ∈ wG, w.before _ s = true := fun w h => hts w (List.mem_cons_of_mem _ h)
  have hown : s.vm.findClass RX4 = some m.cls := findClass_of_methodNamed B.named
  have hlocks := B.notSynchronized
  have hin : meth.name = "<init>" := (name_of_methodNamed B.named B.method).1
  have C : CallFix p m c cX4_init 1 s _ wG RX4 := ⟨hx, hb, hml, hown, hT⟩
  have hD := hD0.self (sz := s.heap.size)
  generalize hAe : va_A [(h0, .inr (4, [.null, .null, .int 0, .int 0, .int 0, .int 0]))] s.heap.size = A at hD ⊢
  have hA : ∀ q : Nat, s.heap.size ≤ q → A q := fun q h => by rw [← hAe]; exact Or.inr h
  have hS : va_S A s.heap s.heap [] := va_S.rf
  have hl := lv_entry ([.ref h0]) (n := 1) (Nat.le_of_ble_eq_true rfl)
  rw [lg_entry_eq]
  generalize (lg_sl ([.ref h0]) ++ List.replicate (1 - (lg_sl ([.ref h0])).length) Slot.unset).toArray = ls at hl ⊢
  have hl : lv_has ls 1 [(0, .ref h0)] := hl
  refine lv_aload_n hx hb dX4_init_0 rfl (lv_at hl 0 rfl) ?_
  refine W.objInit hx hb hown (hT _ tO_X4) (hT _ tI_obj) (hT _ tK_obj) rfl (by rw [hml]; exact hl.1) rfl dX4_init_1 (Nat.le_of_ble_eq_true rfl) (Nat.le_of_ble_eq_true rfl) ?_
  refine W.eq (g2 := F0 m 4 ls []) rfl ?_
  refine lv_aload_n hx hb dX4_init_4 rfl (lv_at hl 0 rfl) ?_
  refine lv_bipush (v := 17) hx hb dX4_init_5 (by decide) ?_
  refine va_newa (atype := .int) (N' := 17) (a0 := (17, .inl (fun _ => 0))) hx hb (hT _ ta_int) rfl hK hP hD hS hA (fun cA => rfl) (by decide) rfl (Nat.le_of_ble_eq_true rfl) (Nat.le_of_ble_eq_true rfl) (Nat.le_of_ble_eq_true rfl) dX4_init_7 (fun q1 cAq1 H hK hP hD hS => ?_)
  have hP : va_P D vwCl [(h0, .inr (4, [.null, .null, .int 0, .int 0, .int 0, .int 0])), (q1, .inl (cAq1, 17, .inl (fun _ => 0)))] H := hP
  have hD : va_D A [(h0, .inr (4, [.null, .null, .int 0, .int 0, .int 0, .int 0])), (q1, .inl (cAq1, 17, .inl (fun _ => 0)))] := hD
  have hK : va_K D vwCl [(cAq1, .int)] s := hK
  refine W.widen (k := 1) (n := 17) (by omega) (by omega) ?_
  refine va_putF (D := D) (ci := 4) (v := .ref q1) (ty := .array .int) (C := RX4) (T := TX4) (N := 6) hx hb hT inGX4 tyX4 tyX4_ok nmX4 hown hK hP hD hS 0 rfl rfl 0 (by decide) (hT _ tF_X4_9) (fun _ h => h) rfl hin rfl (by decide +kernel) rfl rfl (Nat.le_of_ble_eq_true rfl) dX4_init_9 (fun H locs hP hD hS => ?_)
  have hP : va_P D vwCl [(h0, .inr (4, [.ref q1, .null, .int 0, .int 0, .int 0, .int 0])), (q1, .inl (cAq1, 17, .inl (fun _ => 0)))] H := hP
  have hD : va_D A [(h0, .inr (4, [.ref q1, .null, .int 0, .int 0, .int 0, .int 0])), (q1, .inl (cAq1, 17, .inl (fun _ => 0)))] := hD
  refine lv_aload_n hx hb dX4_init_12 rfl (lv_at hl 0 rfl) ?_
  refine lv_bipush (v := 17) hx hb dX4_init_13 (by decide) ?_
  refine va_newa (atype := .int) (N' := 17) (a0 := (17, .inl (fun _ => 0))) hx hb (hT _ ta_int) rfl hK hP hD hS hA (fun cA => rfl) (by decide) rfl (Nat.le_of_ble_eq_true rfl) (Nat.le_of_ble_eq_true rfl) (Nat.le_of_ble_eq_true rfl) dX4_init_15 (fun q2 cAq2 H hK hP hD hS => ?_)
  obtain rfl : cAq1 = cAq2 := Option.some.inj ((hK.2 0 _ rfl).2.symm.trans (hK.2 1 _ rfl).2)
  have hK := hK.sub (tys' := [(cAq1, .int)]) [0] rfl
  have hP : va_P D vwCl [(h0, .inr (4, [.ref q1, .null, .int 0, .int 0, .int 0, .int 0])), (q1, .inl (cAq1, 17, .inl (fun _ => 0))), (q2, .inl (cAq1, 17, .inl (fun _ => 0)))] H := hP
  have hD : va_D A [(h0, .inr (4, [.ref q1, .null, .int 0, .int 0, .int 0, .int 0])), (q1, .inl (cAq1, 17, .inl (fun _ => 0))), (q2, .inl (cAq1, 17, .inl (fun _ => 0)))] := hD
  have hK : va_K D vwCl [(cAq1, .int)] s := hK
  refine W.widen (k := 2) (n := 34) (by omega) (by omega) ?_
  refine va_putF (D := D) (ci := 4) (v := .ref q2) (ty := .array .int) (C := RX4) (T := TX4) (N := 6) hx hb hT inGX4 tyX4 tyX4_ok nmX4 hown hK hP hD hS 0 rfl rfl 1 (by decide) (hT _ tF_X4_15) (fun _ h => h) rfl hin rfl (by decide +kernel) rfl rfl (Nat.le_of_ble_eq_true rfl) dX4_init_17 (fun H locs hP hD hS => ?_)
  have hP : va_P D vwCl [(h0, .inr (4, [.ref q1, .ref q2, .int 0, .int 0, .int 0, .int 0])), (q1, .inl (cAq1, 17, .inl (fun _ => 0))), (q2, .inl (cAq1, 17, .inl (fun _ => 0)))] H := hP
  have hD : va_D A [(h0, .inr (4, [.ref q1, .ref q2, .int 0, .int 0, .int 0, .int 0])), (q1, .inl (cAq1, 17, .inl (fun _ => 0))), (q2, .inl (cAq1, 17, .inl (fun _ => 0)))] := hD
  refine lv_aload_n hx hb dX4_init_20 rfl (lv_at hl 0 rfl) ?_
  refine va_get (D := D) (ci := 4) (v := .ref q1) (C := RX4) (T := TX4) (N := 6) hx hb hT inGX4 hown hK hP 0 rfl rfl 0 (by decide) (hT _ tF_X4_9) (fun _ h => h) rfl dX4_init_21 ?_
  refine lv_bipush (v := 15) hx hb dX4_init_24 (by decide) ?_
  refine lv_sipush (v := 1024) hx hb dX4_init_26 (by decide) ?_
  refine va_iast hx hb hK hP hD hS 1 0 rfl rfl (by rintro (z | z) <;> revert z <;> decide) dX4_init_29 (fun H locs hP hD hS => ?_)
  have hP : va_P D vwCl [(h0, .inr (4, [.ref q1, .ref q2, .int 0, .int 0, .int 0, .int 0])), (q1, .inl (cAq1, 17, .inl (upd (fun _ => 0) 15 1024))), (q2, .inl (cAq1, 17, .inl (fun _ => 0)))] H := hP
  have hD : va_D A [(h0, .inr (4, [.ref q1, .ref q2, .int 0, .int 0, .int 0, .int 0])), (q1, .inl (cAq1, 17, .inl (upd (fun _ => 0) 15 1024))), (q2, .inl (cAq1, 17, .inl (fun _ => 0)))] := hD
  refine lv_aload_n hx hb dX4_init_30 rfl (lv_at hl 0 rfl) ?_
  refine lv_sipush (v := 1024) hx hb dX4_init_31 (by decide) ?_
  refine va_put (D := D) (ci := 4) (v := .int 1024) (ty := .int) (C := RX4) (T := TX4) (N := 6) hx hb hT inGX4 tyX4 tyX4_ok nmX4 hown hK hP hD hS 0 rfl rfl 2 (by decide) (hT _ tF_X4_18) (fun _ h => h) rfl (by decide +kernel) rfl rfl (Nat.le_of_ble_eq_true rfl) dX4_init_34 (fun H locs hP hD hS => ?_)
  have hP : va_P D vwCl [(h0, .inr (4, [.ref q1, .ref q2, .int 1024, .int 0, .int 0, .int 0])), (q1, .inl (cAq1, 17, .inl (upd (fun _ => 0) 15 1024))), (q2, .inl (cAq1, 17, .inl (fun _ => 0)))] H := hP
  have hD : va_D A [(h0, .inr (4, [.ref q1, .ref q2, .int 1024, .int 0, .int 0, .int 0])), (q1, .inl (cAq1, 17, .inl (upd (fun _ => 0) 15 1024))), (q2, .inl (cAq1, 17, .inl (fun _ => 0)))] := hD
  refine lv_aload_n hx hb dX4_init_37 rfl (lv_at hl 0 rfl) ?_
  refine lv_sipush (v := 8192) hx hb dX4_init_38 (by decide) ?_
  refine va_put (D := D) (ci := 4) (v := .int 8192) (ty := .int) (C := RX4) (T := TX4) (N := 6) hx hb hT inGX4 tyX4 tyX4_ok nmX4 hown hK hP hD hS 0 rfl rfl 3 (by decide) (hT _ tF_X4_22) (fun _ h => h) rfl (by decide +kernel) rfl rfl (Nat.le_of_ble_eq_true rfl) dX4_init_41 (fun H locs hP hD hS => ?_)
  have hP : va_P D vwCl [(h0, .inr (4, [.ref q1, .ref q2, .int 1024, .int 8192, .int 0, .int 0])), (q1, .inl (cAq1, 17, .inl (upd (fun _ => 0) 15 1024))), (q2, .inl (cAq1, 17, .inl (fun _ => 0)))] H := hP
  have hD : va_D A [(h0, .inr (4, [.ref q1, .ref q2, .int 1024, .int 8192, .int 0, .int 0])), (q1, .inl (cAq1, 17, .inl (upd (fun _ => 0) 15 1024))), (q2, .inl (cAq1, 17, .inl (fun _ => 0)))] := hD
  have hP9 := hP.sub (ws' := [(h0, .inr (4, [.ref q1, .ref q2, .int 1024, .int 8192, .int 0, .int 0])), (q1, .inl (cAq1, 17, .inl (upd (fun _ => 0) 15 1024))), (q2, .inl (cAq1, 17, .inl (fun _ => 0)))]) [0, 1, 2] rfl
  have hD9 := hD.sub (ws' := [(h0, .inr (4, [.ref q1, .ref q2, .int 1024, .int 8192, .int 0, .int 0])), (q1, .inl (cAq1, 17, .inl (upd (fun _ => 0) 15 1024))), (q2, .inl (cAq1, 17, .inl (fun _ => 0)))]) [0, 1, 2] (by decide) rfl
  have hK9 := hK.sub (tys' := [(cAq1, .int)]) [0] rfl
  exact W.vret hx hb hr (fun t ht hW => ⟨⟨(q1, q2, cAq1), rfl, trivial, by rw [ht]; exact hP9, va_K.moved hW.alike hK9, hD9⟩, hS.F ht⟩) hS.2.2 dX4_init_44
set_option maxHeartbeats 4000000 in
set_option maxRecDepth 100000 in
theorem cX1_ct (l : Launch) (D : va_G) (h0 : Nat) (p1 : Nat) (sz : Nat) : Met l yX1_init (wg yX1_init cX1_init 2 none) ({ frames := 1, cells := 0, slots := 0, locals := 12 }) (va_Pc ([.ref h0, .ref p1]) (fun U => U.heap.size = sz ∧ va_P D vwCl [(h0, .inr (1, [.null]))] U.heap ∧ va_K D vwCl [] U ∧ va_D (fun _ => True) [(h0, .inr (1, [.null]))])) (va_Qv (fun _ : Unit => True) (fun u t => va_P D vwCl [(h0, .inr (1, [.ref p1]))] t.heap ∧ va_K D vwCl [] t ∧ va_D (va_A [(h0, .inr (1, [.null]))] sz) [(h0, .inr (1, [.ref p1]))]) (va_A [(h0, .inr (1, [.null]))] sz)) 0 0 (va_A [(h0, .inr (1, [.null]))] sz) := by
  refine Met.ofW (cc := cX1_init) (maxL := 2) (ret := none) (by decide) rfl ?_
  intro p e s m args below meth c s₁ B hml hv
  obtain ⟨rfl, rfl, hP, hK, hD0⟩ := hv
  have hx := B.exec
  have hb := B.bytes
  have hr := B.returns
  have hts := atoms_spec (ws := wg yX1_init cX1_init 2 none) B.pre
  have hT : ∀ w ∈ wG, w.before _ s = true := fun w h => hts w (List.mem_cons_of_mem _ h)
  have hown : s.vm.findClass RX1 = some m.cls := findClass_of_methodNamed B.named
  have hlocks := B.notSynchronized
  have hin : meth.name = "<init>" := (name_of_methodNamed B.named B.method).1
  have C : CallFix p m c cX1_init 2 s _ wG RX1 := ⟨hx, hb, hml, hown, hT⟩
  have hD := hD0.self (sz := s.heap.size)
  generalize hAe : va_A [(h0, .inr (1, [.null]))] s.heap.size = A at hD ⊢
  have hA : ∀ q : Nat, s.heap.size ≤ q → A q := fun q h => by rw [← hAe]; exact Or.inr h
  have hS : va_S A s.heap s.heap [] := va_S.rf
  have hl := lv_entry ([.ref h0, .ref p1]) (n := 2) (Nat.le_of_ble_eq_true rfl)
  rw [lg_entry_eq]
  generalize (lg_sl ([.ref h0, .ref p1]) ++ List.replicate (2 - (lg_sl ([.ref h0, .ref p1])).length) Slot.unset).toArray = ls at hl ⊢
  have hl : lv_has ls 2 [(0, .ref h0), (1, .ref p1)] := hl
  refine lv_aload_n hx hb dX1_init_0 rfl (lv_at hl 0 rfl) ?_
  refine W.objInit hx hb hown (hT _ tO_X1) (hT _ tI_obj) (hT _ tK_obj) rfl (by rw [hml]; exact hl.1) rfl dX1_init_1 (Nat.le_of_ble_eq_true rfl) (Nat.le_of_ble_eq_true rfl) ?_
  refine W.eq (g2 := F0 m 4 ls []) rfl ?_
  refine lv_aload_n hx hb dX1_init_4 rfl (lv_at hl 0 rfl) ?_
  refine lv_aload_n hx hb dX1_init_5 rfl (lv_at hl 1 rfl) ?_
  refine va_putF (D := D) (ci := 1) (v := .ref p1) (ty := .object "BoardCore$Registers") (C := RX1) (T := TX1) (N := 1) hx hb hT inGX1 tyX1 tyX1_ok nmX1 hown hK hP hD hS 0 rfl rfl 0 (by decide) (hT _ tF_X1_9) (fun _ h => h) rfl hin rfl (by decide +kernel) rfl rfl (Nat.le_of_ble_eq_true rfl) dX1_init_6 (fun H locs hP hD hS => ?_)
  have hP : va_P D vwCl [(h0, .inr (1, [.ref p1]))] H := hP
  have hD : va_D A [(h0, .inr (1, [.ref p1]))] := hD
  have hP9 := hP.sub (ws' := [(h0, .inr (1, [.ref p1]))]) [0] rfl
  have hD9 := hD.sub (ws' := [(h0, .inr (1, [.ref p1]))]) [0] (by decide) rfl
  have hK9 := hK.sub (tys' := []) [] rfl
  exact W.vret hx hb hr (fun t ht hW => ⟨⟨(), rfl, trivial, by rw [ht]; exact hP9, va_K.moved hW.alike hK9, hD9⟩, hS.F ht⟩) hS.2.2 dX1_init_9
set_option maxHeartbeats 4000000 in
set_option maxRecDepth 100000 in
theorem cX0_ct (l : Launch) (D : va_G) (h0 : Nat) (p1 : Nat) (p2 : Nat) (sz : Nat) : Met l yX0_init (wg yX0_init cX0_init 3 none) ({ frames := 1, cells := 0, slots := 0, locals := 12 }) (va_Pc ([.ref h0, .ref p1, .ref p2]) (fun U => U.heap.size = sz ∧ va_P D vwCl [(h0, .inr (0, [.null, .null, .int 0, .int 0]))] U.heap ∧ va_K D vwCl [] U ∧ va_D (fun _ => True) [(h0, .inr (0, [.null, .null, .int 0, .int 0]))])) (va_Qv (fun _ : Unit => True) (fun u t => va_P D vwCl [(h0, .inr (0, [.ref p1, .ref p2, .int 0, .int 0]))] t.heap ∧ va_K D vwCl [] t ∧ va_D (va_A [(h0, .inr (0, [.null, .null, .int 0, .int 0]))] sz) [(h0, .inr (0, [.ref p1, .ref p2, .int 0, .int 0]))]) (va_A [(h0, .inr (0, [.null, .null, .int 0, .int 0]))] sz)) 0 0 (va_A [(h0, .inr (0, [.null, .null, .int 0, .int 0]))] sz) := by
  refine Met.ofW (cc := cX0_init) (maxL := 3) (ret := none) (by decide) rfl ?_
  intro p e s m args below meth c s₁ B hml hv
  obtain ⟨rfl, rfl, hP, hK, hD0⟩ := hv
  have hx := B.exec
  have hb := B.bytes
  have hr := B.returns
  have hts := atoms_spec (ws := wg yX0_init cX0_init 3 none) B.pre
  have hT : ∀ w ∈ wG, w.before _ s = true := fun w h => hts w (List.mem_cons_of_mem _ h)
  have hown : s.vm.findClass RX0 = some m.cls := findClass_of_methodNamed B.named
  have hlocks := B.notSynchronized
  have hin : meth.name = "<init>" := (name_of_methodNamed B.named B.method).1
  have C : CallFix p m c cX0_init 3 s _ wG RX0 := ⟨hx, hb, hml, hown, hT⟩
  have hD := hD0.self (sz := s.heap.size)
  generalize hAe : va_A [(h0, .inr (0, [.null, .null, .int 0, .int 0]))] s.heap.size = A at hD ⊢
  have hA : ∀ q : Nat, s.heap.size ≤ q → A q := fun q h => by rw [← hAe]; exact Or.inr h
  have hS : va_S A s.heap s.heap [] := va_S.rf
  have hl := lv_entry ([.ref h0, .ref p1, .ref p2]) (n := 3) (Nat.le_of_ble_eq_true rfl)
  rw [lg_entry_eq]
  generalize (lg_sl ([.ref h0, .ref p1, .ref p2]) ++ List.replicate (3 - (lg_sl ([.ref h0, .ref p1, .ref p2])).length) Slot.unset).toArray = ls at hl ⊢
  have hl : lv_has ls 3 [(0, .ref h0), (1, .ref p1), (2, .ref p2)] := hl
  refine lv_aload_n hx hb dX0_init_0 rfl (lv_at hl 0 rfl) ?_
  refine W.objInit hx hb hown (hT _ tO_X0) (hT _ tI_obj) (hT _ tK_obj) rfl (by rw [hml]; exact hl.1) rfl dX0_init_1 (Nat.le_of_ble_eq_true rfl) (Nat.le_of_ble_eq_true rfl) ?_
  refine W.eq (g2 := F0 m 4 ls []) rfl ?_
  refine lv_aload_n hx hb dX0_init_4 rfl (lv_at hl 0 rfl) ?_
  refine lv_aload_n hx hb dX0_init_5 rfl (lv_at hl 1 rfl) ?_
  refine va_putF (D := D) (ci := 0) (v := .ref p1) (ty := .object "BoardCore$Memory") (C := RX0) (T := TX0) (N := 4) hx hb hT inGX0 tyX0 tyX0_ok nmX0 hown hK hP hD hS 0 rfl rfl 0 (by decide) (hT _ tF_X0_9) (fun _ h => h) rfl hin rfl (by decide +kernel) rfl rfl (Nat.le_of_ble_eq_true rfl) dX0_init_6 (fun H locs hP hD hS => ?_)
  have hP : va_P D vwCl [(h0, .inr (0, [.ref p1, .null, .int 0, .int 0]))] H := hP
  have hD : va_D A [(h0, .inr (0, [.ref p1, .null, .int 0, .int 0]))] := hD
  refine lv_aload_n hx hb dX0_init_9 rfl (lv_at hl 0 rfl) ?_
  refine lv_aload_n hx hb dX0_init_10 rfl (lv_at hl 2 rfl) ?_
  refine va_putF (D := D) (ci := 0) (v := .ref p2) (ty := .object "BoardCore$Registers") (C := RX0) (T := TX0) (N := 4) hx hb hT inGX0 tyX0 tyX0_ok nmX0 hown hK hP hD hS 0 rfl rfl 1 (by decide) (hT _ tF_X0_15) (fun _ h => h) rfl hin rfl (by decide +kernel) rfl rfl (Nat.le_of_ble_eq_true rfl) dX0_init_11 (fun H locs hP hD hS => ?_)
  have hP : va_P D vwCl [(h0, .inr (0, [.ref p1, .ref p2, .int 0, .int 0]))] H := hP
  have hD : va_D A [(h0, .inr (0, [.ref p1, .ref p2, .int 0, .int 0]))] := hD
  refine lv_aload_n hx hb dX0_init_14 rfl (lv_at hl 0 rfl) ?_
  refine lv_iconst (v := 0) hx hb dX0_init_15 (by decide) ?_
  refine va_put (D := D) (ci := 0) (v := .int 0) (ty := .int) (C := RX0) (T := TX0) (N := 4) hx hb hT inGX0 tyX0 tyX0_ok nmX0 hown hK hP hD hS 0 rfl rfl 2 (by decide) (hT _ tF_X0_19) (fun _ h => h) rfl (by decide +kernel) rfl rfl (Nat.le_of_ble_eq_true rfl) dX0_init_16 (fun H locs hP hD hS => ?_)
  have hP : va_P D vwCl [(h0, .inr (0, [.ref p1, .ref p2, .int 0, .int 0]))] H := hP
  have hD : va_D A [(h0, .inr (0, [.ref p1, .ref p2, .int 0, .int 0]))] := hD
  refine lv_aload_n hx hb dX0_init_19 rfl (lv_at hl 0 rfl) ?_
  refine lv_iconst (v := 0) hx hb dX0_init_20 (by decide) ?_
  refine va_put (D := D) (ci := 0) (v := .int 0) (ty := .int) (C := RX0) (T := TX0) (N := 4) hx hb hT inGX0 tyX0 tyX0_ok nmX0 hown hK hP hD hS 0 rfl rfl 3 (by decide) (hT _ tF_X0_23) (fun _ h => h) rfl (by decide +kernel) rfl rfl (Nat.le_of_ble_eq_true rfl) dX0_init_21 (fun H locs hP hD hS => ?_)
  have hP : va_P D vwCl [(h0, .inr (0, [.ref p1, .ref p2, .int 0, .int 0]))] H := hP
  have hD : va_D A [(h0, .inr (0, [.ref p1, .ref p2, .int 0, .int 0]))] := hD
  have hP9 := hP.sub (ws' := [(h0, .inr (0, [.ref p1, .ref p2, .int 0, .int 0]))]) [0] rfl
  have hD9 := hD.sub (ws' := [(h0, .inr (0, [.ref p1, .ref p2, .int 0, .int 0]))]) [0] (by decide) rfl
  have hK9 := hK.sub (tys' := []) [] rfl
  exact W.vret hx hb hr (fun t ht hW => ⟨⟨(), rfl, trivial, by rw [ht]; exact hP9, va_K.moved hW.alike hK9, hD9⟩, hS.F ht⟩) hS.2.2 dX0_init_24
set_option maxHeartbeats 4000000 in
set_option maxRecDepth 100000 in
theorem cX2_ct (l : Launch) (D : va_G) (h0 : Nat) (p1 : Nat) (p2 : Nat) (sz : Nat) : Met l yX2_init (wg yX2_init cX2_init 3 none) ({ frames := 2, cells := 1, slots := 1, locals := 40 }) (va_Pc ([.ref h0, .ref p1, .ref p2]) (fun U => U.heap.size = sz ∧ va_P D vwCl [(h0, .inr (2, [.null, .null, .null, .int 0]))] U.heap ∧ va_K D vwCl [] U ∧ va_D (fun _ => True) [(h0, .inr (2, [.null, .null, .null, .int 0]))])) (va_Qv (fun _ : Nat => True) (fun u t => va_P D vwCl [(h0, .inr (2, [.ref p1, .ref p2, .ref u, .int 0])), (u, .inr (1, [.ref p1]))] t.heap ∧ va_K D vwCl [] t ∧ va_D (va_A [(h0, .inr (2, [.null, .null, .null, .int 0]))] sz) [(h0, .inr (2, [.ref p1, .ref p2, .ref u, .int 0])), (u, .inr (1, [.ref p1]))]) (va_A [(h0, .inr (2, [.null, .null, .null, .int 0]))] sz)) 1 1 (va_A [(h0, .inr (2, [.null, .null, .null, .int 0]))] sz) := by
  refine Met.ofW (cc := cX2_init) (maxL := 3) (ret := none) (by decide) rfl ?_
  intro p e s m args below meth c s₁ B hml hv
  obtain ⟨rfl, rfl, hP, hK, hD0⟩ := hv
  have hx := B.exec
  have hb := B.bytes
  have hr := B.returns
  have hts := atoms_spec (ws := wg yX2_init cX2_init 3 none) B.pre
  have hT : ∀ w ∈ wG, w.before _ s = true := fun w h => hts w (List.mem_cons_of_mem _ h)
  have hown : s.vm.findClass RX2 = some m.cls := findClass_of_methodNamed B.named
  have hlocks := B.notSynchronized
  have hin : meth.name = "<init>" := (name_of_methodNamed B.named B.method).1
  have C : CallFix p m c cX2_init 3 s _ wG RX2 := ⟨hx, hb, hml, hown, hT⟩
  have hD := hD0.self (sz := s.heap.size)
  generalize hAe : va_A [(h0, .inr (2, [.null, .null, .null, .int 0]))] s.heap.size = A at hD ⊢
  have hA : ∀ q : Nat, s.heap.size ≤ q → A q := fun q h => by rw [← hAe]; exact Or.inr h
  have hS : va_S A s.heap s.heap [] := va_S.rf
  have hl := lv_entry ([.ref h0, .ref p1, .ref p2]) (n := 3) (Nat.le_of_ble_eq_true rfl)
  rw [lg_entry_eq]
  generalize (lg_sl ([.ref h0, .ref p1, .ref p2]) ++ List.replicate (3 - (lg_sl ([.ref h0, .ref p1, .ref p2])).length) Slot.unset).toArray = ls at hl ⊢
  have hl : lv_has ls 3 [(0, .ref h0), (1, .ref p1), (2, .ref p2)] := hl
  refine lv_aload_n hx hb dX2_init_0 rfl (lv_at hl 0 rfl) ?_
  refine W.objInit hx hb hown (hT _ tO_X2) (hT _ tI_obj) (hT _ tK_obj) rfl (by rw [hml]; exact hl.1) rfl dX2_init_1 (Nat.le_of_ble_eq_true rfl) (Nat.le_of_ble_eq_true rfl) ?_
  refine W.eq (g2 := F0 m 4 ls []) rfl ?_
  refine lv_aload_n hx hb dX2_init_4 rfl (lv_at hl 0 rfl) ?_
  refine lv_aload_n hx hb dX2_init_5 rfl (lv_at hl 1 rfl) ?_
  refine va_putF (D := D) (ci := 2) (v := .ref p1) (ty := .object "BoardCore$Registers") (C := RX2) (T := TX2) (N := 4) hx hb hT inGX2 tyX2 tyX2_ok nmX2 hown hK hP hD hS 0 rfl rfl 0 (by decide) (hT _ tF_X2_9) (fun _ h => h) rfl hin rfl (by decide +kernel) rfl rfl (Nat.le_of_ble_eq_true rfl) dX2_init_6 (fun H locs hP hD hS => ?_)
  have hP : va_P D vwCl [(h0, .inr (2, [.ref p1, .null, .null, .int 0]))] H := hP
  have hD : va_D A [(h0, .inr (2, [.ref p1, .null, .null, .int 0]))] := hD
  refine lv_aload_n hx hb dX2_init_9 rfl (lv_at hl 0 rfl) ?_
  refine lv_aload_n hx hb dX2_init_10 rfl (lv_at hl 2 rfl) ?_
  refine va_putF (D := D) (ci := 2) (v := .ref p2) (ty := .object "BoardCore$Access") (C := RX2) (T := TX2) (N := 4) hx hb hT inGX2 tyX2 tyX2_ok nmX2 hown hK hP hD hS 0 rfl rfl 1 (by decide) (hT _ tF_X2_15) (fun _ h => h) rfl hin rfl (by decide +kernel) rfl rfl (Nat.le_of_ble_eq_true rfl) dX2_init_11 (fun H locs hP hD hS => ?_)
  have hP : va_P D vwCl [(h0, .inr (2, [.ref p1, .ref p2, .null, .int 0]))] H := hP
  have hD : va_D A [(h0, .inr (2, [.ref p1, .ref p2, .null, .int 0]))] := hD
  refine lv_aload_n hx hb dX2_init_14 rfl (lv_at hl 0 rfl) ?_
  refine va_new (ci := 1) (fs := [.null]) (C := RX1) (T := TX1) (N := 1) hx hb hT inGX1 tyX1 tyX1_ok hown (hT _ tC_X2_19) (hT _ tA_X1) (hT _ tN_X1) hK hP hD hS hA rfl (fun j hj => by rcases (show j = 0 by omega) with rfl <;> rfl) (Nat.le_of_ble_eq_true rfl) (Nat.le_of_ble_eq_true rfl) dX2_init_15 (fun q1 H hP hD hS => ?_)
  have hP : va_P D vwCl [(h0, .inr (2, [.ref p1, .ref p2, .null, .int 0])), (q1, .inr (1, [.null]))] H := hP
  have hD : va_D A [(h0, .inr (2, [.ref p1, .ref p2, .null, .int 0])), (q1, .inr (1, [.null]))] := hD
  refine W.widen (k := 1) (n := 1) (by omega) (by omega) ?_
  refine lv_dup hx hb dX2_init_18 rfl ?_
  refine lv_aload_n hx hb dX2_init_19 rfl (lv_at hl 1 rfl) ?_
  have hPc := hP.sub (ws' := [(q1, .inr (1, [.null]))]) [1] rfl
  have hDc := hD.sub (ws' := [(q1, .inr (1, [.null]))]) [1] (by decide) rfl
  have hKc := hK.sub (tys' := []) [] rfl
  have hFc := va_free (wc := [(q1, .inr (1, [.null]))]) hD hS hA [1] rfl
  refine va_callv (va_runI (As := [.ref p1]) (rest := [.ref q1, .ref h0]) C (cX1_ct l D q1 p1 H.size) (cwI 1 hT (wg_I tK_X1_init) rfl rfl rfl (hT _ tN_X1) (hT _ tM_X2_21) (hT _ tI_X1_init) rfl (by decide +kernel) ⟨Nat.le_of_ble_eq_true rfl, Nat.le_of_ble_eq_true rfl⟩) ⟨bl_ct, fun U hU hW => ⟨rfl, by rw [hU], by rw [hU]; exact hPc, va_K.moved hW.alike hKc, hDc.weaken (fun _ _ _ _ => trivial)⟩⟩ rfl rfl hl.1 rfl (lv_room (Nat.le_of_ble_eq_true rfl)) dX2_init_20 ⟨Nat.le_of_ble_eq_true rfl, Nat.le_of_ble_eq_true rfl⟩) hS (fun q _ h => hFc q h) hFc (fun u t H1 locs ht hvm hw hB hz1 hk1 hS => ?_)
  obtain ⟨⟩ := u
  obtain ⟨hP1, hK1, hD1⟩ := hB
  rw [ht] at hP1
  have hK1 := va_K.moved hvm.symm hK1
  obtain ⟨hP, hD⟩ := va_join (wr := [(h0, .inr (2, [.ref p1, .ref p2, .null, .int 0]))]) (w1 := [(q1, .inr (1, [.ref p1]))]) hP hD [1] [0] rfl rfl (by decide) (by decide) hk1 hFc hP1 hD1
  have hK := (hK.sub (tys' := []) [] rfl).app hK1
  generalize H1 = H at hP hS ⊢
  have hP : va_P D vwCl [(h0, .inr (2, [.ref p1, .ref p2, .null, .int 0])), (q1, .inr (1, [.ref p1]))] H := hP
  have hD : va_D A [(h0, .inr (2, [.ref p1, .ref p2, .null, .int 0])), (q1, .inr (1, [.ref p1]))] := hD
  have hK : va_K D vwCl [] s := hK
  refine W.widen (k := 1) (n := 1) (by omega) (by omega) ?_
  refine va_putF (D := D) (ci := 2) (v := .ref q1) (ty := .object "BoardCore$Arithmetic") (C := RX2) (T := TX2) (N := 4) hx hb hT inGX2 tyX2 tyX2_ok nmX2 hown hK hP hD hS 0 rfl rfl 2 (by decide) (hT _ tF_X2_24) (fun _ h => h) rfl hin rfl (by decide +kernel) rfl rfl (Nat.le_of_ble_eq_true rfl) dX2_init_23 (fun H locs hP hD hS => ?_)
  have hP : va_P D vwCl [(h0, .inr (2, [.ref p1, .ref p2, .ref q1, .int 0])), (q1, .inr (1, [.ref p1]))] H := hP
  have hD : va_D A [(h0, .inr (2, [.ref p1, .ref p2, .ref q1, .int 0])), (q1, .inr (1, [.ref p1]))] := hD
  refine lv_aload_n hx hb dX2_init_26 rfl (lv_at hl 0 rfl) ?_
  refine lv_iconst (v := 0) hx hb dX2_init_27 (by decide) ?_
  refine va_put (D := D) (ci := 2) (v := .int 0) (ty := .boolean) (C := RX2) (T := TX2) (N := 4) hx hb hT inGX2 tyX2 tyX2_ok nmX2 hown hK hP hD hS 0 rfl rfl 3 (by decide) (hT _ tF_X2_28) (fun _ h => h) rfl (by decide +kernel) rfl rfl (Nat.le_of_ble_eq_true rfl) dX2_init_28 (fun H locs hP hD hS => ?_)
  have hP : va_P D vwCl [(h0, .inr (2, [.ref p1, .ref p2, .ref q1, .int 0])), (q1, .inr (1, [.ref p1]))] H := hP
  have hD : va_D A [(h0, .inr (2, [.ref p1, .ref p2, .ref q1, .int 0])), (q1, .inr (1, [.ref p1]))] := hD
  have hP9 := hP.sub (ws' := [(h0, .inr (2, [.ref p1, .ref p2, .ref q1, .int 0])), (q1, .inr (1, [.ref p1]))]) [0, 1] rfl
  have hD9 := hD.sub (ws' := [(h0, .inr (2, [.ref p1, .ref p2, .ref q1, .int 0])), (q1, .inr (1, [.ref p1]))]) [0, 1] (by decide) rfl
  have hK9 := hK.sub (tys' := []) [] rfl
  exact W.vret hx hb hr (fun t ht hW => ⟨⟨q1, rfl, trivial, by rw [ht]; exact hP9, va_K.moved hW.alike hK9, hD9⟩, hS.F ht⟩) hS.2.2 dX2_init_31
def aB9 (h0 : Nat) (L : List Nat) : Nat → Nat := fun k => (h0 :: L).getD k 0
def B00 : St := (fun k => if k = 2 then 1024 else if k = 3 then 8192 else 0, fun _ => false, fun k => if k = 1 then upd (fun _ => 0) 15 1024 else fun _ => 0)
set_option maxHeartbeats 4000000 in
set_option maxRecDepth 100000 in
theorem cX6_ct (l : Launch) (D : va_G) (h0 : Nat) (sz : Nat) : Met l yX6_init (wg yX6_init cX6_init 1 none) ({ frames := 3, cells := 9, slots := 4210, locals := 80 }) (va_Pc ([.ref h0]) (fun U => U.heap.size = sz ∧ va_P D vwCl [(h0, .inr (5, [.null, .null, .null, .null, .null, .int 0, .int 0]))] U.heap ∧ va_K D vwCl [] U ∧ va_D (fun _ => True) [(h0, .inr (5, [.null, .null, .null, .null, .null, .int 0, .int 0]))])) (va_Qv (fun _ : (Nat → Nat) × ClassId × ClassId => True) (fun u t => va_P D vwCl (wB u.1 u.2.1 u.2.2 B00) t.heap ∧ va_K D vwCl [(u.2.1, .int), (u.2.2, .byte)] t ∧ va_D (va_A [(h0, .inr (5, [.null, .null, .null, .null, .null, .int 0, .int 0]))] sz) (wB u.1 u.2.1 u.2.2 B00) ∧ u.1 0 = h0) (va_A [(h0, .inr (5, [.null, .null, .null, .null, .null, .int 0, .int 0]))] sz)) 9 4210 (va_A [(h0, .inr (5, [.null, .null, .null, .null, .null, .int 0, .int 0]))] sz) := by
  refine Met.ofW (cc := cX6_init) (maxL := 1) (ret := none) (by decide) rfl ?_
  intro p e s m args below meth c s₁ B hml hv
  obtain ⟨rfl, rfl, hP, hK, hD0⟩ := hv
  have hx := B.exec
  have hb := B.bytes
  have hr := B.returns
  have hts := atoms_spec (ws := wg yX6_init cX6_init 1 none) B.pre
  have hT : ∀ w ∈ wG, w.before _ s = true := fun w h => hts w (List.mem_cons_of_mem _ h)
  have hown : s.vm.findClass RX6 = some m.cls := findClass_of_methodNamed B.named
  have hlocks := B.notSynchronized
  have hin : meth.name = "<init>" := (name_of_methodNamed B.named B.method).1
  have C : CallFix p m c cX6_init 1 s _ wG RX6 := ⟨hx, hb, hml, hown, hT⟩
  have hD := hD0.self (sz := s.heap.size)
  generalize hAe : va_A [(h0, .inr (5, [.null, .null, .null, .null, .null, .int 0, .int 0]))] s.heap.size = A at hD ⊢
  have hA : ∀ q : Nat, s.heap.size ≤ q → A q := fun q h => by rw [← hAe]; exact Or.inr h
  have hS : va_S A s.heap s.heap [] := va_S.rf
  have hl := lv_entry ([.ref h0]) (n := 1) (Nat.le_of_ble_eq_true rfl)
  rw [lg_entry_eq]
  generalize (lg_sl ([.ref h0]) ++ List.replicate (1 - (lg_sl ([.ref h0])).length) Slot.unset).toArray = ls at hl ⊢
  have hl : lv_has ls 1 [(0, .ref h0)] := hl
  refine lv_aload_n hx hb dX6_init_0 rfl (lv_at hl 0 rfl) ?_
  refine W.objInit hx hb hown (hT _ tO_X6) (hT _ tI_obj) (hT _ tK_obj) rfl (by rw [hml]; exact hl.1) rfl dX6_init_1 (Nat.le_of_ble_eq_true rfl) (Nat.le_of_ble_eq_true rfl) ?_
  refine W.eq (g2 := F0 m 4 ls []) rfl ?_
  refine lv_aload_n hx hb dX6_init_4 rfl (lv_at hl 0 rfl) ?_
  refine va_new (ci := 3) (fs := [.null]) (C := RX3) (T := TX3) (N := 1) hx hb hT inGX3 tyX3 tyX3_ok hown (hT _ tC_X6_9) (hT _ tA_X3) (hT _ tN_X3) hK hP hD hS hA rfl (fun j hj => by rcases (show j = 0 by omega) with rfl <;> rfl) (Nat.le_of_ble_eq_true rfl) (Nat.le_of_ble_eq_true rfl) dX6_init_5 (fun q1 H hP hD hS => ?_)
  have hP : va_P D vwCl [(h0, .inr (5, [.null, .null, .null, .null, .null, .int 0, .int 0])), (q1, .inr (3, [.null]))] H := hP
  have hD : va_D A [(h0, .inr (5, [.null, .null, .null, .null, .null, .int 0, .int 0])), (q1, .inr (3, [.null]))] := hD
  refine W.widen (k := 1) (n := 1) (by omega) (by omega) ?_
  refine lv_dup hx hb dX6_init_8 rfl ?_
  have hPc := hP.sub (ws' := [(q1, .inr (3, [.null]))]) [1] rfl
  have hDc := hD.sub (ws' := [(q1, .inr (3, [.null]))]) [1] (by decide) rfl
  have hKc := hK.sub (tys' := []) [] rfl
  have hFc := va_free (wc := [(q1, .inr (3, [.null]))]) hD hS hA [1] rfl
  refine va_callv (va_runI (As := []) (rest := [.ref q1, .ref h0]) C (cX3_ct l D q1 H.size) (cwI 0 hT (wg_I tK_X3_init) rfl rfl rfl (hT _ tN_X3) (hT _ tM_X6_11) (hT _ tI_X3_init) rfl (by decide +kernel) ⟨Nat.le_of_ble_eq_true rfl, Nat.le_of_ble_eq_true rfl⟩) ⟨bl_ct, fun U hU hW => ⟨rfl, by rw [hU], by rw [hU]; exact hPc, va_K.moved hW.alike hKc, hDc.weaken (fun _ _ _ _ => trivial)⟩⟩ rfl rfl hl.1 rfl (lv_room (Nat.le_of_ble_eq_true rfl)) dX6_init_9 ⟨Nat.le_of_ble_eq_true rfl, Nat.le_of_ble_eq_true rfl⟩) hS (fun q _ h => hFc q h) hFc (fun u t H1 locs ht hvm hw hB hz1 hk1 hS => ?_)
  obtain ⟨qm, cBm⟩ := u
  obtain ⟨hP1, hK1, hD1⟩ := hB
  rw [ht] at hP1
  have hK1 := va_K.moved hvm.symm hK1
  obtain ⟨hP, hD⟩ := va_join (wr := [(h0, .inr (5, [.null, .null, .null, .null, .null, .int 0, .int 0]))]) (w1 := [(q1, .inr (3, [.ref qm])), (qm, .inl (cBm, 4096, .inl (fun _ => 0)))]) hP hD [1] [0] rfl rfl (by decide) (by decide) hk1 hFc hP1 hD1
  have hK := (hK.sub (tys' := []) [] rfl).app hK1
  generalize H1 = H at hP hS ⊢
  have hP : va_P D vwCl [(h0, .inr (5, [.null, .null, .null, .null, .null, .int 0, .int 0])), (q1, .inr (3, [.ref qm])), (qm, .inl (cBm, 4096, .inl (fun _ => 0)))] H := hP
  have hD : va_D A [(h0, .inr (5, [.null, .null, .null, .null, .null, .int 0, .int 0])), (q1, .inr (3, [.ref qm])), (qm, .inl (cBm, 4096, .inl (fun _ => 0)))] := hD
  have hK : va_K D vwCl [(cBm, .byte)] s := hK
  refine W.widen (k := 2) (n := 4097) (by omega) (by omega) ?_
  refine va_putF (D := D) (ci := 5) (v := .ref q1) (ty := .object "BoardCore$Memory") (C := RX6) (T := TX6) (N := 7) hx hb hT inGX6 tyX6 tyX6_ok nmX6 hown hK hP hD hS 0 rfl rfl 0 (by decide) (hT _ tF_X6_12) (fun _ h => h) rfl hin rfl (by decide +kernel) rfl rfl (Nat.le_of_ble_eq_true rfl) dX6_init_12 (fun H locs hP hD hS => ?_)
  have hP : va_P D vwCl [(h0, .inr (5, [.ref q1, .null, .null, .null, .null, .int 0, .int 0])), (q1, .inr (3, [.ref qm])), (qm, .inl (cBm, 4096, .inl (fun _ => 0)))] H := hP
  have hD : va_D A [(h0, .inr (5, [.ref q1, .null, .null, .null, .null, .int 0, .int 0])), (q1, .inr (3, [.ref qm])), (qm, .inl (cBm, 4096, .inl (fun _ => 0)))] := hD
  refine lv_aload_n hx hb dX6_init_15 rfl (lv_at hl 0 rfl) ?_
  refine va_new (ci := 4) (fs := [.null, .null, .int 0, .int 0, .int 0, .int 0]) (C := RX4) (T := TX4) (N := 6) hx hb hT inGX4 tyX4 tyX4_ok hown (hT _ tC_X6_16) (hT _ tA_X4) (hT _ tN_X4) hK hP hD hS hA rfl (fun j hj => by rcases (show j = 0 ∨ j = 1 ∨ j = 2 ∨ j = 3 ∨ j = 4 ∨ j = 5 by omega) with rfl | rfl | rfl | rfl | rfl | rfl <;> rfl) (Nat.le_of_ble_eq_true rfl) (Nat.le_of_ble_eq_true rfl) dX6_init_16 (fun q2 H hP hD hS => ?_)
  have hP : va_P D vwCl [(h0, .inr (5, [.ref q1, .null, .null, .null, .null, .int 0, .int 0])), (q1, .inr (3, [.ref qm])), (qm, .inl (cBm, 4096, .inl (fun _ => 0))), (q2, .inr (4, [.null, .null, .int 0, .int 0, .int 0, .int 0]))] H := hP
  have hD : va_D A [(h0, .inr (5, [.ref q1, .null, .null, .null, .null, .int 0, .int 0])), (q1, .inr (3, [.ref qm])), (qm, .inl (cBm, 4096, .inl (fun _ => 0))), (q2, .inr (4, [.null, .null, .int 0, .int 0, .int 0, .int 0]))] := hD
  refine W.widen (k := 3) (n := 4103) (by omega) (by omega) ?_
  refine lv_dup hx hb dX6_init_19 rfl ?_
  have hPc := hP.sub (ws' := [(q2, .inr (4, [.null, .null, .int 0, .int 0, .int 0, .int 0]))]) [3] rfl
  have hDc := hD.sub (ws' := [(q2, .inr (4, [.null, .null, .int 0, .int 0, .int 0, .int 0]))]) [3] (by decide) rfl
  have hKc := hK.sub (tys' := []) [] rfl
  have hFc := va_free (wc := [(q2, .inr (4, [.null, .null, .int 0, .int 0, .int 0, .int 0]))]) hD hS hA [3] rfl
  refine va_callv (va_runI (As := []) (rest := [.ref q2, .ref h0]) C (cX4_ct l D q2 H.size) (cwI 0 hT (wg_I tK_X4_init) rfl rfl rfl (hT _ tN_X4) (hT _ tM_X6_18) (hT _ tI_X4_init) rfl (by decide +kernel) ⟨Nat.le_of_ble_eq_true rfl, Nat.le_of_ble_eq_true rfl⟩) ⟨bl_ct, fun U hU hW => ⟨rfl, by rw [hU], by rw [hU]; exact hPc, va_K.moved hW.alike hKc, hDc.weaken (fun _ _ _ _ => trivial)⟩⟩ rfl rfl hl.1 rfl (lv_room (Nat.le_of_ble_eq_true rfl)) dX6_init_20 ⟨Nat.le_of_ble_eq_true rfl, Nat.le_of_ble_eq_true rfl⟩) hS (fun q _ h => hFc q h) hFc (fun u t H1 locs ht hvm hw hB hz1 hk1 hS => ?_)
  obtain ⟨qn, qk, cIr⟩ := u
  obtain ⟨hP1, hK1, hD1⟩ := hB
  rw [ht] at hP1
  have hK1 := va_K.moved hvm.symm hK1
  obtain ⟨hP, hD⟩ := va_join (wr := [(h0, .inr (5, [.ref q1, .null, .null, .null, .null, .int 0, .int 0])), (q1, .inr (3, [.ref qm])), (qm, .inl (cBm, 4096, .inl (fun _ => 0)))]) (w1 := [(q2, .inr (4, [.ref qn, .ref qk, .int 1024, .int 8192, .int 0, .int 0])), (qn, .inl (cIr, 17, .inl (upd (fun _ => 0) 15 1024))), (qk, .inl (cIr, 17, .inl (fun _ => 0)))]) hP hD [3] [0, 1, 2] rfl rfl (by decide) (by decide) hk1 hFc hP1 hD1
  have hK := (hK.sub (tys' := [(cBm, .byte)]) [0] rfl).app hK1
  generalize H1 = H at hP hS ⊢
  have hP : va_P D vwCl [(h0, .inr (5, [.ref q1, .null, .null, .null, .null, .int 0, .int 0])), (q1, .inr (3, [.ref qm])), (qm, .inl (cBm, 4096, .inl (fun _ => 0))), (q2, .inr (4, [.ref qn, .ref qk, .int 1024, .int 8192, .int 0, .int 0])), (qn, .inl (cIr, 17, .inl (upd (fun _ => 0) 15 1024))), (qk, .inl (cIr, 17, .inl (fun _ => 0)))] H := hP
  have hD : va_D A [(h0, .inr (5, [.ref q1, .null, .null, .null, .null, .int 0, .int 0])), (q1, .inr (3, [.ref qm])), (qm, .inl (cBm, 4096, .inl (fun _ => 0))), (q2, .inr (4, [.ref qn, .ref qk, .int 1024, .int 8192, .int 0, .int 0])), (qn, .inl (cIr, 17, .inl (upd (fun _ => 0) 15 1024))), (qk, .inl (cIr, 17, .inl (fun _ => 0)))] := hD
  have hK : va_K D vwCl [(cBm, .byte), (cIr, .int)] s := hK
  refine W.widen (k := 5) (n := 4137) (by omega) (by omega) ?_
  refine va_putF (D := D) (ci := 5) (v := .ref q2) (ty := .object "BoardCore$Registers") (C := RX6) (T := TX6) (N := 7) hx hb hT inGX6 tyX6 tyX6_ok nmX6 hown hK hP hD hS 0 rfl rfl 1 (by decide) (hT _ tF_X6_19) (fun _ h => h) rfl hin rfl (by decide +kernel) rfl rfl (Nat.le_of_ble_eq_true rfl) dX6_init_23 (fun H locs hP hD hS => ?_)
  have hP : va_P D vwCl [(h0, .inr (5, [.ref q1, .ref q2, .null, .null, .null, .int 0, .int 0])), (q1, .inr (3, [.ref qm])), (qm, .inl (cBm, 4096, .inl (fun _ => 0))), (q2, .inr (4, [.ref qn, .ref qk, .int 1024, .int 8192, .int 0, .int 0])), (qn, .inl (cIr, 17, .inl (upd (fun _ => 0) 15 1024))), (qk, .inl (cIr, 17, .inl (fun _ => 0)))] H := hP
  have hD : va_D A [(h0, .inr (5, [.ref q1, .ref q2, .null, .null, .null, .int 0, .int 0])), (q1, .inr (3, [.ref qm])), (qm, .inl (cBm, 4096, .inl (fun _ => 0))), (q2, .inr (4, [.ref qn, .ref qk, .int 1024, .int 8192, .int 0, .int 0])), (qn, .inl (cIr, 17, .inl (upd (fun _ => 0) 15 1024))), (qk, .inl (cIr, 17, .inl (fun _ => 0)))] := hD
  refine lv_aload_n hx hb dX6_init_26 rfl (lv_at hl 0 rfl) ?_
  refine va_new (ci := 0) (fs := [.null, .null, .int 0, .int 0]) (C := RX0) (T := TX0) (N := 4) hx hb hT inGX0 tyX0 tyX0_ok hown (hT _ tC_X6_23) (hT _ tA_X0) (hT _ tN_X0) hK hP hD hS hA rfl (fun j hj => by rcases (show j = 0 ∨ j = 1 ∨ j = 2 ∨ j = 3 by omega) with rfl | rfl | rfl | rfl <;> rfl) (Nat.le_of_ble_eq_true rfl) (Nat.le_of_ble_eq_true rfl) dX6_init_27 (fun q3 H hP hD hS => ?_)
  have hP : va_P D vwCl [(h0, .inr (5, [.ref q1, .ref q2, .null, .null, .null, .int 0, .int 0])), (q1, .inr (3, [.ref qm])), (qm, .inl (cBm, 4096, .inl (fun _ => 0))), (q2, .inr (4, [.ref qn, .ref qk, .int 1024, .int 8192, .int 0, .int 0])), (qn, .inl (cIr, 17, .inl (upd (fun _ => 0) 15 1024))), (qk, .inl (cIr, 17, .inl (fun _ => 0))), (q3, .inr (0, [.null, .null, .int 0, .int 0]))] H := hP
  have hD : va_D A [(h0, .inr (5, [.ref q1, .ref q2, .null, .null, .null, .int 0, .int 0])), (q1, .inr (3, [.ref qm])), (qm, .inl (cBm, 4096, .inl (fun _ => 0))), (q2, .inr (4, [.ref qn, .ref qk, .int 1024, .int 8192, .int 0, .int 0])), (qn, .inl (cIr, 17, .inl (upd (fun _ => 0) 15 1024))), (qk, .inl (cIr, 17, .inl (fun _ => 0))), (q3, .inr (0, [.null, .null, .int 0, .int 0]))] := hD
  refine W.widen (k := 6) (n := 4141) (by omega) (by omega) ?_
  refine lv_dup hx hb dX6_init_30 rfl ?_
  refine lv_aload_n hx hb dX6_init_31 rfl (lv_at hl 0 rfl) ?_
  refine va_get (D := D) (ci := 5) (v := .ref q1) (C := RX6) (T := TX6) (N := 7) hx hb hT inGX6 hown hK hP 0 rfl rfl 0 (by decide) (hT _ tF_X6_12) (fun _ h => h) rfl dX6_init_32 ?_
  refine lv_aload_n hx hb dX6_init_35 rfl (lv_at hl 0 rfl) ?_
  refine va_get (D := D) (ci := 5) (v := .ref q2) (C := RX6) (T := TX6) (N := 7) hx hb hT inGX6 hown hK hP 0 rfl rfl 1 (by decide) (hT _ tF_X6_19) (fun _ h => h) rfl dX6_init_36 ?_
  have hPc := hP.sub (ws' := [(q3, .inr (0, [.null, .null, .int 0, .int 0]))]) [6] rfl
  have hDc := hD.sub (ws' := [(q3, .inr (0, [.null, .null, .int 0, .int 0]))]) [6] (by decide) rfl
  have hKc := hK.sub (tys' := []) [] rfl
  have hFc := va_free (wc := [(q3, .inr (0, [.null, .null, .int 0, .int 0]))]) hD hS hA [6] rfl
  refine va_callv (va_runI (As := [.ref q1, .ref q2]) (rest := [.ref q3, .ref h0]) C (cX0_ct l D q3 q1 q2 H.size) (cwI 2 hT (wg_I tK_X0_init) rfl rfl rfl (hT _ tN_X0) (hT _ tM_X6_25) (hT _ tI_X0_init) rfl (by decide +kernel) ⟨Nat.le_of_ble_eq_true rfl, Nat.le_of_ble_eq_true rfl⟩) ⟨bl_ct, fun U hU hW => ⟨rfl, by rw [hU], by rw [hU]; exact hPc, va_K.moved hW.alike hKc, hDc.weaken (fun _ _ _ _ => trivial)⟩⟩ rfl rfl hl.1 rfl (lv_room (Nat.le_of_ble_eq_true rfl)) dX6_init_39 ⟨Nat.le_of_ble_eq_true rfl, Nat.le_of_ble_eq_true rfl⟩) hS (fun q _ h => hFc q h) hFc (fun u t H1 locs ht hvm hw hB hz1 hk1 hS => ?_)
  obtain ⟨⟩ := u
  obtain ⟨hP1, hK1, hD1⟩ := hB
  rw [ht] at hP1
  have hK1 := va_K.moved hvm.symm hK1
  obtain ⟨hP, hD⟩ := va_join (wr := [(h0, .inr (5, [.ref q1, .ref q2, .null, .null, .null, .int 0, .int 0])), (q1, .inr (3, [.ref qm])), (qm, .inl (cBm, 4096, .inl (fun _ => 0))), (q2, .inr (4, [.ref qn, .ref qk, .int 1024, .int 8192, .int 0, .int 0])), (qn, .inl (cIr, 17, .inl (upd (fun _ => 0) 15 1024))), (qk, .inl (cIr, 17, .inl (fun _ => 0)))]) (w1 := [(q3, .inr (0, [.ref q1, .ref q2, .int 0, .int 0]))]) hP hD [6] [0, 1, 2, 3, 4, 5] rfl rfl (by decide) (by decide) hk1 hFc hP1 hD1
  have hK := (hK.sub (tys' := [(cBm, .byte), (cIr, .int)]) [0, 1] rfl).app hK1
  generalize H1 = H at hP hS ⊢
  have hP : va_P D vwCl [(h0, .inr (5, [.ref q1, .ref q2, .null, .null, .null, .int 0, .int 0])), (q1, .inr (3, [.ref qm])), (qm, .inl (cBm, 4096, .inl (fun _ => 0))), (q2, .inr (4, [.ref qn, .ref qk, .int 1024, .int 8192, .int 0, .int 0])), (qn, .inl (cIr, 17, .inl (upd (fun _ => 0) 15 1024))), (qk, .inl (cIr, 17, .inl (fun _ => 0))), (q3, .inr (0, [.ref q1, .ref q2, .int 0, .int 0]))] H := hP
  have hD : va_D A [(h0, .inr (5, [.ref q1, .ref q2, .null, .null, .null, .int 0, .int 0])), (q1, .inr (3, [.ref qm])), (qm, .inl (cBm, 4096, .inl (fun _ => 0))), (q2, .inr (4, [.ref qn, .ref qk, .int 1024, .int 8192, .int 0, .int 0])), (qn, .inl (cIr, 17, .inl (upd (fun _ => 0) 15 1024))), (qk, .inl (cIr, 17, .inl (fun _ => 0))), (q3, .inr (0, [.ref q1, .ref q2, .int 0, .int 0]))] := hD
  have hK : va_K D vwCl [(cBm, .byte), (cIr, .int)] s := hK
  refine W.widen (k := 6) (n := 4141) (by omega) (by omega) ?_
  refine va_putF (D := D) (ci := 5) (v := .ref q3) (ty := .object "BoardCore$Access") (C := RX6) (T := TX6) (N := 7) hx hb hT inGX6 tyX6 tyX6_ok nmX6 hown hK hP hD hS 0 rfl rfl 2 (by decide) (hT _ tF_X6_28) (fun _ h => h) rfl hin rfl (by decide +kernel) rfl rfl (Nat.le_of_ble_eq_true rfl) dX6_init_42 (fun H locs hP hD hS => ?_)
  have hP : va_P D vwCl [(h0, .inr (5, [.ref q1, .ref q2, .ref q3, .null, .null, .int 0, .int 0])), (q1, .inr (3, [.ref qm])), (qm, .inl (cBm, 4096, .inl (fun _ => 0))), (q2, .inr (4, [.ref qn, .ref qk, .int 1024, .int 8192, .int 0, .int 0])), (qn, .inl (cIr, 17, .inl (upd (fun _ => 0) 15 1024))), (qk, .inl (cIr, 17, .inl (fun _ => 0))), (q3, .inr (0, [.ref q1, .ref q2, .int 0, .int 0]))] H := hP
  have hD : va_D A [(h0, .inr (5, [.ref q1, .ref q2, .ref q3, .null, .null, .int 0, .int 0])), (q1, .inr (3, [.ref qm])), (qm, .inl (cBm, 4096, .inl (fun _ => 0))), (q2, .inr (4, [.ref qn, .ref qk, .int 1024, .int 8192, .int 0, .int 0])), (qn, .inl (cIr, 17, .inl (upd (fun _ => 0) 15 1024))), (qk, .inl (cIr, 17, .inl (fun _ => 0))), (q3, .inr (0, [.ref q1, .ref q2, .int 0, .int 0]))] := hD
  refine lv_aload_n hx hb dX6_init_45 rfl (lv_at hl 0 rfl) ?_
  refine va_new (ci := 2) (fs := [.null, .null, .null, .int 0]) (C := RX2) (T := TX2) (N := 4) hx hb hT inGX2 tyX2 tyX2_ok hown (hT _ tC_X6_32) (hT _ tA_X2) (hT _ tN_X2) hK hP hD hS hA rfl (fun j hj => by rcases (show j = 0 ∨ j = 1 ∨ j = 2 ∨ j = 3 by omega) with rfl | rfl | rfl | rfl <;> rfl) (Nat.le_of_ble_eq_true rfl) (Nat.le_of_ble_eq_true rfl) dX6_init_46 (fun q4 H hP hD hS => ?_)
  have hP : va_P D vwCl [(h0, .inr (5, [.ref q1, .ref q2, .ref q3, .null, .null, .int 0, .int 0])), (q1, .inr (3, [.ref qm])), (qm, .inl (cBm, 4096, .inl (fun _ => 0))), (q2, .inr (4, [.ref qn, .ref qk, .int 1024, .int 8192, .int 0, .int 0])), (qn, .inl (cIr, 17, .inl (upd (fun _ => 0) 15 1024))), (qk, .inl (cIr, 17, .inl (fun _ => 0))), (q3, .inr (0, [.ref q1, .ref q2, .int 0, .int 0])), (q4, .inr (2, [.null, .null, .null, .int 0]))] H := hP
  have hD : va_D A [(h0, .inr (5, [.ref q1, .ref q2, .ref q3, .null, .null, .int 0, .int 0])), (q1, .inr (3, [.ref qm])), (qm, .inl (cBm, 4096, .inl (fun _ => 0))), (q2, .inr (4, [.ref qn, .ref qk, .int 1024, .int 8192, .int 0, .int 0])), (qn, .inl (cIr, 17, .inl (upd (fun _ => 0) 15 1024))), (qk, .inl (cIr, 17, .inl (fun _ => 0))), (q3, .inr (0, [.ref q1, .ref q2, .int 0, .int 0])), (q4, .inr (2, [.null, .null, .null, .int 0]))] := hD
  refine W.widen (k := 7) (n := 4145) (by omega) (by omega) ?_
  refine lv_dup hx hb dX6_init_49 rfl ?_
  refine lv_aload_n hx hb dX6_init_50 rfl (lv_at hl 0 rfl) ?_
  refine va_get (D := D) (ci := 5) (v := .ref q2) (C := RX6) (T := TX6) (N := 7) hx hb hT inGX6 hown hK hP 0 rfl rfl 1 (by decide) (hT _ tF_X6_19) (fun _ h => h) rfl dX6_init_51 ?_
  refine lv_aload_n hx hb dX6_init_54 rfl (lv_at hl 0 rfl) ?_
  refine va_get (D := D) (ci := 5) (v := .ref q3) (C := RX6) (T := TX6) (N := 7) hx hb hT inGX6 hown hK hP 0 rfl rfl 2 (by decide) (hT _ tF_X6_28) (fun _ h => h) rfl dX6_init_55 ?_
  have hPc := hP.sub (ws' := [(q4, .inr (2, [.null, .null, .null, .int 0]))]) [7] rfl
  have hDc := hD.sub (ws' := [(q4, .inr (2, [.null, .null, .null, .int 0]))]) [7] (by decide) rfl
  have hKc := hK.sub (tys' := []) [] rfl
  have hFc := va_free (wc := [(q4, .inr (2, [.null, .null, .null, .int 0]))]) hD hS hA [7] rfl
  refine va_callv (va_runI (As := [.ref q2, .ref q3]) (rest := [.ref q4, .ref h0]) C (cX2_ct l D q4 q2 q3 H.size) (cwI 2 hT (wg_I tK_X2_init) rfl rfl rfl (hT _ tN_X2) (hT _ tM_X6_34) (hT _ tI_X2_init) rfl (by decide +kernel) ⟨Nat.le_of_ble_eq_true rfl, Nat.le_of_ble_eq_true rfl⟩) ⟨bl_ct, fun U hU hW => ⟨rfl, by rw [hU], by rw [hU]; exact hPc, va_K.moved hW.alike hKc, hDc.weaken (fun _ _ _ _ => trivial)⟩⟩ rfl rfl hl.1 rfl (lv_room (Nat.le_of_ble_eq_true rfl)) dX6_init_58 ⟨Nat.le_of_ble_eq_true rfl, Nat.le_of_ble_eq_true rfl⟩) hS (fun q _ h => hFc q h) hFc (fun u t H1 locs ht hvm hw hB hz1 hk1 hS => ?_)
  obtain ⟨qa, rfl⟩ : ∃ z, z = u := ⟨_, rfl⟩
  obtain ⟨hP1, hK1, hD1⟩ := hB
  rw [ht] at hP1
  have hK1 := va_K.moved hvm.symm hK1
  obtain ⟨hP, hD⟩ := va_join (wr := [(h0, .inr (5, [.ref q1, .ref q2, .ref q3, .null, .null, .int 0, .int 0])), (q1, .inr (3, [.ref qm])), (qm, .inl (cBm, 4096, .inl (fun _ => 0))), (q2, .inr (4, [.ref qn, .ref qk, .int 1024, .int 8192, .int 0, .int 0])), (qn, .inl (cIr, 17, .inl (upd (fun _ => 0) 15 1024))), (qk, .inl (cIr, 17, .inl (fun _ => 0))), (q3, .inr (0, [.ref q1, .ref q2, .int 0, .int 0]))]) (w1 := [(q4, .inr (2, [.ref q2, .ref q3, .ref qa, .int 0])), (qa, .inr (1, [.ref q2]))]) hP hD [7] [0, 1, 2, 3, 4, 5, 6] rfl rfl (by decide) (by decide) hk1 hFc hP1 hD1
  have hK := (hK.sub (tys' := [(cBm, .byte), (cIr, .int)]) [0, 1] rfl).app hK1
  generalize H1 = H at hP hS ⊢
  have hP : va_P D vwCl [(h0, .inr (5, [.ref q1, .ref q2, .ref q3, .null, .null, .int 0, .int 0])), (q1, .inr (3, [.ref qm])), (qm, .inl (cBm, 4096, .inl (fun _ => 0))), (q2, .inr (4, [.ref qn, .ref qk, .int 1024, .int 8192, .int 0, .int 0])), (qn, .inl (cIr, 17, .inl (upd (fun _ => 0) 15 1024))), (qk, .inl (cIr, 17, .inl (fun _ => 0))), (q3, .inr (0, [.ref q1, .ref q2, .int 0, .int 0])), (q4, .inr (2, [.ref q2, .ref q3, .ref qa, .int 0])), (qa, .inr (1, [.ref q2]))] H := hP
  have hD : va_D A [(h0, .inr (5, [.ref q1, .ref q2, .ref q3, .null, .null, .int 0, .int 0])), (q1, .inr (3, [.ref qm])), (qm, .inl (cBm, 4096, .inl (fun _ => 0))), (q2, .inr (4, [.ref qn, .ref qk, .int 1024, .int 8192, .int 0, .int 0])), (qn, .inl (cIr, 17, .inl (upd (fun _ => 0) 15 1024))), (qk, .inl (cIr, 17, .inl (fun _ => 0))), (q3, .inr (0, [.ref q1, .ref q2, .int 0, .int 0])), (q4, .inr (2, [.ref q2, .ref q3, .ref qa, .int 0])), (qa, .inr (1, [.ref q2]))] := hD
  have hK : va_K D vwCl [(cBm, .byte), (cIr, .int)] s := hK
  refine W.widen (k := 8) (n := 4146) (by omega) (by omega) ?_
  refine va_putF (D := D) (ci := 5) (v := .ref q4) (ty := .object "BoardCore$Instructions") (C := RX6) (T := TX6) (N := 7) hx hb hT inGX6 tyX6 tyX6_ok nmX6 hown hK hP hD hS 0 rfl rfl 3 (by decide) (hT _ tF_X6_37) (fun _ h => h) rfl hin rfl (by decide +kernel) rfl rfl (Nat.le_of_ble_eq_true rfl) dX6_init_61 (fun H locs hP hD hS => ?_)
  have hP : va_P D vwCl [(h0, .inr (5, [.ref q1, .ref q2, .ref q3, .ref q4, .null, .int 0, .int 0])), (q1, .inr (3, [.ref qm])), (qm, .inl (cBm, 4096, .inl (fun _ => 0))), (q2, .inr (4, [.ref qn, .ref qk, .int 1024, .int 8192, .int 0, .int 0])), (qn, .inl (cIr, 17, .inl (upd (fun _ => 0) 15 1024))), (qk, .inl (cIr, 17, .inl (fun _ => 0))), (q3, .inr (0, [.ref q1, .ref q2, .int 0, .int 0])), (q4, .inr (2, [.ref q2, .ref q3, .ref qa, .int 0])), (qa, .inr (1, [.ref q2]))] H := hP
  have hD : va_D A [(h0, .inr (5, [.ref q1, .ref q2, .ref q3, .ref q4, .null, .int 0, .int 0])), (q1, .inr (3, [.ref qm])), (qm, .inl (cBm, 4096, .inl (fun _ => 0))), (q2, .inr (4, [.ref qn, .ref qk, .int 1024, .int 8192, .int 0, .int 0])), (qn, .inl (cIr, 17, .inl (upd (fun _ => 0) 15 1024))), (qk, .inl (cIr, 17, .inl (fun _ => 0))), (q3, .inr (0, [.ref q1, .ref q2, .int 0, .int 0])), (q4, .inr (2, [.ref q2, .ref q3, .ref qa, .int 0])), (qa, .inr (1, [.ref q2]))] := hD
  refine lv_aload_n hx hb dX6_init_64 rfl (lv_at hl 0 rfl) ?_
  refine lv_bipush (v := 64) hx hb dX6_init_65 (by decide) ?_
  refine va_newa (atype := .int) (N' := 64) (a0 := (64, .inl (fun _ => 0))) hx hb (hT _ ta_int) rfl hK hP hD hS hA (fun cA => rfl) (by decide) rfl (Nat.le_of_ble_eq_true rfl) (Nat.le_of_ble_eq_true rfl) (Nat.le_of_ble_eq_true rfl) dX6_init_67 (fun q5 cAq5 H hK hP hD hS => ?_)
  obtain rfl : cIr = cAq5 := Option.some.inj ((hK.2 1 _ rfl).2.symm.trans (hK.2 2 _ rfl).2)
  have hK := hK.sub (tys' := [(cBm, .byte), (cIr, .int)]) [0, 1] rfl
  have hP : va_P D vwCl [(h0, .inr (5, [.ref q1, .ref q2, .ref q3, .ref q4, .null, .int 0, .int 0])), (q1, .inr (3, [.ref qm])), (qm, .inl (cBm, 4096, .inl (fun _ => 0))), (q2, .inr (4, [.ref qn, .ref qk, .int 1024, .int 8192, .int 0, .int 0])), (qn, .inl (cIr, 17, .inl (upd (fun _ => 0) 15 1024))), (qk, .inl (cIr, 17, .inl (fun _ => 0))), (q3, .inr (0, [.ref q1, .ref q2, .int 0, .int 0])), (q4, .inr (2, [.ref q2, .ref q3, .ref qa, .int 0])), (qa, .inr (1, [.ref q2])), (q5, .inl (cIr, 64, .inl (fun _ => 0)))] H := hP
  have hD : va_D A [(h0, .inr (5, [.ref q1, .ref q2, .ref q3, .ref q4, .null, .int 0, .int 0])), (q1, .inr (3, [.ref qm])), (qm, .inl (cBm, 4096, .inl (fun _ => 0))), (q2, .inr (4, [.ref qn, .ref qk, .int 1024, .int 8192, .int 0, .int 0])), (qn, .inl (cIr, 17, .inl (upd (fun _ => 0) 15 1024))), (qk, .inl (cIr, 17, .inl (fun _ => 0))), (q3, .inr (0, [.ref q1, .ref q2, .int 0, .int 0])), (q4, .inr (2, [.ref q2, .ref q3, .ref qa, .int 0])), (qa, .inr (1, [.ref q2])), (q5, .inl (cIr, 64, .inl (fun _ => 0)))] := hD
  have hK : va_K D vwCl [(cBm, .byte), (cIr, .int)] s := hK
  refine W.widen (k := 9) (n := 4210) (by omega) (by omega) ?_
  refine va_putF (D := D) (ci := 5) (v := .ref q5) (ty := .array .int) (C := RX6) (T := TX6) (N := 7) hx hb hT inGX6 tyX6 tyX6_ok nmX6 hown hK hP hD hS 0 rfl rfl 4 (by decide) (hT _ tF_X6_41) (fun _ h => h) rfl hin rfl (by decide +kernel) rfl rfl (Nat.le_of_ble_eq_true rfl) dX6_init_69 (fun H locs hP hD hS => ?_)
  have hP : va_P D vwCl [(h0, .inr (5, [.ref q1, .ref q2, .ref q3, .ref q4, .ref q5, .int 0, .int 0])), (q1, .inr (3, [.ref qm])), (qm, .inl (cBm, 4096, .inl (fun _ => 0))), (q2, .inr (4, [.ref qn, .ref qk, .int 1024, .int 8192, .int 0, .int 0])), (qn, .inl (cIr, 17, .inl (upd (fun _ => 0) 15 1024))), (qk, .inl (cIr, 17, .inl (fun _ => 0))), (q3, .inr (0, [.ref q1, .ref q2, .int 0, .int 0])), (q4, .inr (2, [.ref q2, .ref q3, .ref qa, .int 0])), (qa, .inr (1, [.ref q2])), (q5, .inl (cIr, 64, .inl (fun _ => 0)))] H := hP
  have hD : va_D A [(h0, .inr (5, [.ref q1, .ref q2, .ref q3, .ref q4, .ref q5, .int 0, .int 0])), (q1, .inr (3, [.ref qm])), (qm, .inl (cBm, 4096, .inl (fun _ => 0))), (q2, .inr (4, [.ref qn, .ref qk, .int 1024, .int 8192, .int 0, .int 0])), (qn, .inl (cIr, 17, .inl (upd (fun _ => 0) 15 1024))), (qk, .inl (cIr, 17, .inl (fun _ => 0))), (q3, .inr (0, [.ref q1, .ref q2, .int 0, .int 0])), (q4, .inr (2, [.ref q2, .ref q3, .ref qa, .int 0])), (qa, .inr (1, [.ref q2])), (q5, .inl (cIr, 64, .inl (fun _ => 0)))] := hD
  refine lv_aload_n hx hb dX6_init_72 rfl (lv_at hl 0 rfl) ?_
  refine lv_iconst (v := 0) hx hb dX6_init_73 (by decide) ?_
  refine va_put (D := D) (ci := 5) (v := .int 0) (ty := .int) (C := RX6) (T := TX6) (N := 7) hx hb hT inGX6 tyX6 tyX6_ok nmX6 hown hK hP hD hS 0 rfl rfl 5 (by decide) (hT _ tF_X6_45) (fun _ h => h) rfl (by decide +kernel) rfl rfl (Nat.le_of_ble_eq_true rfl) dX6_init_74 (fun H locs hP hD hS => ?_)
  have hP : va_P D vwCl [(h0, .inr (5, [.ref q1, .ref q2, .ref q3, .ref q4, .ref q5, .int 0, .int 0])), (q1, .inr (3, [.ref qm])), (qm, .inl (cBm, 4096, .inl (fun _ => 0))), (q2, .inr (4, [.ref qn, .ref qk, .int 1024, .int 8192, .int 0, .int 0])), (qn, .inl (cIr, 17, .inl (upd (fun _ => 0) 15 1024))), (qk, .inl (cIr, 17, .inl (fun _ => 0))), (q3, .inr (0, [.ref q1, .ref q2, .int 0, .int 0])), (q4, .inr (2, [.ref q2, .ref q3, .ref qa, .int 0])), (qa, .inr (1, [.ref q2])), (q5, .inl (cIr, 64, .inl (fun _ => 0)))] H := hP
  have hD : va_D A [(h0, .inr (5, [.ref q1, .ref q2, .ref q3, .ref q4, .ref q5, .int 0, .int 0])), (q1, .inr (3, [.ref qm])), (qm, .inl (cBm, 4096, .inl (fun _ => 0))), (q2, .inr (4, [.ref qn, .ref qk, .int 1024, .int 8192, .int 0, .int 0])), (qn, .inl (cIr, 17, .inl (upd (fun _ => 0) 15 1024))), (qk, .inl (cIr, 17, .inl (fun _ => 0))), (q3, .inr (0, [.ref q1, .ref q2, .int 0, .int 0])), (q4, .inr (2, [.ref q2, .ref q3, .ref qa, .int 0])), (qa, .inr (1, [.ref q2])), (q5, .inl (cIr, 64, .inl (fun _ => 0)))] := hD
  refine lv_aload_n hx hb dX6_init_77 rfl (lv_at hl 0 rfl) ?_
  refine lv_iconst (v := 0) hx hb dX6_init_78 (by decide) ?_
  refine va_put (D := D) (ci := 5) (v := .int 0) (ty := .int) (C := RX6) (T := TX6) (N := 7) hx hb hT inGX6 tyX6 tyX6_ok nmX6 hown hK hP hD hS 0 rfl rfl 6 (by decide) (hT _ tF_X6_49) (fun _ h => h) rfl (by decide +kernel) rfl rfl (Nat.le_of_ble_eq_true rfl) dX6_init_79 (fun H locs hP hD hS => ?_)
  have hP : va_P D vwCl [(h0, .inr (5, [.ref q1, .ref q2, .ref q3, .ref q4, .ref q5, .int 0, .int 0])), (q1, .inr (3, [.ref qm])), (qm, .inl (cBm, 4096, .inl (fun _ => 0))), (q2, .inr (4, [.ref qn, .ref qk, .int 1024, .int 8192, .int 0, .int 0])), (qn, .inl (cIr, 17, .inl (upd (fun _ => 0) 15 1024))), (qk, .inl (cIr, 17, .inl (fun _ => 0))), (q3, .inr (0, [.ref q1, .ref q2, .int 0, .int 0])), (q4, .inr (2, [.ref q2, .ref q3, .ref qa, .int 0])), (qa, .inr (1, [.ref q2])), (q5, .inl (cIr, 64, .inl (fun _ => 0)))] H := hP
  have hD : va_D A [(h0, .inr (5, [.ref q1, .ref q2, .ref q3, .ref q4, .ref q5, .int 0, .int 0])), (q1, .inr (3, [.ref qm])), (qm, .inl (cBm, 4096, .inl (fun _ => 0))), (q2, .inr (4, [.ref qn, .ref qk, .int 1024, .int 8192, .int 0, .int 0])), (qn, .inl (cIr, 17, .inl (upd (fun _ => 0) 15 1024))), (qk, .inl (cIr, 17, .inl (fun _ => 0))), (q3, .inr (0, [.ref q1, .ref q2, .int 0, .int 0])), (q4, .inr (2, [.ref q2, .ref q3, .ref qa, .int 0])), (qa, .inr (1, [.ref q2])), (q5, .inl (cIr, 64, .inl (fun _ => 0)))] := hD
  have hP9 := hP.sub (ws' := [(h0, .inr (5, [.ref q1, .ref q2, .ref q3, .ref q4, .ref q5, .int 0, .int 0])), (q1, .inr (3, [.ref qm])), (q2, .inr (4, [.ref qn, .ref qk, .int 1024, .int 8192, .int 0, .int 0])), (q3, .inr (0, [.ref q1, .ref q2, .int 0, .int 0])), (q4, .inr (2, [.ref q2, .ref q3, .ref qa, .int 0])), (qa, .inr (1, [.ref q2])), (qm, .inl (cBm, 4096, .inl (fun _ => 0))), (qn, .inl (cIr, 17, .inl (upd (fun _ => 0) 15 1024))), (qk, .inl (cIr, 17, .inl (fun _ => 0))), (q5, .inl (cIr, 64, .inl (fun _ => 0)))]) [0, 1, 3, 6, 7, 8, 2, 4, 5, 9] rfl
  have hD9 := hD.sub (ws' := [(h0, .inr (5, [.ref q1, .ref q2, .ref q3, .ref q4, .ref q5, .int 0, .int 0])), (q1, .inr (3, [.ref qm])), (q2, .inr (4, [.ref qn, .ref qk, .int 1024, .int 8192, .int 0, .int 0])), (q3, .inr (0, [.ref q1, .ref q2, .int 0, .int 0])), (q4, .inr (2, [.ref q2, .ref q3, .ref qa, .int 0])), (qa, .inr (1, [.ref q2])), (qm, .inl (cBm, 4096, .inl (fun _ => 0))), (qn, .inl (cIr, 17, .inl (upd (fun _ => 0) 15 1024))), (qk, .inl (cIr, 17, .inl (fun _ => 0))), (q5, .inl (cIr, 64, .inl (fun _ => 0)))]) [0, 1, 3, 6, 7, 8, 2, 4, 5, 9] (by decide) rfl
  have hK9 := hK.sub (tys' := [(cIr, .int), (cBm, .byte)]) [1, 0] rfl
  exact W.vret hx hb hr (fun t ht hW => ⟨⟨(aB9 h0 [q1, q2, q3, q4, qa, qm, qn, qk, q5], cIr, cBm), rfl, trivial, by rw [ht]; exact hP9, va_K.moved hW.alike hK9, hD9, rfl⟩, hS.F ht⟩) hS.2.2 dX6_init_82
def Z00 : St := (fun _ => 0, fun _ => false, fun _ _ => 0)
theorem w_at {ws : va_W} {n : Nat} {ad : Nat → Nat} (h : ws.map (fun q => q.1) = (List.range n).map ad) {i : Nat} (hi : i < n) : ∃ p, ws[i]? = some p ∧ p.1 = ad i := by
  have h1 : (ws.map (fun q => q.1))[i]? = some (ad i) := by rw [h, List.getElem?_map, List.getElem?_range hi]; rfl
  rw [List.getElem?_map] at h1
  cases hp : ws[i]? with
  | none => rw [hp] at h1; cases h1
  | some p => rw [hp] at h1; exact ⟨p, rfl, Option.some.inj h1⟩
theorem w_inj {A : Nat → Prop} {ws : va_W} {n : Nat} {ad : Nat → Nat} (hD : va_D A ws) (h : ws.map (fun q => q.1) = (List.range n).map ad) : ∀ i j, i < n → j < n → ad i = ad j → i = j := by
  intro i j hi hj e
  obtain ⟨p, hp, ep⟩ := w_at h hi
  obtain ⟨q, hq, eq⟩ := w_at h hj
  exact hD.1 i j p q hp hq (by rw [ep, eq, e])
theorem w_inA {A : Nat → Prop} {ws : va_W} {n : Nat} {ad : Nat → Nat} (hD : va_D A ws) (h : ws.map (fun q => q.1) = (List.range n).map ad) : ∀ k, k < n → A (ad k) := by
  intro k hk
  obtain ⟨p, hp, ep⟩ := w_at h hk
  rw [← ep]; exact hD.2 k p hp
theorem w_DA {A : Nat → Prop} {ws : va_W} {n : Nat} {ad : Nat → Nat} (h : ws.map (fun q => q.1) = (List.range n).map ad) (hd : ∀ i j, i < n → j < n → ad i = ad j → i = j) (hA : ∀ k, k < n → A (ad k)) : va_D A ws := by
  refine ⟨fun i j p q hi hj hpq => ?_, fun k q hk => ?_⟩
  · obtain ⟨a1, a2⟩ := w_addr h hi
    obtain ⟨b1, b2⟩ := w_addr h hj
    exact hd i j a1 b1 (by rw [← a2, ← b2]; exact hpq)
  · obtain ⟨a1, a2⟩ := w_addr h hk
    rw [a2]; exact hA k a1
set_option maxHeartbeats 4000000 in
set_option maxRecDepth 100000 in
theorem cX7_ct (l : Launch) (D : va_G) (h0 : Nat) (sz : Nat) : Met l yX7_init (wg yX7_init cX7_init 1 none) ({ frames := 3, cells := 10, slots := 4994, locals := 60 }) (va_Pc ([.ref h0]) (fun U => U.heap.size = sz ∧ va_P D vwCl [(h0, .inr (6, [.int 0, .null, .null, .null, .null, .int 0, .int 0, .int 0, .int 0, .int 0, .null, .int 0, .int 0, .int 0, .int 0, .int 0, .int 0, .null, .null, .null, .int 0, .int 0, .null, .null, .int 0, .int 0, .int 0, .int 0]))] U.heap ∧ va_K D vwCl [] U ∧ va_D (fun _ => True) [(h0, .inr (6, [.int 0, .null, .null, .null, .null, .int 0, .int 0, .int 0, .int 0, .int 0, .null, .int 0, .int 0, .int 0, .int 0, .int 0, .int 0, .null, .null, .null, .int 0, .int 0, .null, .null, .int 0, .int 0, .int 0, .int 0]))])) (va_Qv (fun _ : (Nat → Nat) × ClassId => True) (fun u t => va_P D vwCl (wM u.1 u.2 u.2 (clM Z00)) t.heap ∧ va_K D vwCl [(u.2, .int)] t ∧ va_D (va_A [(h0, .inr (6, [.int 0, .null, .null, .null, .null, .int 0, .int 0, .int 0, .int 0, .int 0, .null, .int 0, .int 0, .int 0, .int 0, .int 0, .int 0, .null, .null, .null, .int 0, .int 0, .null, .null, .int 0, .int 0, .int 0, .int 0]))] sz) (wM u.1 u.2 u.2 (clM Z00)) ∧ u.1 0 = h0) (va_A [(h0, .inr (6, [.int 0, .null, .null, .null, .null, .int 0, .int 0, .int 0, .int 0, .int 0, .null, .int 0, .int 0, .int 0, .int 0, .int 0, .int 0, .null, .null, .null, .int 0, .int 0, .null, .null, .int 0, .int 0, .int 0, .int 0]))] sz)) 10 4994 (va_A [(h0, .inr (6, [.int 0, .null, .null, .null, .null, .int 0, .int 0, .int 0, .int 0, .int 0, .null, .int 0, .int 0, .int 0, .int 0, .int 0, .int 0, .null, .null, .null, .int 0, .int 0, .null, .null, .int 0, .int 0, .int 0, .int 0]))] sz) := by
  refine Met.ofW (cc := cX7_init) (maxL := 1) (ret := none) (by decide) rfl ?_
  intro p e s m args below meth c s₁ B hml hv
  obtain ⟨rfl, rfl, hP, hK, hD0⟩ := hv
  have hx := B.exec
  have hb := B.bytes
  have hr := B.returns
  have hts := atoms_spec (ws := wg yX7_init cX7_init 1 none) B.pre
  have hT : ∀ w ∈ wG, w.before _ s = true := fun w h => hts w (List.mem_cons_of_mem _ h)
  have hown : s.vm.findClass RX7 = some m.cls := findClass_of_methodNamed B.named
  have hlocks := B.notSynchronized
  have hin : meth.name = "<init>" := (name_of_methodNamed B.named B.method).1
  have C : CallFix p m c cX7_init 1 s _ wG RX7 := ⟨hx, hb, hml, hown, hT⟩
  have hD := hD0.self (sz := s.heap.size)
  generalize hAe : va_A [(h0, .inr (6, [.int 0, .null, .null, .null, .null, .int 0, .int 0, .int 0, .int 0, .int 0, .null, .int 0, .int 0, .int 0, .int 0, .int 0, .int 0, .null, .null, .null, .int 0, .int 0, .null, .null, .int 0, .int 0, .int 0, .int 0]))] s.heap.size = A at hD ⊢
  have hA : ∀ q : Nat, s.heap.size ≤ q → A q := fun q h => by rw [← hAe]; exact Or.inr h
  have hS : va_S A s.heap s.heap [] := va_S.rf
  have hl := lv_entry ([.ref h0]) (n := 1) (Nat.le_of_ble_eq_true rfl)
  rw [lg_entry_eq]
  generalize (lg_sl ([.ref h0]) ++ List.replicate (1 - (lg_sl ([.ref h0])).length) Slot.unset).toArray = ls at hl ⊢
  have hl : lv_has ls 1 [(0, .ref h0)] := hl
  refine lv_aload_n hx hb dX7_init_0 rfl (lv_at hl 0 rfl) ?_
  refine W.objInit hx hb hown (hT _ tO_X7) (hT _ tI_obj) (hT _ tK_obj) rfl (by rw [hml]; exact hl.1) rfl dX7_init_1 (Nat.le_of_ble_eq_true rfl) (Nat.le_of_ble_eq_true rfl) ?_
  refine W.eq (g2 := F0 m 4 ls []) rfl ?_
  refine lv_aload_n hx hb dX7_init_4 rfl (lv_at hl 0 rfl) ?_
  refine lv_sipush (v := 4096) hx hb dX7_init_5 (by decide) ?_
  refine va_newa (atype := .int) (N' := 4096) (a0 := (4096, .inl (fun _ => 0))) hx hb (hT _ ta_int) rfl hK hP hD hS hA (fun cA => rfl) (by decide) rfl (Nat.le_of_ble_eq_true rfl) (Nat.le_of_ble_eq_true rfl) (Nat.le_of_ble_eq_true rfl) dX7_init_8 (fun q1 cAq1 H hK hP hD hS => ?_)
  have hP : va_P D vwCl [(h0, .inr (6, [.int 0, .null, .null, .null, .null, .int 0, .int 0, .int 0, .int 0, .int 0, .null, .int 0, .int 0, .int 0, .int 0, .int 0, .int 0, .null, .null, .null, .int 0, .int 0, .null, .null, .int 0, .int 0, .int 0, .int 0])), (q1, .inl (cAq1, 4096, .inl (fun _ => 0)))] H := hP
  have hD : va_D A [(h0, .inr (6, [.int 0, .null, .null, .null, .null, .int 0, .int 0, .int 0, .int 0, .int 0, .null, .int 0, .int 0, .int 0, .int 0, .int 0, .int 0, .null, .null, .null, .int 0, .int 0, .null, .null, .int 0, .int 0, .int 0, .int 0])), (q1, .inl (cAq1, 4096, .inl (fun _ => 0)))] := hD
  have hK : va_K D vwCl [(cAq1, .int)] s := hK
  refine W.widen (k := 1) (n := 4096) (by omega) (by omega) ?_
  refine va_putF (D := D) (ci := 6) (v := .ref q1) (ty := .array .int) (C := RX7) (T := TX7) (N := 28) hx hb hT inGX7 tyX7 tyX7_ok nmX7 hown hK hP hD hS 0 rfl rfl 1 (by decide) (hT _ tF_X7_7) (fun _ h => h) rfl hin rfl (by decide +kernel) rfl rfl (Nat.le_of_ble_eq_true rfl) dX7_init_10 (fun H locs hP hD hS => ?_)
  have hP : va_P D vwCl [(h0, .inr (6, [.int 0, .ref q1, .null, .null, .null, .int 0, .int 0, .int 0, .int 0, .int 0, .null, .int 0, .int 0, .int 0, .int 0, .int 0, .int 0, .null, .null, .null, .int 0, .int 0, .null, .null, .int 0, .int 0, .int 0, .int 0])), (q1, .inl (cAq1, 4096, .inl (fun _ => 0)))] H := hP
  have hD : va_D A [(h0, .inr (6, [.int 0, .ref q1, .null, .null, .null, .int 0, .int 0, .int 0, .int 0, .int 0, .null, .int 0, .int 0, .int 0, .int 0, .int 0, .int 0, .null, .null, .null, .int 0, .int 0, .null, .null, .int 0, .int 0, .int 0, .int 0])), (q1, .inl (cAq1, 4096, .inl (fun _ => 0)))] := hD
  refine lv_aload_n hx hb dX7_init_13 rfl (lv_at hl 0 rfl) ?_
  refine lv_bipush (v := 8) hx hb dX7_init_14 (by decide) ?_
  refine va_newa (atype := .int) (N' := 8) (a0 := (8, .inl (fun _ => 0))) hx hb (hT _ ta_int) rfl hK hP hD hS hA (fun cA => rfl) (by decide) rfl (Nat.le_of_ble_eq_true rfl) (Nat.le_of_ble_eq_true rfl) (Nat.le_of_ble_eq_true rfl) dX7_init_16 (fun q2 cAq2 H hK hP hD hS => ?_)
  obtain rfl : cAq1 = cAq2 := Option.some.inj ((hK.2 0 _ rfl).2.symm.trans (hK.2 1 _ rfl).2)
  have hK := hK.sub (tys' := [(cAq1, .int)]) [0] rfl
  have hP : va_P D vwCl [(h0, .inr (6, [.int 0, .ref q1, .null, .null, .null, .int 0, .int 0, .int 0, .int 0, .int 0, .null, .int 0, .int 0, .int 0, .int 0, .int 0, .int 0, .null, .null, .null, .int 0, .int 0, .null, .null, .int 0, .int 0, .int 0, .int 0])), (q1, .inl (cAq1, 4096, .inl (fun _ => 0))), (q2, .inl (cAq1, 8, .inl (fun _ => 0)))] H := hP
  have hD : va_D A [(h0, .inr (6, [.int 0, .ref q1, .null, .null, .null, .int 0, .int 0, .int 0, .int 0, .int 0, .null, .int 0, .int 0, .int 0, .int 0, .int 0, .int 0, .null, .null, .null, .int 0, .int 0, .null, .null, .int 0, .int 0, .int 0, .int 0])), (q1, .inl (cAq1, 4096, .inl (fun _ => 0))), (q2, .inl (cAq1, 8, .inl (fun _ => 0)))] := hD
  have hK : va_K D vwCl [(cAq1, .int)] s := hK
  refine W.widen (k := 2) (n := 4104) (by omega) (by omega) ?_
  refine va_putF (D := D) (ci := 6) (v := .ref q2) (ty := .array .int) (C := RX7) (T := TX7) (N := 28) hx hb hT inGX7 tyX7 tyX7_ok nmX7 hown hK hP hD hS 0 rfl rfl 2 (by decide) (hT _ tF_X7_13) (fun _ h => h) rfl hin rfl (by decide +kernel) rfl rfl (Nat.le_of_ble_eq_true rfl) dX7_init_18 (fun H locs hP hD hS => ?_)
  have hP : va_P D vwCl [(h0, .inr (6, [.int 0, .ref q1, .ref q2, .null, .null, .int 0, .int 0, .int 0, .int 0, .int 0, .null, .int 0, .int 0, .int 0, .int 0, .int 0, .int 0, .null, .null, .null, .int 0, .int 0, .null, .null, .int 0, .int 0, .int 0, .int 0])), (q1, .inl (cAq1, 4096, .inl (fun _ => 0))), (q2, .inl (cAq1, 8, .inl (fun _ => 0)))] H := hP
  have hD : va_D A [(h0, .inr (6, [.int 0, .ref q1, .ref q2, .null, .null, .int 0, .int 0, .int 0, .int 0, .int 0, .null, .int 0, .int 0, .int 0, .int 0, .int 0, .int 0, .null, .null, .null, .int 0, .int 0, .null, .null, .int 0, .int 0, .int 0, .int 0])), (q1, .inl (cAq1, 4096, .inl (fun _ => 0))), (q2, .inl (cAq1, 8, .inl (fun _ => 0)))] := hD
  refine lv_aload_n hx hb dX7_init_21 rfl (lv_at hl 0 rfl) ?_
  refine lv_bipush (v := 7) hx hb dX7_init_22 (by decide) ?_
  refine va_newa (atype := .int) (N' := 7) (a0 := (7, .inl (fun _ => 0))) hx hb (hT _ ta_int) rfl hK hP hD hS hA (fun cA => rfl) (by decide) rfl (Nat.le_of_ble_eq_true rfl) (Nat.le_of_ble_eq_true rfl) (Nat.le_of_ble_eq_true rfl) dX7_init_24 (fun q3 cAq3 H hK hP hD hS => ?_)
  obtain rfl : cAq1 = cAq3 := Option.some.inj ((hK.2 0 _ rfl).2.symm.trans (hK.2 1 _ rfl).2)
  have hK := hK.sub (tys' := [(cAq1, .int)]) [0] rfl
  have hP : va_P D vwCl [(h0, .inr (6, [.int 0, .ref q1, .ref q2, .null, .null, .int 0, .int 0, .int 0, .int 0, .int 0, .null, .int 0, .int 0, .int 0, .int 0, .int 0, .int 0, .null, .null, .null, .int 0, .int 0, .null, .null, .int 0, .int 0, .int 0, .int 0])), (q1, .inl (cAq1, 4096, .inl (fun _ => 0))), (q2, .inl (cAq1, 8, .inl (fun _ => 0))), (q3, .inl (cAq1, 7, .inl (fun _ => 0)))] H := hP
  have hD : va_D A [(h0, .inr (6, [.int 0, .ref q1, .ref q2, .null, .null, .int 0, .int 0, .int 0, .int 0, .int 0, .null, .int 0, .int 0, .int 0, .int 0, .int 0, .int 0, .null, .null, .null, .int 0, .int 0, .null, .null, .int 0, .int 0, .int 0, .int 0])), (q1, .inl (cAq1, 4096, .inl (fun _ => 0))), (q2, .inl (cAq1, 8, .inl (fun _ => 0))), (q3, .inl (cAq1, 7, .inl (fun _ => 0)))] := hD
  have hK : va_K D vwCl [(cAq1, .int)] s := hK
  refine W.widen (k := 3) (n := 4111) (by omega) (by omega) ?_
  refine va_putF (D := D) (ci := 6) (v := .ref q3) (ty := .array .int) (C := RX7) (T := TX7) (N := 28) hx hb hT inGX7 tyX7 tyX7_ok nmX7 hown hK hP hD hS 0 rfl rfl 3 (by decide) (hT _ tF_X7_16) (fun _ h => h) rfl hin rfl (by decide +kernel) rfl rfl (Nat.le_of_ble_eq_true rfl) dX7_init_26 (fun H locs hP hD hS => ?_)
  have hP : va_P D vwCl [(h0, .inr (6, [.int 0, .ref q1, .ref q2, .ref q3, .null, .int 0, .int 0, .int 0, .int 0, .int 0, .null, .int 0, .int 0, .int 0, .int 0, .int 0, .int 0, .null, .null, .null, .int 0, .int 0, .null, .null, .int 0, .int 0, .int 0, .int 0])), (q1, .inl (cAq1, 4096, .inl (fun _ => 0))), (q2, .inl (cAq1, 8, .inl (fun _ => 0))), (q3, .inl (cAq1, 7, .inl (fun _ => 0)))] H := hP
  have hD : va_D A [(h0, .inr (6, [.int 0, .ref q1, .ref q2, .ref q3, .null, .int 0, .int 0, .int 0, .int 0, .int 0, .null, .int 0, .int 0, .int 0, .int 0, .int 0, .int 0, .null, .null, .null, .int 0, .int 0, .null, .null, .int 0, .int 0, .int 0, .int 0])), (q1, .inl (cAq1, 4096, .inl (fun _ => 0))), (q2, .inl (cAq1, 8, .inl (fun _ => 0))), (q3, .inl (cAq1, 7, .inl (fun _ => 0)))] := hD
  refine lv_aload_n hx hb dX7_init_29 rfl (lv_at hl 0 rfl) ?_
  refine lv_iconst (v := 2) hx hb dX7_init_30 (by decide) ?_
  refine va_newa (atype := .int) (N' := 2) (a0 := (2, .inl (fun _ => 0))) hx hb (hT _ ta_int) rfl hK hP hD hS hA (fun cA => rfl) (by decide) rfl (Nat.le_of_ble_eq_true rfl) (Nat.le_of_ble_eq_true rfl) (Nat.le_of_ble_eq_true rfl) dX7_init_31 (fun q4 cAq4 H hK hP hD hS => ?_)
  obtain rfl : cAq1 = cAq4 := Option.some.inj ((hK.2 0 _ rfl).2.symm.trans (hK.2 1 _ rfl).2)
  have hK := hK.sub (tys' := [(cAq1, .int)]) [0] rfl
  have hP : va_P D vwCl [(h0, .inr (6, [.int 0, .ref q1, .ref q2, .ref q3, .null, .int 0, .int 0, .int 0, .int 0, .int 0, .null, .int 0, .int 0, .int 0, .int 0, .int 0, .int 0, .null, .null, .null, .int 0, .int 0, .null, .null, .int 0, .int 0, .int 0, .int 0])), (q1, .inl (cAq1, 4096, .inl (fun _ => 0))), (q2, .inl (cAq1, 8, .inl (fun _ => 0))), (q3, .inl (cAq1, 7, .inl (fun _ => 0))), (q4, .inl (cAq1, 2, .inl (fun _ => 0)))] H := hP
  have hD : va_D A [(h0, .inr (6, [.int 0, .ref q1, .ref q2, .ref q3, .null, .int 0, .int 0, .int 0, .int 0, .int 0, .null, .int 0, .int 0, .int 0, .int 0, .int 0, .int 0, .null, .null, .null, .int 0, .int 0, .null, .null, .int 0, .int 0, .int 0, .int 0])), (q1, .inl (cAq1, 4096, .inl (fun _ => 0))), (q2, .inl (cAq1, 8, .inl (fun _ => 0))), (q3, .inl (cAq1, 7, .inl (fun _ => 0))), (q4, .inl (cAq1, 2, .inl (fun _ => 0)))] := hD
  have hK : va_K D vwCl [(cAq1, .int)] s := hK
  refine W.widen (k := 4) (n := 4113) (by omega) (by omega) ?_
  refine va_putF (D := D) (ci := 6) (v := .ref q4) (ty := .array .int) (C := RX7) (T := TX7) (N := 28) hx hb hT inGX7 tyX7 tyX7_ok nmX7 hown hK hP hD hS 0 rfl rfl 4 (by decide) (hT _ tF_X7_19) (fun _ h => h) rfl hin rfl (by decide +kernel) rfl rfl (Nat.le_of_ble_eq_true rfl) dX7_init_33 (fun H locs hP hD hS => ?_)
  have hP : va_P D vwCl [(h0, .inr (6, [.int 0, .ref q1, .ref q2, .ref q3, .ref q4, .int 0, .int 0, .int 0, .int 0, .int 0, .null, .int 0, .int 0, .int 0, .int 0, .int 0, .int 0, .null, .null, .null, .int 0, .int 0, .null, .null, .int 0, .int 0, .int 0, .int 0])), (q1, .inl (cAq1, 4096, .inl (fun _ => 0))), (q2, .inl (cAq1, 8, .inl (fun _ => 0))), (q3, .inl (cAq1, 7, .inl (fun _ => 0))), (q4, .inl (cAq1, 2, .inl (fun _ => 0)))] H := hP
  have hD : va_D A [(h0, .inr (6, [.int 0, .ref q1, .ref q2, .ref q3, .ref q4, .int 0, .int 0, .int 0, .int 0, .int 0, .null, .int 0, .int 0, .int 0, .int 0, .int 0, .int 0, .null, .null, .null, .int 0, .int 0, .null, .null, .int 0, .int 0, .int 0, .int 0])), (q1, .inl (cAq1, 4096, .inl (fun _ => 0))), (q2, .inl (cAq1, 8, .inl (fun _ => 0))), (q3, .inl (cAq1, 7, .inl (fun _ => 0))), (q4, .inl (cAq1, 2, .inl (fun _ => 0)))] := hD
  refine lv_aload_n hx hb dX7_init_36 rfl (lv_at hl 0 rfl) ?_
  refine lv_bipush (v := 64) hx hb dX7_init_37 (by decide) ?_
  refine va_newa (atype := .int) (N' := 64) (a0 := (64, .inl (fun _ => 0))) hx hb (hT _ ta_int) rfl hK hP hD hS hA (fun cA => rfl) (by decide) rfl (Nat.le_of_ble_eq_true rfl) (Nat.le_of_ble_eq_true rfl) (Nat.le_of_ble_eq_true rfl) dX7_init_39 (fun q5 cAq5 H hK hP hD hS => ?_)
  obtain rfl : cAq1 = cAq5 := Option.some.inj ((hK.2 0 _ rfl).2.symm.trans (hK.2 1 _ rfl).2)
  have hK := hK.sub (tys' := [(cAq1, .int)]) [0] rfl
  have hP : va_P D vwCl [(h0, .inr (6, [.int 0, .ref q1, .ref q2, .ref q3, .ref q4, .int 0, .int 0, .int 0, .int 0, .int 0, .null, .int 0, .int 0, .int 0, .int 0, .int 0, .int 0, .null, .null, .null, .int 0, .int 0, .null, .null, .int 0, .int 0, .int 0, .int 0])), (q1, .inl (cAq1, 4096, .inl (fun _ => 0))), (q2, .inl (cAq1, 8, .inl (fun _ => 0))), (q3, .inl (cAq1, 7, .inl (fun _ => 0))), (q4, .inl (cAq1, 2, .inl (fun _ => 0))), (q5, .inl (cAq1, 64, .inl (fun _ => 0)))] H := hP
  have hD : va_D A [(h0, .inr (6, [.int 0, .ref q1, .ref q2, .ref q3, .ref q4, .int 0, .int 0, .int 0, .int 0, .int 0, .null, .int 0, .int 0, .int 0, .int 0, .int 0, .int 0, .null, .null, .null, .int 0, .int 0, .null, .null, .int 0, .int 0, .int 0, .int 0])), (q1, .inl (cAq1, 4096, .inl (fun _ => 0))), (q2, .inl (cAq1, 8, .inl (fun _ => 0))), (q3, .inl (cAq1, 7, .inl (fun _ => 0))), (q4, .inl (cAq1, 2, .inl (fun _ => 0))), (q5, .inl (cAq1, 64, .inl (fun _ => 0)))] := hD
  have hK : va_K D vwCl [(cAq1, .int)] s := hK
  refine W.widen (k := 5) (n := 4177) (by omega) (by omega) ?_
  refine va_putF (D := D) (ci := 6) (v := .ref q5) (ty := .array .int) (C := RX7) (T := TX7) (N := 28) hx hb hT inGX7 tyX7 tyX7_ok nmX7 hown hK hP hD hS 0 rfl rfl 10 (by decide) (hT _ tF_X7_22) (fun _ h => h) rfl hin rfl (by decide +kernel) rfl rfl (Nat.le_of_ble_eq_true rfl) dX7_init_41 (fun H locs hP hD hS => ?_)
  have hP : va_P D vwCl [(h0, .inr (6, [.int 0, .ref q1, .ref q2, .ref q3, .ref q4, .int 0, .int 0, .int 0, .int 0, .int 0, .ref q5, .int 0, .int 0, .int 0, .int 0, .int 0, .int 0, .null, .null, .null, .int 0, .int 0, .null, .null, .int 0, .int 0, .int 0, .int 0])), (q1, .inl (cAq1, 4096, .inl (fun _ => 0))), (q2, .inl (cAq1, 8, .inl (fun _ => 0))), (q3, .inl (cAq1, 7, .inl (fun _ => 0))), (q4, .inl (cAq1, 2, .inl (fun _ => 0))), (q5, .inl (cAq1, 64, .inl (fun _ => 0)))] H := hP
  have hD : va_D A [(h0, .inr (6, [.int 0, .ref q1, .ref q2, .ref q3, .ref q4, .int 0, .int 0, .int 0, .int 0, .int 0, .ref q5, .int 0, .int 0, .int 0, .int 0, .int 0, .int 0, .null, .null, .null, .int 0, .int 0, .null, .null, .int 0, .int 0, .int 0, .int 0])), (q1, .inl (cAq1, 4096, .inl (fun _ => 0))), (q2, .inl (cAq1, 8, .inl (fun _ => 0))), (q3, .inl (cAq1, 7, .inl (fun _ => 0))), (q4, .inl (cAq1, 2, .inl (fun _ => 0))), (q5, .inl (cAq1, 64, .inl (fun _ => 0)))] := hD
  refine lv_aload_n hx hb dX7_init_44 rfl (lv_at hl 0 rfl) ?_
  refine lv_bipush (v := 8) hx hb dX7_init_45 (by decide) ?_
  refine va_newa (atype := .int) (N' := 8) (a0 := (8, .inl (fun _ => 0))) hx hb (hT _ ta_int) rfl hK hP hD hS hA (fun cA => rfl) (by decide) rfl (Nat.le_of_ble_eq_true rfl) (Nat.le_of_ble_eq_true rfl) (Nat.le_of_ble_eq_true rfl) dX7_init_47 (fun q6 cAq6 H hK hP hD hS => ?_)
  obtain rfl : cAq1 = cAq6 := Option.some.inj ((hK.2 0 _ rfl).2.symm.trans (hK.2 1 _ rfl).2)
  have hK := hK.sub (tys' := [(cAq1, .int)]) [0] rfl
  have hP : va_P D vwCl [(h0, .inr (6, [.int 0, .ref q1, .ref q2, .ref q3, .ref q4, .int 0, .int 0, .int 0, .int 0, .int 0, .ref q5, .int 0, .int 0, .int 0, .int 0, .int 0, .int 0, .null, .null, .null, .int 0, .int 0, .null, .null, .int 0, .int 0, .int 0, .int 0])), (q1, .inl (cAq1, 4096, .inl (fun _ => 0))), (q2, .inl (cAq1, 8, .inl (fun _ => 0))), (q3, .inl (cAq1, 7, .inl (fun _ => 0))), (q4, .inl (cAq1, 2, .inl (fun _ => 0))), (q5, .inl (cAq1, 64, .inl (fun _ => 0))), (q6, .inl (cAq1, 8, .inl (fun _ => 0)))] H := hP
  have hD : va_D A [(h0, .inr (6, [.int 0, .ref q1, .ref q2, .ref q3, .ref q4, .int 0, .int 0, .int 0, .int 0, .int 0, .ref q5, .int 0, .int 0, .int 0, .int 0, .int 0, .int 0, .null, .null, .null, .int 0, .int 0, .null, .null, .int 0, .int 0, .int 0, .int 0])), (q1, .inl (cAq1, 4096, .inl (fun _ => 0))), (q2, .inl (cAq1, 8, .inl (fun _ => 0))), (q3, .inl (cAq1, 7, .inl (fun _ => 0))), (q4, .inl (cAq1, 2, .inl (fun _ => 0))), (q5, .inl (cAq1, 64, .inl (fun _ => 0))), (q6, .inl (cAq1, 8, .inl (fun _ => 0)))] := hD
  have hK : va_K D vwCl [(cAq1, .int)] s := hK
  refine W.widen (k := 6) (n := 4185) (by omega) (by omega) ?_
  refine va_putF (D := D) (ci := 6) (v := .ref q6) (ty := .array .int) (C := RX7) (T := TX7) (N := 28) hx hb hT inGX7 tyX7 tyX7_ok nmX7 hown hK hP hD hS 0 rfl rfl 17 (by decide) (hT _ tF_X7_25) (fun _ h => h) rfl hin rfl (by decide +kernel) rfl rfl (Nat.le_of_ble_eq_true rfl) dX7_init_49 (fun H locs hP hD hS => ?_)
  have hP : va_P D vwCl [(h0, .inr (6, [.int 0, .ref q1, .ref q2, .ref q3, .ref q4, .int 0, .int 0, .int 0, .int 0, .int 0, .ref q5, .int 0, .int 0, .int 0, .int 0, .int 0, .int 0, .ref q6, .null, .null, .int 0, .int 0, .null, .null, .int 0, .int 0, .int 0, .int 0])), (q1, .inl (cAq1, 4096, .inl (fun _ => 0))), (q2, .inl (cAq1, 8, .inl (fun _ => 0))), (q3, .inl (cAq1, 7, .inl (fun _ => 0))), (q4, .inl (cAq1, 2, .inl (fun _ => 0))), (q5, .inl (cAq1, 64, .inl (fun _ => 0))), (q6, .inl (cAq1, 8, .inl (fun _ => 0)))] H := hP
  have hD : va_D A [(h0, .inr (6, [.int 0, .ref q1, .ref q2, .ref q3, .ref q4, .int 0, .int 0, .int 0, .int 0, .int 0, .ref q5, .int 0, .int 0, .int 0, .int 0, .int 0, .int 0, .ref q6, .null, .null, .int 0, .int 0, .null, .null, .int 0, .int 0, .int 0, .int 0])), (q1, .inl (cAq1, 4096, .inl (fun _ => 0))), (q2, .inl (cAq1, 8, .inl (fun _ => 0))), (q3, .inl (cAq1, 7, .inl (fun _ => 0))), (q4, .inl (cAq1, 2, .inl (fun _ => 0))), (q5, .inl (cAq1, 64, .inl (fun _ => 0))), (q6, .inl (cAq1, 8, .inl (fun _ => 0)))] := hD
  refine lv_aload_n hx hb dX7_init_52 rfl (lv_at hl 0 rfl) ?_
  refine lv_bipush (v := 7) hx hb dX7_init_53 (by decide) ?_
  refine va_newa (atype := .int) (N' := 7) (a0 := (7, .inl (fun _ => 0))) hx hb (hT _ ta_int) rfl hK hP hD hS hA (fun cA => rfl) (by decide) rfl (Nat.le_of_ble_eq_true rfl) (Nat.le_of_ble_eq_true rfl) (Nat.le_of_ble_eq_true rfl) dX7_init_55 (fun q7 cAq7 H hK hP hD hS => ?_)
  obtain rfl : cAq1 = cAq7 := Option.some.inj ((hK.2 0 _ rfl).2.symm.trans (hK.2 1 _ rfl).2)
  have hK := hK.sub (tys' := [(cAq1, .int)]) [0] rfl
  have hP : va_P D vwCl [(h0, .inr (6, [.int 0, .ref q1, .ref q2, .ref q3, .ref q4, .int 0, .int 0, .int 0, .int 0, .int 0, .ref q5, .int 0, .int 0, .int 0, .int 0, .int 0, .int 0, .ref q6, .null, .null, .int 0, .int 0, .null, .null, .int 0, .int 0, .int 0, .int 0])), (q1, .inl (cAq1, 4096, .inl (fun _ => 0))), (q2, .inl (cAq1, 8, .inl (fun _ => 0))), (q3, .inl (cAq1, 7, .inl (fun _ => 0))), (q4, .inl (cAq1, 2, .inl (fun _ => 0))), (q5, .inl (cAq1, 64, .inl (fun _ => 0))), (q6, .inl (cAq1, 8, .inl (fun _ => 0))), (q7, .inl (cAq1, 7, .inl (fun _ => 0)))] H := hP
  have hD : va_D A [(h0, .inr (6, [.int 0, .ref q1, .ref q2, .ref q3, .ref q4, .int 0, .int 0, .int 0, .int 0, .int 0, .ref q5, .int 0, .int 0, .int 0, .int 0, .int 0, .int 0, .ref q6, .null, .null, .int 0, .int 0, .null, .null, .int 0, .int 0, .int 0, .int 0])), (q1, .inl (cAq1, 4096, .inl (fun _ => 0))), (q2, .inl (cAq1, 8, .inl (fun _ => 0))), (q3, .inl (cAq1, 7, .inl (fun _ => 0))), (q4, .inl (cAq1, 2, .inl (fun _ => 0))), (q5, .inl (cAq1, 64, .inl (fun _ => 0))), (q6, .inl (cAq1, 8, .inl (fun _ => 0))), (q7, .inl (cAq1, 7, .inl (fun _ => 0)))] := hD
  have hK : va_K D vwCl [(cAq1, .int)] s := hK
  refine W.widen (k := 7) (n := 4192) (by omega) (by omega) ?_
  refine va_putF (D := D) (ci := 6) (v := .ref q7) (ty := .array .int) (C := RX7) (T := TX7) (N := 28) hx hb hT inGX7 tyX7 tyX7_ok nmX7 hown hK hP hD hS 0 rfl rfl 18 (by decide) (hT _ tF_X7_28) (fun _ h => h) rfl hin rfl (by decide +kernel) rfl rfl (Nat.le_of_ble_eq_true rfl) dX7_init_57 (fun H locs hP hD hS => ?_)
  have hP : va_P D vwCl [(h0, .inr (6, [.int 0, .ref q1, .ref q2, .ref q3, .ref q4, .int 0, .int 0, .int 0, .int 0, .int 0, .ref q5, .int 0, .int 0, .int 0, .int 0, .int 0, .int 0, .ref q6, .ref q7, .null, .int 0, .int 0, .null, .null, .int 0, .int 0, .int 0, .int 0])), (q1, .inl (cAq1, 4096, .inl (fun _ => 0))), (q2, .inl (cAq1, 8, .inl (fun _ => 0))), (q3, .inl (cAq1, 7, .inl (fun _ => 0))), (q4, .inl (cAq1, 2, .inl (fun _ => 0))), (q5, .inl (cAq1, 64, .inl (fun _ => 0))), (q6, .inl (cAq1, 8, .inl (fun _ => 0))), (q7, .inl (cAq1, 7, .inl (fun _ => 0)))] H := hP
  have hD : va_D A [(h0, .inr (6, [.int 0, .ref q1, .ref q2, .ref q3, .ref q4, .int 0, .int 0, .int 0, .int 0, .int 0, .ref q5, .int 0, .int 0, .int 0, .int 0, .int 0, .int 0, .ref q6, .ref q7, .null, .int 0, .int 0, .null, .null, .int 0, .int 0, .int 0, .int 0])), (q1, .inl (cAq1, 4096, .inl (fun _ => 0))), (q2, .inl (cAq1, 8, .inl (fun _ => 0))), (q3, .inl (cAq1, 7, .inl (fun _ => 0))), (q4, .inl (cAq1, 2, .inl (fun _ => 0))), (q5, .inl (cAq1, 64, .inl (fun _ => 0))), (q6, .inl (cAq1, 8, .inl (fun _ => 0))), (q7, .inl (cAq1, 7, .inl (fun _ => 0)))] := hD
  refine lv_aload_n hx hb dX7_init_60 rfl (lv_at hl 0 rfl) ?_
  refine lv_iconst (v := 2) hx hb dX7_init_61 (by decide) ?_
  refine va_newa (atype := .int) (N' := 2) (a0 := (2, .inl (fun _ => 0))) hx hb (hT _ ta_int) rfl hK hP hD hS hA (fun cA => rfl) (by decide) rfl (Nat.le_of_ble_eq_true rfl) (Nat.le_of_ble_eq_true rfl) (Nat.le_of_ble_eq_true rfl) dX7_init_62 (fun q8 cAq8 H hK hP hD hS => ?_)
  obtain rfl : cAq1 = cAq8 := Option.some.inj ((hK.2 0 _ rfl).2.symm.trans (hK.2 1 _ rfl).2)
  have hK := hK.sub (tys' := [(cAq1, .int)]) [0] rfl
  have hP : va_P D vwCl [(h0, .inr (6, [.int 0, .ref q1, .ref q2, .ref q3, .ref q4, .int 0, .int 0, .int 0, .int 0, .int 0, .ref q5, .int 0, .int 0, .int 0, .int 0, .int 0, .int 0, .ref q6, .ref q7, .null, .int 0, .int 0, .null, .null, .int 0, .int 0, .int 0, .int 0])), (q1, .inl (cAq1, 4096, .inl (fun _ => 0))), (q2, .inl (cAq1, 8, .inl (fun _ => 0))), (q3, .inl (cAq1, 7, .inl (fun _ => 0))), (q4, .inl (cAq1, 2, .inl (fun _ => 0))), (q5, .inl (cAq1, 64, .inl (fun _ => 0))), (q6, .inl (cAq1, 8, .inl (fun _ => 0))), (q7, .inl (cAq1, 7, .inl (fun _ => 0))), (q8, .inl (cAq1, 2, .inl (fun _ => 0)))] H := hP
  have hD : va_D A [(h0, .inr (6, [.int 0, .ref q1, .ref q2, .ref q3, .ref q4, .int 0, .int 0, .int 0, .int 0, .int 0, .ref q5, .int 0, .int 0, .int 0, .int 0, .int 0, .int 0, .ref q6, .ref q7, .null, .int 0, .int 0, .null, .null, .int 0, .int 0, .int 0, .int 0])), (q1, .inl (cAq1, 4096, .inl (fun _ => 0))), (q2, .inl (cAq1, 8, .inl (fun _ => 0))), (q3, .inl (cAq1, 7, .inl (fun _ => 0))), (q4, .inl (cAq1, 2, .inl (fun _ => 0))), (q5, .inl (cAq1, 64, .inl (fun _ => 0))), (q6, .inl (cAq1, 8, .inl (fun _ => 0))), (q7, .inl (cAq1, 7, .inl (fun _ => 0))), (q8, .inl (cAq1, 2, .inl (fun _ => 0)))] := hD
  have hK : va_K D vwCl [(cAq1, .int)] s := hK
  refine W.widen (k := 8) (n := 4194) (by omega) (by omega) ?_
  refine va_putF (D := D) (ci := 6) (v := .ref q8) (ty := .array .int) (C := RX7) (T := TX7) (N := 28) hx hb hT inGX7 tyX7 tyX7_ok nmX7 hown hK hP hD hS 0 rfl rfl 19 (by decide) (hT _ tF_X7_31) (fun _ h => h) rfl hin rfl (by decide +kernel) rfl rfl (Nat.le_of_ble_eq_true rfl) dX7_init_64 (fun H locs hP hD hS => ?_)
  have hP : va_P D vwCl [(h0, .inr (6, [.int 0, .ref q1, .ref q2, .ref q3, .ref q4, .int 0, .int 0, .int 0, .int 0, .int 0, .ref q5, .int 0, .int 0, .int 0, .int 0, .int 0, .int 0, .ref q6, .ref q7, .ref q8, .int 0, .int 0, .null, .null, .int 0, .int 0, .int 0, .int 0])), (q1, .inl (cAq1, 4096, .inl (fun _ => 0))), (q2, .inl (cAq1, 8, .inl (fun _ => 0))), (q3, .inl (cAq1, 7, .inl (fun _ => 0))), (q4, .inl (cAq1, 2, .inl (fun _ => 0))), (q5, .inl (cAq1, 64, .inl (fun _ => 0))), (q6, .inl (cAq1, 8, .inl (fun _ => 0))), (q7, .inl (cAq1, 7, .inl (fun _ => 0))), (q8, .inl (cAq1, 2, .inl (fun _ => 0)))] H := hP
  have hD : va_D A [(h0, .inr (6, [.int 0, .ref q1, .ref q2, .ref q3, .ref q4, .int 0, .int 0, .int 0, .int 0, .int 0, .ref q5, .int 0, .int 0, .int 0, .int 0, .int 0, .int 0, .ref q6, .ref q7, .ref q8, .int 0, .int 0, .null, .null, .int 0, .int 0, .int 0, .int 0])), (q1, .inl (cAq1, 4096, .inl (fun _ => 0))), (q2, .inl (cAq1, 8, .inl (fun _ => 0))), (q3, .inl (cAq1, 7, .inl (fun _ => 0))), (q4, .inl (cAq1, 2, .inl (fun _ => 0))), (q5, .inl (cAq1, 64, .inl (fun _ => 0))), (q6, .inl (cAq1, 8, .inl (fun _ => 0))), (q7, .inl (cAq1, 7, .inl (fun _ => 0))), (q8, .inl (cAq1, 2, .inl (fun _ => 0)))] := hD
  refine lv_aload_n hx hb dX7_init_67 rfl (lv_at hl 0 rfl) ?_
  refine lv_sipush (v := 400) hx hb dX7_init_68 (by decide) ?_
  refine va_newa (atype := .int) (N' := 400) (a0 := (400, .inl (fun _ => 0))) hx hb (hT _ ta_int) rfl hK hP hD hS hA (fun cA => rfl) (by decide) rfl (Nat.le_of_ble_eq_true rfl) (Nat.le_of_ble_eq_true rfl) (Nat.le_of_ble_eq_true rfl) dX7_init_71 (fun q9 cAq9 H hK hP hD hS => ?_)
  obtain rfl : cAq1 = cAq9 := Option.some.inj ((hK.2 0 _ rfl).2.symm.trans (hK.2 1 _ rfl).2)
  have hK := hK.sub (tys' := [(cAq1, .int)]) [0] rfl
  have hP : va_P D vwCl [(h0, .inr (6, [.int 0, .ref q1, .ref q2, .ref q3, .ref q4, .int 0, .int 0, .int 0, .int 0, .int 0, .ref q5, .int 0, .int 0, .int 0, .int 0, .int 0, .int 0, .ref q6, .ref q7, .ref q8, .int 0, .int 0, .null, .null, .int 0, .int 0, .int 0, .int 0])), (q1, .inl (cAq1, 4096, .inl (fun _ => 0))), (q2, .inl (cAq1, 8, .inl (fun _ => 0))), (q3, .inl (cAq1, 7, .inl (fun _ => 0))), (q4, .inl (cAq1, 2, .inl (fun _ => 0))), (q5, .inl (cAq1, 64, .inl (fun _ => 0))), (q6, .inl (cAq1, 8, .inl (fun _ => 0))), (q7, .inl (cAq1, 7, .inl (fun _ => 0))), (q8, .inl (cAq1, 2, .inl (fun _ => 0))), (q9, .inl (cAq1, 400, .inl (fun _ => 0)))] H := hP
  have hD : va_D A [(h0, .inr (6, [.int 0, .ref q1, .ref q2, .ref q3, .ref q4, .int 0, .int 0, .int 0, .int 0, .int 0, .ref q5, .int 0, .int 0, .int 0, .int 0, .int 0, .int 0, .ref q6, .ref q7, .ref q8, .int 0, .int 0, .null, .null, .int 0, .int 0, .int 0, .int 0])), (q1, .inl (cAq1, 4096, .inl (fun _ => 0))), (q2, .inl (cAq1, 8, .inl (fun _ => 0))), (q3, .inl (cAq1, 7, .inl (fun _ => 0))), (q4, .inl (cAq1, 2, .inl (fun _ => 0))), (q5, .inl (cAq1, 64, .inl (fun _ => 0))), (q6, .inl (cAq1, 8, .inl (fun _ => 0))), (q7, .inl (cAq1, 7, .inl (fun _ => 0))), (q8, .inl (cAq1, 2, .inl (fun _ => 0))), (q9, .inl (cAq1, 400, .inl (fun _ => 0)))] := hD
  have hK : va_K D vwCl [(cAq1, .int)] s := hK
  refine W.widen (k := 9) (n := 4594) (by omega) (by omega) ?_
  refine va_putF (D := D) (ci := 6) (v := .ref q9) (ty := .array .int) (C := RX7) (T := TX7) (N := 28) hx hb hT inGX7 tyX7 tyX7_ok nmX7 hown hK hP hD hS 0 rfl rfl 22 (by decide) (hT _ tF_X7_34) (fun _ h => h) rfl hin rfl (by decide +kernel) rfl rfl (Nat.le_of_ble_eq_true rfl) dX7_init_73 (fun H locs hP hD hS => ?_)
  have hP : va_P D vwCl [(h0, .inr (6, [.int 0, .ref q1, .ref q2, .ref q3, .ref q4, .int 0, .int 0, .int 0, .int 0, .int 0, .ref q5, .int 0, .int 0, .int 0, .int 0, .int 0, .int 0, .ref q6, .ref q7, .ref q8, .int 0, .int 0, .ref q9, .null, .int 0, .int 0, .int 0, .int 0])), (q1, .inl (cAq1, 4096, .inl (fun _ => 0))), (q2, .inl (cAq1, 8, .inl (fun _ => 0))), (q3, .inl (cAq1, 7, .inl (fun _ => 0))), (q4, .inl (cAq1, 2, .inl (fun _ => 0))), (q5, .inl (cAq1, 64, .inl (fun _ => 0))), (q6, .inl (cAq1, 8, .inl (fun _ => 0))), (q7, .inl (cAq1, 7, .inl (fun _ => 0))), (q8, .inl (cAq1, 2, .inl (fun _ => 0))), (q9, .inl (cAq1, 400, .inl (fun _ => 0)))] H := hP
  have hD : va_D A [(h0, .inr (6, [.int 0, .ref q1, .ref q2, .ref q3, .ref q4, .int 0, .int 0, .int 0, .int 0, .int 0, .ref q5, .int 0, .int 0, .int 0, .int 0, .int 0, .int 0, .ref q6, .ref q7, .ref q8, .int 0, .int 0, .ref q9, .null, .int 0, .int 0, .int 0, .int 0])), (q1, .inl (cAq1, 4096, .inl (fun _ => 0))), (q2, .inl (cAq1, 8, .inl (fun _ => 0))), (q3, .inl (cAq1, 7, .inl (fun _ => 0))), (q4, .inl (cAq1, 2, .inl (fun _ => 0))), (q5, .inl (cAq1, 64, .inl (fun _ => 0))), (q6, .inl (cAq1, 8, .inl (fun _ => 0))), (q7, .inl (cAq1, 7, .inl (fun _ => 0))), (q8, .inl (cAq1, 2, .inl (fun _ => 0))), (q9, .inl (cAq1, 400, .inl (fun _ => 0)))] := hD
  refine lv_aload_n hx hb dX7_init_76 rfl (lv_at hl 0 rfl) ?_
  refine lv_sipush (v := 400) hx hb dX7_init_77 (by decide) ?_
  refine va_newa (atype := .int) (N' := 400) (a0 := (400, .inl (fun _ => 0))) hx hb (hT _ ta_int) rfl hK hP hD hS hA (fun cA => rfl) (by decide) rfl (Nat.le_of_ble_eq_true rfl) (Nat.le_of_ble_eq_true rfl) (Nat.le_of_ble_eq_true rfl) dX7_init_80 (fun q10 cAq10 H hK hP hD hS => ?_)
  obtain rfl : cAq1 = cAq10 := Option.some.inj ((hK.2 0 _ rfl).2.symm.trans (hK.2 1 _ rfl).2)
  have hK := hK.sub (tys' := [(cAq1, .int)]) [0] rfl
  have hP : va_P D vwCl [(h0, .inr (6, [.int 0, .ref q1, .ref q2, .ref q3, .ref q4, .int 0, .int 0, .int 0, .int 0, .int 0, .ref q5, .int 0, .int 0, .int 0, .int 0, .int 0, .int 0, .ref q6, .ref q7, .ref q8, .int 0, .int 0, .ref q9, .null, .int 0, .int 0, .int 0, .int 0])), (q1, .inl (cAq1, 4096, .inl (fun _ => 0))), (q2, .inl (cAq1, 8, .inl (fun _ => 0))), (q3, .inl (cAq1, 7, .inl (fun _ => 0))), (q4, .inl (cAq1, 2, .inl (fun _ => 0))), (q5, .inl (cAq1, 64, .inl (fun _ => 0))), (q6, .inl (cAq1, 8, .inl (fun _ => 0))), (q7, .inl (cAq1, 7, .inl (fun _ => 0))), (q8, .inl (cAq1, 2, .inl (fun _ => 0))), (q9, .inl (cAq1, 400, .inl (fun _ => 0))), (q10, .inl (cAq1, 400, .inl (fun _ => 0)))] H := hP
  have hD : va_D A [(h0, .inr (6, [.int 0, .ref q1, .ref q2, .ref q3, .ref q4, .int 0, .int 0, .int 0, .int 0, .int 0, .ref q5, .int 0, .int 0, .int 0, .int 0, .int 0, .int 0, .ref q6, .ref q7, .ref q8, .int 0, .int 0, .ref q9, .null, .int 0, .int 0, .int 0, .int 0])), (q1, .inl (cAq1, 4096, .inl (fun _ => 0))), (q2, .inl (cAq1, 8, .inl (fun _ => 0))), (q3, .inl (cAq1, 7, .inl (fun _ => 0))), (q4, .inl (cAq1, 2, .inl (fun _ => 0))), (q5, .inl (cAq1, 64, .inl (fun _ => 0))), (q6, .inl (cAq1, 8, .inl (fun _ => 0))), (q7, .inl (cAq1, 7, .inl (fun _ => 0))), (q8, .inl (cAq1, 2, .inl (fun _ => 0))), (q9, .inl (cAq1, 400, .inl (fun _ => 0))), (q10, .inl (cAq1, 400, .inl (fun _ => 0)))] := hD
  have hK : va_K D vwCl [(cAq1, .int)] s := hK
  refine W.widen (k := 10) (n := 4994) (by omega) (by omega) ?_
  refine va_putF (D := D) (ci := 6) (v := .ref q10) (ty := .array .int) (C := RX7) (T := TX7) (N := 28) hx hb hT inGX7 tyX7 tyX7_ok nmX7 hown hK hP hD hS 0 rfl rfl 23 (by decide) (hT _ tF_X7_37) (fun _ h => h) rfl hin rfl (by decide +kernel) rfl rfl (Nat.le_of_ble_eq_true rfl) dX7_init_82 (fun H locs hP hD hS => ?_)
  have hP : va_P D vwCl [(h0, .inr (6, [.int 0, .ref q1, .ref q2, .ref q3, .ref q4, .int 0, .int 0, .int 0, .int 0, .int 0, .ref q5, .int 0, .int 0, .int 0, .int 0, .int 0, .int 0, .ref q6, .ref q7, .ref q8, .int 0, .int 0, .ref q9, .ref q10, .int 0, .int 0, .int 0, .int 0])), (q1, .inl (cAq1, 4096, .inl (fun _ => 0))), (q2, .inl (cAq1, 8, .inl (fun _ => 0))), (q3, .inl (cAq1, 7, .inl (fun _ => 0))), (q4, .inl (cAq1, 2, .inl (fun _ => 0))), (q5, .inl (cAq1, 64, .inl (fun _ => 0))), (q6, .inl (cAq1, 8, .inl (fun _ => 0))), (q7, .inl (cAq1, 7, .inl (fun _ => 0))), (q8, .inl (cAq1, 2, .inl (fun _ => 0))), (q9, .inl (cAq1, 400, .inl (fun _ => 0))), (q10, .inl (cAq1, 400, .inl (fun _ => 0)))] H := hP
  have hD : va_D A [(h0, .inr (6, [.int 0, .ref q1, .ref q2, .ref q3, .ref q4, .int 0, .int 0, .int 0, .int 0, .int 0, .ref q5, .int 0, .int 0, .int 0, .int 0, .int 0, .int 0, .ref q6, .ref q7, .ref q8, .int 0, .int 0, .ref q9, .ref q10, .int 0, .int 0, .int 0, .int 0])), (q1, .inl (cAq1, 4096, .inl (fun _ => 0))), (q2, .inl (cAq1, 8, .inl (fun _ => 0))), (q3, .inl (cAq1, 7, .inl (fun _ => 0))), (q4, .inl (cAq1, 2, .inl (fun _ => 0))), (q5, .inl (cAq1, 64, .inl (fun _ => 0))), (q6, .inl (cAq1, 8, .inl (fun _ => 0))), (q7, .inl (cAq1, 7, .inl (fun _ => 0))), (q8, .inl (cAq1, 2, .inl (fun _ => 0))), (q9, .inl (cAq1, 400, .inl (fun _ => 0))), (q10, .inl (cAq1, 400, .inl (fun _ => 0)))] := hD
  refine lv_aload_n hx hb dX7_init_85 rfl (lv_at hl 0 rfl) ?_
  have hPM : va_P D vwCl (wM (aB9 h0 [q1, q2, q3, q4, q5, q6, q7, q8, q9, q10]) cAq1 cAq1 Z00) H := hP
  have hDM : va_D A (wM (aB9 h0 [q1, q2, q3, q4, q5, q6, q7, q8, q9, q10]) cAq1 cAq1 Z00) := hD
  have hinj := w_inj (n := 11) (ad := aB9 h0 [q1, q2, q3, q4, q5, q6, q7, q8, q9, q10]) hDM rfl
  have hin9 := w_inA (n := 11) (ad := aB9 h0 [q1, q2, q3, q4, q5, q6, q7, q8, q9, q10]) hDM rfl
  refine u_callV2 (n := 0) (rest := []) (mX7_clear l D (aB9 h0 [q1, q2, q3, q4, q5, q6, q7, q8, q9, q10]) cAq1 cAq1 (fun _ => 0) Z00 (clM Z00) (clear_M Z00)) C uK_M (wg_V tM_X7_40 tI_X7_clear tS_X7_clear tN_X7 tK_X7_clear) rfl rfl rfl (by decide +kernel) ⟨by decide, by decide⟩ rfl (va_recv hK hPM (ci := 6) (q0 := 0) rfl rfl) (fun U hU hW => ⟨va_K.moved hW.alike hK, hinj⟩) hPM hS (fun q hq => by
    rcases hq with ⟨k, hk, rfl⟩ | hq
    · exact hin9 k hk
    · exact hA q (Nat.le_trans hS.1 hq)) hl.1 (by decide) dX7_init_86 ⟨Nat.le_of_ble_eq_true rfl, Nat.le_of_ble_eq_true rfl⟩ rfl (fun H locs hP hz1 hk1 hS => ?_)
  refine W.widen (k := 10) (n := 4994) (by omega) (by omega) ?_
  exact W.vret hx hb hr (fun t ht hW => ⟨⟨(aB9 h0 [q1, q2, q3, q4, q5, q6, q7, q8, q9, q10], cAq1), rfl, trivial, by rw [ht]; exact hP, va_K.moved hW.alike hK, w_DA (n := 11) rfl hinj hin9, rfl⟩, hS.F ht⟩) hS.2.2 dX7_init_89
