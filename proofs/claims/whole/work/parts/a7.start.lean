/-! ===== the law, from its entry ===== -/
theorem en_start {s : State} {b : Nat} (hts : ∀ w ∈ lw_tbl, w.before #[Value.ref b] s = true) (hgv : (Jvm.Cond.and given_1 narrow_1).before #[Value.ref b] s = true) : ∃ en : Nat → Nat, va_En "BoardCore$Size" "LBoardCore$Size;" szN szF en (AL s) s s.heap := by
  have hf := flat_of_before _ hgv
  refine va_Enof (args := #[Value.ref b]) ?_ (hts _ tn_S) ?_ ?_ ?_ (fun a h => Nat.not_le.mpr h)
  · intro i hi
    have hi : i < 3 := hi
    rcases (show i = 0 ∨ i = 1 ∨ i = 2 by omega) with rfl | rfl | rfl
    · exact hts _ tl_BYTE
    · exact hts _ tl_WORD
    · exact hts _ tl_LONG
  · intro i hi
    have hi : i < 3 := hi
    rcases (show i = 0 ∨ i = 1 ∨ i = 2 by omega) with rfl | rfl | rfl <;> exact hf _ (by decide +kernel)
  · intro q hq i hi
    have hi : i < 3 := hi
    rcases List.mem_cons.mp hq with rfl | hq
    · rcases (show i = 0 ∨ i = 1 ∨ i = 2 by omega) with rfl | rfl | rfl <;> exact hf _ (by decide +kernel)
    · rcases List.mem_cons.mp hq with rfl | hq
      · rcases (show i = 0 ∨ i = 1 ∨ i = 2 by omega) with rfl | rfl | rfl <;> exact hf _ (by decide +kernel)
      · rcases List.mem_cons.mp hq with rfl | hq
        · rcases (show i = 0 ∨ i = 1 ∨ i = 2 by omega) with rfl | rfl | rfl <;> exact hf _ (by decide +kernel)
        · cases hq
  · intro i j hi hj hij
    have hi : i < 3 := hi
    have hj : j < 3 := hj
    rcases (show i = 0 ∨ i = 1 ∨ i = 2 by omega) with rfl | rfl | rfl <;> rcases (show j = 0 ∨ j = 1 ∨ j = 2 by omega) with rfl | rfl | rfl
    · exact absurd rfl hij
    · exact Or.inl (hf _ (by decide +kernel))
    · exact Or.inr (hf _ (by decide +kernel))
    · exact Or.inr (hf _ (by decide +kernel))
    · exact absurd rfl hij
    · exact Or.inr (hf _ (by decide +kernel))
    · exact Or.inl (hf _ (by decide +kernel))
    · exact Or.inl (hf _ (by decide +kernel))
    · exact absurd rfl hij
theorem ex_start {s : State} {b : Nat} (hts : ∀ w ∈ lw_tbl, w.before #[Value.ref b] s = true) (hgv : (Jvm.Cond.and given_1 narrow_1).before #[Value.ref b] s = true) : EX (AL s) s s.heap := by
  have hf := flat_of_before _ hgv
  exact ⟨vx_Zqof (hts _ tl_U) (hts _ tn_T) (hf _ (by decide +kernel)) (fun a h => Nat.not_le.mpr h), vx_Zqof (hts _ tl_N) (hts _ tn_T) (hf _ (by decide +kernel)) (fun a h => Nat.not_le.mpr h),
    va_Nw.of rfl (hts _ tc_nIB), va_Nw.of rfl (hts _ tc_nIA), va_Nw.of rfl (hts _ td_R), va_Nw.of rfl (hts _ td_E), va_Nw.of rfl (hts _ td_T)⟩
def adL (aB aM : Nat → Nat) (o : Nat) : Nat → Nat := fun k => if k < 10 then aB k else if k < 21 then aM (k - 10) else o
theorem adL_B (aB aM : Nat → Nat) (o k : Nat) (h : k < 10) : adL aB aM o k = aB k := if_pos h
theorem adL_M (aB aM : Nat → Nat) (o k : Nat) (h : k < 11) : adL aB aM o (10 + k) = aM k := by
  unfold adL
  rw [if_neg (by omega), if_pos (by omega)]
  congr 1
  omega
theorem adL_o (aB aM : Nat → Nat) (o : Nat) : adL aB aM o 21 = o := rfl
theorem lk_of {D : va_G} {aB aM : Nat → Nat} {o : Nat} {cI cB cM cJ : ClassId} {en : Nat → Nat} {s : State} {B M : St} {f : Nat → Int64} (hK : va_K D vwCl [(cI, .int), (cB, .byte), (cM, .int), (cJ, .long)] s) (he : va_En "BoardCore$Size" "LBoardCore$Size;" szN szF en (AL s) s s.heap) (hx : EX (AL s) s s.heap)
    (hD : va_D (AL s) (wB aB cI cB B ++ wM aM cM cM M ++ [(o, .inl (cJ, 1, .inr (.inl f)))])) : LK D aB aM o cI cB cM cJ en s := by
  have hi := w_inj (n := 22) (ad := adL aB aM o) hD rfl
  have ha := w_inA (n := 22) (ad := adL aB aM o) hD rfl
  refine ⟨hK.sub [0, 1] rfl, hK.sub [2] rfl, hK.sub [3] rfl, he, hx, ?_, ?_, ?_, ?_, ?_, ?_, ?_, ?_⟩
  · intro i j h1 h2 e
    exact hi i j (by omega) (by omega) (by rw [adL_B _ _ _ _ h1, adL_B _ _ _ _ h2]; exact e)
  · intro i j h1 h2 e
    have := hi (10 + i) (10 + j) (by omega) (by omega) (by rw [adL_M _ _ _ _ h1, adL_M _ _ _ _ h2]; exact e)
    omega
  · intro i j h1 h2 e
    have := hi i (10 + j) (by omega) (by omega) (by rw [adL_B _ _ _ _ h1, adL_M _ _ _ _ h2]; exact e)
    omega
  · intro i h1 e
    have := hi i 21 (by omega) (by omega) (by rw [adL_B _ _ _ _ h1, adL_o]; exact e)
    omega
  · intro j h1 e
    have := hi (10 + j) 21 (by omega) (by omega) (by rw [adL_M _ _ _ _ h1, adL_o]; exact e)
    omega
  · intro i h1
    have := ha i (by omega)
    rw [adL_B _ _ _ _ h1] at this
    exact this
  · intro j h1
    have := ha (10 + j) (by omega)
    rw [adL_M _ _ _ _ h1] at this
    exact this
  · have := ha 21 (by omega)
    rw [adL_o] at this
    exact this
set_option maxHeartbeats 4000000 in
set_option maxRecDepth 100000 in
theorem whole_start {p : Program} {e : Env} {s : State} {m : MethodId} {below : List Frame} {meth : Method} {c : Code} (l : Launch) (hl0 : l.stackTraces = false) {b L : Nat} {xs : Nat → Int32} (hL : L ≤ 2048) (C0 : lw_At p s m meth c b L xs) : W p l e room_1 s m #[Value.ref b] below meth c s.heap [] 0 0 (lw_Z below #[Value.ref b] s) (entryFrame m ([Value.ref b] : List Value).toArray 7) := by
  obtain ⟨hx, hb, hr, hml, hown, hts, hX, hbl, hlocks, hgv⟩ := id C0
  have hT : ∀ w ∈ wG, w.before #[Value.ref b] s = true := fun w h => hts w (wG_in h)
  have C : CallFix p m c cL_law 7 s #[Value.ref b] wG RL := ⟨hx, hb, hml, hown, hT⟩
  have hown : s.vm.findClass RL = some m.cls := hown
  obtain ⟨en, hen⟩ := en_start hts hgv
  have hex := ex_start hts hgv
  have hA : ∀ q : Nat, s.heap.size ≤ q → AL s q := fun _ h => h
  obtain ⟨c0, iS0, hKn0⟩ := u_known (C := RX0) (T := TX0) (N := 4) (n := 4) hT inGX0 (hT _ tA_X0)
  obtain ⟨c1, iS1, hKn1⟩ := u_known (C := RX1) (T := TX1) (N := 1) (n := 1) hT inGX1 (hT _ tA_X1)
  obtain ⟨c2, iS2, hKn2⟩ := u_known (C := RX2) (T := TX2) (N := 4) (n := 4) hT inGX2 (hT _ tA_X2)
  obtain ⟨c3, iS3, hKn3⟩ := u_known (C := RX3) (T := TX3) (N := 1) (n := 1) hT inGX3 (hT _ tA_X3)
  obtain ⟨c4, iS4, hKn4⟩ := u_known (C := RX4) (T := TX4) (N := 6) (n := 6) hT inGX4 (hT _ tA_X4)
  obtain ⟨c5, iS5, hKn5⟩ := u_known (C := RX6) (T := TX6) (N := 7) (n := 7) hT inGX6 (hT _ tA_X6)
  obtain ⟨c6, iS6, hKn6⟩ := u_known (C := RX7) (T := TX7) (N := 28) (n := 28) hT inGX7 (hT _ tA_X7)
  obtain ⟨D, hKc⟩ : ∃ D : va_G, ∀ (k : Nat) (q : vw_C), vwCl[k]? = some q → u_Kn s q.1 q.2.1 q.2.2 (D.1 k) (D.2 k) := by
    refine ⟨(fun k => if k = 0 then c0 else if k = 1 then c1 else if k = 2 then c2 else if k = 3 then c3 else if k = 4 then c4 else if k = 5 then c5 else c6, fun k => if k = 0 then iS0 else if k = 1 then iS1 else if k = 2 then iS2 else if k = 3 then iS3 else if k = 4 then iS4 else if k = 5 then iS5 else iS6), ?_⟩
    intro k q hq
    match k, hq with
    | 0, hq => cases hq; exact hKn0
    | 1, hq => cases hq; exact hKn1
    | 2, hq => cases hq; exact hKn2
    | 3, hq => cases hq; exact hKn3
    | 4, hq => cases hq; exact hKn4
    | 5, hq => cases hq; exact hKn5
    | 6, hq => cases hq; exact hKn6
    | k + 7, hq => simp [vwCl] at hq
  have hS : va_S (AL s) s.heap s.heap [] := va_S.rf
  have hK : va_K D vwCl [] s := ⟨hKc, fun k q h => by simp at h⟩
  have hP : va_P D vwCl [] s.heap := fun k q h => by simp at h
  have hD : va_D (AL s) [] := ⟨fun i j p q h => by simp at h, fun k q h => by simp at h⟩
  have hl := lv_entry ([.ref b]) (n := 7) (Nat.le_of_ble_eq_true rfl)
  rw [lg_entry_eq]
  generalize (lg_sl ([.ref b]) ++ List.replicate (7 - (lg_sl ([.ref b])).length) Slot.unset).toArray = ls at hl ⊢
  have hl : lv_has ls 7 [(0, .ref b)] := hl
  refine va_new (ci := 5) (fs := [.null, .null, .null, .null, .null, .int 0, .int 0]) (C := RX6) (T := TX6) (N := 7) hx hb hT inGX6 tyX6 tyX6_ok hown (hT _ tC_L_8) (hT _ tA_X6) (hT _ tN_X6) hK hP hD hS hA rfl (fun j hj => by rcases (show j = 0 ∨ j = 1 ∨ j = 2 ∨ j = 3 ∨ j = 4 ∨ j = 5 ∨ j = 6 by omega) with rfl | rfl | rfl | rfl | rfl | rfl | rfl <;> rfl) (Nat.le_of_ble_eq_true rfl) (Nat.le_of_ble_eq_true rfl) dL_law_0 (fun h0 H hP hD hS => ?_)
  have hP : va_P D vwCl [(h0, .inr (5, [.null, .null, .null, .null, .null, .int 0, .int 0]))] H := hP
  have hD : va_D (AL s) [(h0, .inr (5, [.null, .null, .null, .null, .null, .int 0, .int 0]))] := hD
  refine W.widen (k := 1) (n := 7) (by omega) (by omega) ?_
  refine lv_dup hx hb dL_law_3 rfl ?_
  have hKc := hK.sub (tys' := []) [] rfl
  have hFc := va_free (wc := [(h0, .inr (5, [.null, .null, .null, .null, .null, .int 0, .int 0]))]) hD hS hA [0] rfl
  refine va_callv (va_runI (As := []) (rest := [.ref h0]) C (cX6_ct l D h0 H.size) (cwI 0 hT (wg_I tK_X6_init) rfl rfl rfl (hT _ tN_X6) (hT _ tM_L_39) (hT _ tI_X6_init) rfl (by decide +kernel) ⟨(Nat.le_of_ble_eq_true rfl), (Nat.le_of_ble_eq_true rfl)⟩) ⟨bl_ct, fun U hU hW => ⟨rfl, by rw [hU], by rw [hU]; exact hP, va_K.moved hW.alike hKc, hD.weaken (fun _ _ _ _ => trivial)⟩⟩ rfl rfl hl.1 rfl (lv_room (Nat.le_of_ble_eq_true rfl)) dL_law_4 ⟨(Nat.le_of_ble_eq_true rfl), (Nat.le_of_ble_eq_true rfl)⟩) hS (fun q _ h => hFc q h) hFc (fun u t H1 locs ht hvm hw hB hz1 hk1 hS => ?_)
  obtain ⟨aB, cI, cB⟩ := u
  obtain ⟨hP1, hK1, hD1, hB0⟩ := hB
  have hB0 : aB 0 = h0 := hB0
  subst hB0
  rw [ht] at hP1
  have hK1 := va_K.moved hvm.symm hK1
  obtain ⟨hP, hD⟩ := va_join (wr := []) (w1 := wB aB cI cB B00) hP hD [0] [] rfl rfl (by decide) (by decide) hk1 hFc hP1 hD1
  have hK : va_K D vwCl [(cI, .int), (cB, .byte)] s := hK1
  generalize H1 = H at hP hS ⊢
  have hP : va_P D vwCl (wB aB cI cB B00) H := hP
  have hD : va_D (AL s) (wB aB cI cB B00) := hD
  refine W.widen (k := 10) (n := 4217) (by omega) (by omega) ?_
  refine lv_astore_n (lv' := [(1, .ref (aB 0)), (0, .ref b)]) hx hb dL_law_7 rfl hl (by decide) rfl (fun ls hl => ?_)
  refine va_new (ci := 6) (fs := [.int 0, .null, .null, .null, .null, .int 0, .int 0, .int 0, .int 0, .int 0, .null, .int 0, .int 0, .int 0, .int 0, .int 0, .int 0, .null, .null, .null, .int 0, .int 0, .null, .null, .int 0, .int 0, .int 0, .int 0]) (C := RX7) (T := TX7) (N := 28) hx hb hT inGX7 tyX7 tyX7_ok hown (hT _ tC_L_40) (hT _ tA_X7) (hT _ tN_X7) hK hP hD hS hA rfl (fun j hj => by rcases (show j = 0 ∨ j = 1 ∨ j = 2 ∨ j = 3 ∨ j = 4 ∨ j = 5 ∨ j = 6 ∨ j = 7 ∨ j = 8 ∨ j = 9 ∨ j = 10 ∨ j = 11 ∨ j = 12 ∨ j = 13 ∨ j = 14 ∨ j = 15 ∨ j = 16 ∨ j = 17 ∨ j = 18 ∨ j = 19 ∨ j = 20 ∨ j = 21 ∨ j = 22 ∨ j = 23 ∨ j = 24 ∨ j = 25 ∨ j = 26 ∨ j = 27 by omega) with rfl | rfl | rfl | rfl | rfl | rfl | rfl | rfl | rfl | rfl | rfl | rfl | rfl | rfl | rfl | rfl | rfl | rfl | rfl | rfl | rfl | rfl | rfl | rfl | rfl | rfl | rfl | rfl <;> rfl) (Nat.le_of_ble_eq_true rfl) (Nat.le_of_ble_eq_true rfl) dL_law_8 (fun h1 H hP hD hS => ?_)
  have hP : va_P D vwCl (wB aB cI cB B00 ++ [(h1, .inr (6, [.int 0, .null, .null, .null, .null, .int 0, .int 0, .int 0, .int 0, .int 0, .null, .int 0, .int 0, .int 0, .int 0, .int 0, .int 0, .null, .null, .null, .int 0, .int 0, .null, .null, .int 0, .int 0, .int 0, .int 0]))]) H := hP
  have hD : va_D (AL s) (wB aB cI cB B00 ++ [(h1, .inr (6, [.int 0, .null, .null, .null, .null, .int 0, .int 0, .int 0, .int 0, .int 0, .null, .int 0, .int 0, .int 0, .int 0, .int 0, .int 0, .null, .null, .null, .int 0, .int 0, .null, .null, .int 0, .int 0, .int 0, .int 0]))]) := hD
  refine W.widen (k := 11) (n := 4245) (by omega) (by omega) ?_
  refine lv_dup hx hb dL_law_11 rfl ?_
  have hPc := hP.sub (ws' := [(h1, .inr (6, [.int 0, .null, .null, .null, .null, .int 0, .int 0, .int 0, .int 0, .int 0, .null, .int 0, .int 0, .int 0, .int 0, .int 0, .int 0, .null, .null, .null, .int 0, .int 0, .null, .null, .int 0, .int 0, .int 0, .int 0]))]) [10] rfl
  have hDc := hD.sub (ws' := [(h1, .inr (6, [.int 0, .null, .null, .null, .null, .int 0, .int 0, .int 0, .int 0, .int 0, .null, .int 0, .int 0, .int 0, .int 0, .int 0, .int 0, .null, .null, .null, .int 0, .int 0, .null, .null, .int 0, .int 0, .int 0, .int 0]))]) [10] (by decide) rfl
  have hKc := hK.sub (tys' := []) [] rfl
  have hFc := va_free (wc := [(h1, .inr (6, [.int 0, .null, .null, .null, .null, .int 0, .int 0, .int 0, .int 0, .int 0, .null, .int 0, .int 0, .int 0, .int 0, .int 0, .int 0, .null, .null, .null, .int 0, .int 0, .null, .null, .int 0, .int 0, .int 0, .int 0]))]) hD hS hA [10] rfl
  refine va_callv (va_runI (As := []) (rest := [.ref h1]) C (cX7_ct l D h1 H.size) (cwI 0 hT (wg_I tK_X7_init) rfl rfl rfl (hT _ tN_X7) (hT _ tM_L_42) (hT _ tI_X7_init) rfl (by decide +kernel) ⟨(Nat.le_of_ble_eq_true rfl), (Nat.le_of_ble_eq_true rfl)⟩) ⟨bl_ct, fun U hU hW => ⟨rfl, by rw [hU], by rw [hU]; exact hPc, va_K.moved hW.alike hKc, hDc.weaken (fun _ _ _ _ => trivial)⟩⟩ rfl rfl hl.1 rfl (lv_room (Nat.le_of_ble_eq_true rfl)) dL_law_12 ⟨(Nat.le_of_ble_eq_true rfl), (Nat.le_of_ble_eq_true rfl)⟩) hS (fun q _ h => hFc q h) hFc (fun u t H1 locs ht hvm hw hB hz1 hk1 hS => ?_)
  obtain ⟨aM, cM⟩ := u
  obtain ⟨hP1, hK1, hD1, hM0⟩ := hB
  have hM0 : aM 0 = h1 := hM0
  subst hM0
  rw [ht] at hP1
  have hK1 := va_K.moved hvm.symm hK1
  obtain ⟨hP, hD⟩ := va_join (wr := wB aB cI cB B00) (w1 := wM aM cM cM (clM Z00)) hP hD [10] [0, 1, 2, 3, 4, 5, 6, 7, 8, 9] rfl rfl (by decide) (by decide) hk1 hFc hP1 hD1
  have hK : va_K D vwCl [(cI, .int), (cB, .byte), (cM, .int)] s := hK.app hK1
  generalize H1 = H at hP hS ⊢
  refine W.widen (k := 21) (n := 9239) (by omega) (by omega) ?_
  refine lv_astore_n (lv' := [(2, .ref (aM 0)), (1, .ref (aB 0)), (0, .ref b)]) hx hb dL_law_15 rfl hl (by decide) rfl (fun ls hl => ?_)
  refine lv_iconst (v := 1) hx hb dL_law_16 (by decide) ?_
  refine va_newa (atype := .long) (N' := 1) (a0 := (1, .inr (.inl (fun _ => 0)))) hx hb (hT _ ta_long) rfl hK hP hD hS hA (fun cA => rfl) (by decide) rfl (Nat.le_of_ble_eq_true rfl) (Nat.le_of_ble_eq_true rfl) (Nat.le_of_ble_eq_true rfl) dL_law_17 (fun o cJ H hK hP hD hS => ?_)
  refine W.widen (k := 22) (n := 9240) (by omega) (by omega) ?_
  refine lv_astore_n (lv' := [(3, .ref o), (2, .ref (aM 0)), (1, .ref (aB 0)), (0, .ref b)]) hx hb dL_law_19 rfl hl (by decide) rfl (fun ls hl => ?_)
  refine lv_iconst (v := 0) hx hb dL_law_20 (by decide) ?_
  refine lv_istore (lv' := [(4, .int 0), (3, .ref o), (2, .ref (aM 0)), (1, .ref (aB 0)), (0, .ref b)]) hx hb dL_law_21 hl (by decide) rfl (fun ls hl => ?_)
  have hLK : LK D aB aM o cI cB cM cJ en s := lk_of hK hen hex hD
  have hLW : LW D aB aM o cI cB cM cJ B00 (clM Z00) (fun _ => 0) H := ⟨hP.sub [0, 1, 2, 3, 4, 5, 6, 7, 8, 9] rfl, hP.sub [10, 11, 12, 13, 14, 15, 16, 17, 18, 19, 20] rfl, hP.sub [21] rfl⟩
  exact lw_loop hl0 hL C0 hLK 512 0 B00 (clM Z00) _ H _ ls (by omega) (by omega) start_R0 hLW hS (lv_sub hl [4, 3, 2, 1, 0] rfl)
