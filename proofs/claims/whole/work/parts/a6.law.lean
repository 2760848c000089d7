/-! ===== the law, case by case ===== -/
theorem nIk (i k : Nat) : nI i + nI k = nI (i + k) := by unfold nI; rw [Int32.ofNat_add]
theorem in_1 {i L : Nat} (h : i + 4 ≤ L) (hL : L ≤ 2048) (k : Nat) (hk : k < 4) : vp_in (nI i + nI k) L := by rw [nIk]; exact vp_in_nI (by omega) (by omega)
def LI (D : va_G) (aB aM : Nat → Nat) (o : Nat) (b i : Nat) (ls : Array Slot) : Prop := lv_has ls 7 [(0, .ref b), (1, .ref (aB 0)), (2, .ref (aM 0)), (3, .ref o), (4, .int (nI i))]
abbrev LNext (p : Program) (l : Launch) (e : Env) (s : State) (m : MethodId) (below : List Frame) (meth : Method) (c : Code) (D : va_G) (aB aM : Nat → Nat) (o : Nat) (cI cB cM cJ : ClassId) (b i cells slots : Nat) : Prop :=
  ∀ (B M : St) (f : Nat → Int64) (H : Heap) (locs : List Loc) (ls : Array Slot), R0 B M → LW D aB aM o cI cB cM cJ B M f H → va_S (AL s) s.heap H locs → LI D aB aM o b i ls → W p l e room_1 s m #[Value.ref b] below meth c H locs cells slots (lw_Z below #[Value.ref b] s) (F0 m 509 ls [])
section CS
variable {p : Program} {l : Launch} {e : Env} {s : State} {m : MethodId} {below : List Frame} {meth : Method} {c : Code} {D : va_G} {aB aM : Nat → Nat} {o : Nat} {cI cB cM cJ : ClassId} {en : Nat → Nat} {b L i cells slots : Nat} {xs : Nat → Int32} {B M : St} {f : Nat → Int64} {H : Heap} {locs : List Loc} {ls : Array Slot}
set_option maxRecDepth 100000 in
set_option maxHeartbeats 4000000 in
theorem cs_register (hl0 : l.stackTraces = false) (hL : L ≤ 2048) (C0 : lw_At p s m meth c b L xs) (hi : i + 4 ≤ L) (hc : cells + 1 ≤ 1053) (hs : slots + 6 ≤ 17474) (hK : LK D aB aM o cI cB cM cJ en s) (hR : R0 B M) (hW : LW D aB aM o cI cB cM cJ B M f H) (hS : va_S (AL s) s.heap H locs) (hl : LI D aB aM o b i ls) (next : LNext p l e s m below meth c D aB aM o cI cB cM cJ b i (cells + 1) (slots + 6)) : W p l e room_1 s m #[Value.ref b] below meth c H locs cells slots (lw_Z below #[Value.ref b] s) (F0 m 103 ls []) := by
  obtain ⟨hx, hb, hr, hml, hown, hts, hX, hbl, hlocks, hgv⟩ := C0
  have hT : ∀ w ∈ wG, w.before _ s = true := fun w h => hts w (wG_in h)
  have C : CallFix p m c cL_law 7 s #[Value.ref b] wG RL := ⟨hx, hb, hml, hown, hT⟩
  have hbA : ¬ AL s b := Nat.not_le.mpr hbl
  have hl : lv_has ls 7 [(0, .ref b), (1, .ref (aB 0)), (2, .ref (aM 0)), (3, .ref o), (4, .int (nI i))] := hl
  obtain ⟨k, B1, M1, r, hk, hm, ht, hR1⟩ := reg_all hR (xs (nI i + 1).toNatClampNeg)
  refine lv_aload_n hx hb dL_law_103 rfl (lv_at hl 1 rfl) ?_
  refine lv_aload_n hx hb dL_law_104 rfl (lv_at hl 0 rfl) ?_
  refine lv_iload hx hb dL_law_105 (lv_at hl 4 rfl) ?_
  refine lv_iconst (v := 1) hx hb dL_law_107 (by decide) ?_
  refine lv_iadd hx hb dL_law_108 ?_
  refine va_sld hx hb hX hbl hbA hS (in_1 hi hL 1 (by decide)) dL_law_109 ?_
  refine lv_aload_n hx hb dL_law_110 rfl (lv_at hl 3 rfl) ?_
  obtain ⟨f1, hk, hf1⟩ := f1_of (f := f) hk
  refine lw_O (n := 3) (rest := []) (As := [.ref (aB 0), .int (xs (nI i + 1).toNatClampNeg), .ref o]) (hL_register l hl0 D aB cI cB en o cJ B f (xs (nI i + 1).toNatClampNeg) k B1 f1 hk) C (wg_SH tM_L_47 tT_L_register tN_L tW_L_register) (by decide +kernel) ⟨(Nat.le_of_ble_eq_true rfl), (Nat.le_of_ble_eq_true rfl)⟩ rfl hK hW hS hl.1 (Nat.le_of_ble_eq_true rfl) dL_law_111 ⟨by show _ ≤ 1053; omega, by show _ ≤ 17474; omega⟩ rfl (fun H locs hW hS => ?_)
  refine lv_istore (lv' := [(5, .int k), (0, .ref b), (1, .ref (aB 0)), (2, .ref (aM 0)), (3, .ref o), (4, .int (nI i))]) hx hb dL_law_114 hl (by decide) rfl (fun ls hl => ?_)
  refine lv_aload_n hx hb dL_law_116 rfl (lv_at hl 3 rfl) ?_
  refine lv_aload_n hx hb dL_law_117 rfl (lv_at hl 1 rfl) ?_
  refine lv_iload hx hb dL_law_118 (lv_at hl 5 rfl) ?_
  refine lv_iconst (v := 1) hx hb dL_law_120 (by decide) ?_
  refine lv_iadd hx hb dL_law_121 ?_
  refine va_sld hx hb hX hbl hbA hS (in_1 hi hL 1 (by decide)) dL_law_122 ?_
  refine lw_M (n := 1) (rest := []) (As := [.int (xs (nI i + 1).toNatClampNeg)]) (mX7_register l D aM cM cM en M (xs (nI i + 1).toNatClampNeg) r M1 hm) C (wg_V tM_L_52 tI_X7_register tS_X7_register tN_X7 tK_X7_register) rfl rfl (by decide +kernel) ⟨(Nat.le_of_ble_eq_true rfl), (Nat.le_of_ble_eq_true rfl)⟩ rfl hK hW hS hl.1 (Nat.le_of_ble_eq_true rfl) dL_law_123 ⟨by show _ ≤ 1053; omega, by show _ ≤ 17474; omega⟩ rfl (fun H locs hW hS => ?_)
  refine lv_istore (lv' := [(6, .int r), (5, .int k), (0, .ref b), (1, .ref (aB 0)), (2, .ref (aM 0)), (3, .ref o), (4, .int (nI i))]) hx hb dL_law_126 hl (by decide) rfl (fun ls hl => ?_)
  refine lv_aload_n hx hb dL_law_128 rfl (lv_at hl 4 rfl) ?_
  refine lw_M (n := 0) (rest := []) (As := []) (mX7_thrown l D aM cM cM en M1 (M1.1 0) M1 (thr_d M1)) C (wg_V tM_L_53 tI_X7_thrown tS_X7_thrown tN_X7 tK_X7_thrown) rfl rfl (by decide +kernel) ⟨(Nat.le_of_ble_eq_true rfl), (Nat.le_of_ble_eq_true rfl)⟩ rfl hK hW hS hl.1 (Nat.le_of_ble_eq_true rfl) dL_law_129 ⟨by show _ ≤ 1053; omega, by show _ ≤ 17474; omega⟩ rfl (fun H locs hW hS => ?_)
  refine lv_iload hx hb dL_law_132 (lv_at hl 1 rfl) ?_
  refine lv_icmp_eq (tgt := 139) hx hb dL_law_134 (by decide) (fun _ => ?_) (fun q => absurd ht q)
  refine lv_iload hx hb dL_law_139 (lv_at hl 1 rfl) ?_
  have fin : W p l e room_1 s m #[Value.ref b] below meth c H locs (cells + 1) (slots + 6) (lw_Z below #[Value.ref b] s) (F0 m 156 ls []) := by
    refine lv_goto (tgt := 509) hx hb dL_law_156 (by decide) ?_
    exact next B1 M1 f1 H locs ls hR1 hW hS (lv_sub hl [2, 3, 4, 5, 6] rfl)
  refine lv_if_ne (tgt := 156) hx hb dL_law_141 (by decide) (fun _ => fin) (fun q => ?_)
  refine lv_aload_n hx hb dL_law_144 rfl (lv_at hl 5 rfl) ?_
  refine lv_iconst (v := 0) hx hb dL_law_145 (by decide) ?_
  refine va_lald hx hb hK.2.2.1 hW.2.2 0 0 rfl rfl (by rintro (z | z) <;> revert z <;> decide) dL_law_146 ?_
  refine lv_iload hx hb dL_law_147 (lv_at hl 0 rfl) ?_
  refine lv_i2l (v := r.toInt64) hx hb dL_law_149 rfl ?_
  refine W.lcmp hx hb dL_law_150 ?_
  refine lv_if_eq (tgt := 156) hx hb dL_law_151 (by decide) (fun _ => fin) (fun z => absurd ((lg_cmp_eq _ _).mpr (hf1 q)) z)
set_option maxRecDepth 100000 in
set_option maxHeartbeats 4000000 in
theorem cs_put (hl0 : l.stackTraces = false) (hL : L ≤ 2048) (C0 : lw_At p s m meth c b L xs) (hi : i + 4 ≤ L) (hc : cells + 1 ≤ 1053) (hs : slots + 6 ≤ 17474) (hK : LK D aB aM o cI cB cM cJ en s) (hR : R0 B M) (hW : LW D aB aM o cI cB cM cJ B M f H) (hS : va_S (AL s) s.heap H locs) (hl : LI D aB aM o b i ls) (next : LNext p l e s m below meth c D aB aM o cI cB cM cJ b i (cells + 1) (slots + 6)) : W p l e room_1 s m #[Value.ref b] below meth c H locs cells slots (lw_Z below #[Value.ref b] s) (F0 m 159 ls []) := by
  obtain ⟨hx, hb, hr, hml, hown, hts, hX, hbl, hlocks, hgv⟩ := C0
  have hT : ∀ w ∈ wG, w.before _ s = true := fun w h => hts w (wG_in h)
  have C : CallFix p m c cL_law 7 s #[Value.ref b] wG RL := ⟨hx, hb, hml, hown, hT⟩
  have hbA : ¬ AL s b := Nat.not_le.mpr hbl
  have hl : lv_has ls 7 [(0, .ref b), (1, .ref (aB 0)), (2, .ref (aM 0)), (3, .ref o), (4, .int (nI i))] := hl
  obtain ⟨k, B1, M1, hk, hm, ht, hR1⟩ := put_all hR (xs (nI i + 1).toNatClampNeg) (xs (nI i + 2).toNatClampNeg)
  refine lv_aload_n hx hb dL_law_159 rfl (lv_at hl 1 rfl) ?_
  refine lv_aload_n hx hb dL_law_160 rfl (lv_at hl 0 rfl) ?_
  refine lv_iload hx hb dL_law_161 (lv_at hl 4 rfl) ?_
  refine lv_iconst (v := 1) hx hb dL_law_163 (by decide) ?_
  refine lv_iadd hx hb dL_law_164 ?_
  refine va_sld hx hb hX hbl hbA hS (in_1 hi hL 1 (by decide)) dL_law_165 ?_
  refine lv_aload_n hx hb dL_law_166 rfl (lv_at hl 0 rfl) ?_
  refine lv_iload hx hb dL_law_167 (lv_at hl 4 rfl) ?_
  refine lv_iconst (v := 2) hx hb dL_law_169 (by decide) ?_
  refine lv_iadd hx hb dL_law_170 ?_
  refine va_sld hx hb hX hbl hbA hS (in_1 hi hL 2 (by decide)) dL_law_171 ?_
  refine lw_Pp (n := 3) (rest := []) (As := [.ref (aB 0), .int (xs (nI i + 1).toNatClampNeg), .int (xs (nI i + 2).toNatClampNeg)]) (hL_put l hl0 D aB cI cB en B (xs (nI i + 1).toNatClampNeg) (xs (nI i + 2).toNatClampNeg) k B1 hk) C (wg_SH tM_L_57 tT_L_put tN_L tW_L_put) (by decide +kernel) ⟨(Nat.le_of_ble_eq_true rfl), (Nat.le_of_ble_eq_true rfl)⟩ rfl hK hW hS hl.1 (Nat.le_of_ble_eq_true rfl) dL_law_172 ⟨by show _ ≤ 1053; omega, by show _ ≤ 17474; omega⟩ rfl (fun H locs hW hS => ?_)
  refine lv_istore (lv' := [(5, .int k), (0, .ref b), (1, .ref (aB 0)), (2, .ref (aM 0)), (3, .ref o), (4, .int (nI i))]) hx hb dL_law_175 hl (by decide) rfl (fun ls hl => ?_)
  refine lv_aload_n hx hb dL_law_177 rfl (lv_at hl 3 rfl) ?_
  refine lv_aload_n hx hb dL_law_178 rfl (lv_at hl 1 rfl) ?_
  refine lv_iload hx hb dL_law_179 (lv_at hl 5 rfl) ?_
  refine lv_iconst (v := 1) hx hb dL_law_181 (by decide) ?_
  refine lv_iadd hx hb dL_law_182 ?_
  refine va_sld hx hb hX hbl hbA hS (in_1 hi hL 1 (by decide)) dL_law_183 ?_
  refine lv_aload_n hx hb dL_law_184 rfl (lv_at hl 1 rfl) ?_
  refine lv_iload hx hb dL_law_185 (lv_at hl 5 rfl) ?_
  refine lv_iconst (v := 2) hx hb dL_law_187 (by decide) ?_
  refine lv_iadd hx hb dL_law_188 ?_
  refine va_sld hx hb hX hbl hbA hS (in_1 hi hL 2 (by decide)) dL_law_189 ?_
  refine lw_M (n := 2) (rest := []) (As := [.int (xs (nI i + 1).toNatClampNeg), .int (xs (nI i + 2).toNatClampNeg)]) (mX7_put l D aM cM cM en M (xs (nI i + 1).toNatClampNeg) (xs (nI i + 2).toNatClampNeg) M1 hm) C (wg_V tM_L_60 tI_X7_put tS_X7_put tN_X7 tK_X7_put) rfl rfl (by decide +kernel) ⟨(Nat.le_of_ble_eq_true rfl), (Nat.le_of_ble_eq_true rfl)⟩ rfl hK hW hS hl.1 (Nat.le_of_ble_eq_true rfl) dL_law_190 ⟨by show _ ≤ 1053; omega, by show _ ≤ 17474; omega⟩ rfl (fun H locs hW hS => ?_)
  refine lv_aload_n hx hb dL_law_193 rfl (lv_at hl 3 rfl) ?_
  refine lw_M (n := 0) (rest := []) (As := []) (mX7_thrown l D aM cM cM en M1 (M1.1 0) M1 (thr_d M1)) C (wg_V tM_L_53 tI_X7_thrown tS_X7_thrown tN_X7 tK_X7_thrown) rfl rfl (by decide +kernel) ⟨(Nat.le_of_ble_eq_true rfl), (Nat.le_of_ble_eq_true rfl)⟩ rfl hK hW hS hl.1 (Nat.le_of_ble_eq_true rfl) dL_law_194 ⟨by show _ ≤ 1053; omega, by show _ ≤ 17474; omega⟩ rfl (fun H locs hW hS => ?_)
  refine lv_iload hx hb dL_law_197 (lv_at hl 0 rfl) ?_
  refine lv_icmp_eq (tgt := 204) hx hb dL_law_199 (by decide) (fun _ => ?_) (fun q => absurd ht q)
  refine lv_goto (tgt := 509) hx hb dL_law_204 (by decide) ?_
  exact next B1 M1 f H locs ls hR1 hW hS (lv_sub hl [1, 2, 3, 4, 5] rfl)
set_option maxRecDepth 100000 in
set_option maxHeartbeats 4000000 in
theorem cs_write (hl0 : l.stackTraces = false) (hL : L ≤ 2048) (C0 : lw_At p s m meth c b L xs) (hi : i + 4 ≤ L) (hc : cells + 1 ≤ 1053) (hs : slots + 6 ≤ 17474) (hK : LK D aB aM o cI cB cM cJ en s) (hR : R0 B M) (hW : LW D aB aM o cI cB cM cJ B M f H) (hS : va_S (AL s) s.heap H locs) (hl : LI D aB aM o b i ls) (next : LNext p l e s m below meth c D aB aM o cI cB cM cJ b i (cells + 1) (slots + 6)) : W p l e room_1 s m #[Value.ref b] below meth c H locs cells slots (lw_Z below #[Value.ref b] s) (F0 m 207 ls []) := by
  obtain ⟨hx, hb, hr, hml, hown, hts, hX, hbl, hlocks, hgv⟩ := C0
  have hT : ∀ w ∈ wG, w.before _ s = true := fun w h => hts w (wG_in h)
  have C : CallFix p m c cL_law 7 s #[Value.ref b] wG RL := ⟨hx, hb, hml, hown, hT⟩
  have hbA : ¬ AL s b := Nat.not_le.mpr hbl
  have hl : lv_has ls 7 [(0, .ref b), (1, .ref (aB 0)), (2, .ref (aM 0)), (3, .ref o), (4, .int (nI i))] := hl
  obtain ⟨k, B1, M1, hk, hm, ht, hR1⟩ := write_all hR (xs (nI i + 1).toNatClampNeg) (xs (nI i + 2).toNatClampNeg) (xs (nI i + 3).toNatClampNeg)
  refine lv_aload_n hx hb dL_law_207 rfl (lv_at hl 1 rfl) ?_
  refine lv_aload_n hx hb dL_law_208 rfl (lv_at hl 0 rfl) ?_
  refine lv_iload hx hb dL_law_209 (lv_at hl 4 rfl) ?_
  refine lv_iconst (v := 1) hx hb dL_law_211 (by decide) ?_
  refine lv_iadd hx hb dL_law_212 ?_
  refine va_sld hx hb hX hbl hbA hS (in_1 hi hL 1 (by decide)) dL_law_213 ?_
  refine lv_aload_n hx hb dL_law_214 rfl (lv_at hl 0 rfl) ?_
  refine lv_iload hx hb dL_law_215 (lv_at hl 4 rfl) ?_
  refine lv_iconst (v := 2) hx hb dL_law_217 (by decide) ?_
  refine lv_iadd hx hb dL_law_218 ?_
  refine va_sld hx hb hX hbl hbA hS (in_1 hi hL 2 (by decide)) dL_law_219 ?_
  refine lv_aload_n hx hb dL_law_220 rfl (lv_at hl 0 rfl) ?_
  refine lv_iload hx hb dL_law_221 (lv_at hl 4 rfl) ?_
  refine lv_iconst (v := 3) hx hb dL_law_223 (by decide) ?_
  refine lv_iadd hx hb dL_law_224 ?_
  refine va_sld hx hb hX hbl hbA hS (in_1 hi hL 3 (by decide)) dL_law_225 ?_
  refine lw_Pp (n := 4) (rest := []) (As := [.ref (aB 0), .int (xs (nI i + 1).toNatClampNeg), .int (xs (nI i + 2).toNatClampNeg), .int (xs (nI i + 3).toNatClampNeg)]) (hL_write l hl0 D aB cI cB en B (xs (nI i + 1).toNatClampNeg) (xs (nI i + 2).toNatClampNeg) (xs (nI i + 3).toNatClampNeg) k B1 hk) C (wg_SH tM_L_61 tT_L_write tN_L tW_L_write) (by decide +kernel) ⟨(Nat.le_of_ble_eq_true rfl), (Nat.le_of_ble_eq_true rfl)⟩ rfl hK hW hS hl.1 (Nat.le_of_ble_eq_true rfl) dL_law_226 ⟨by show _ ≤ 1053; omega, by show _ ≤ 17474; omega⟩ rfl (fun H locs hW hS => ?_)
  refine lv_istore (lv' := [(5, .int k), (0, .ref b), (1, .ref (aB 0)), (2, .ref (aM 0)), (3, .ref o), (4, .int (nI i))]) hx hb dL_law_229 hl (by decide) rfl (fun ls hl => ?_)
  refine lv_aload_n hx hb dL_law_231 rfl (lv_at hl 3 rfl) ?_
  refine lv_aload_n hx hb dL_law_232 rfl (lv_at hl 1 rfl) ?_
  refine lv_iload hx hb dL_law_233 (lv_at hl 5 rfl) ?_
  refine lv_iconst (v := 1) hx hb dL_law_235 (by decide) ?_
  refine lv_iadd hx hb dL_law_236 ?_
  refine va_sld hx hb hX hbl hbA hS (in_1 hi hL 1 (by decide)) dL_law_237 ?_
  refine lv_aload_n hx hb dL_law_238 rfl (lv_at hl 1 rfl) ?_
  refine lv_iload hx hb dL_law_239 (lv_at hl 5 rfl) ?_
  refine lv_iconst (v := 2) hx hb dL_law_241 (by decide) ?_
  refine lv_iadd hx hb dL_law_242 ?_
  refine va_sld hx hb hX hbl hbA hS (in_1 hi hL 2 (by decide)) dL_law_243 ?_
  refine lv_aload_n hx hb dL_law_244 rfl (lv_at hl 1 rfl) ?_
  refine lv_iload hx hb dL_law_245 (lv_at hl 5 rfl) ?_
  refine lv_iconst (v := 3) hx hb dL_law_247 (by decide) ?_
  refine lv_iadd hx hb dL_law_248 ?_
  refine va_sld hx hb hX hbl hbA hS (in_1 hi hL 3 (by decide)) dL_law_249 ?_
  refine lw_M (n := 3) (rest := []) (As := [.int (xs (nI i + 1).toNatClampNeg), .int (xs (nI i + 2).toNatClampNeg), .int (xs (nI i + 3).toNatClampNeg)]) (mX7_write l D aM cM cM en M (xs (nI i + 1).toNatClampNeg) (xs (nI i + 2).toNatClampNeg) (xs (nI i + 3).toNatClampNeg) M1 hm) C (wg_V tM_L_64 tI_X7_write tS_X7_write tN_X7 tK_X7_write) rfl rfl (by decide +kernel) ⟨(Nat.le_of_ble_eq_true rfl), (Nat.le_of_ble_eq_true rfl)⟩ rfl hK hW hS hl.1 (Nat.le_of_ble_eq_true rfl) dL_law_250 ⟨by show _ ≤ 1053; omega, by show _ ≤ 17474; omega⟩ rfl (fun H locs hW hS => ?_)
  refine lv_aload_n hx hb dL_law_253 rfl (lv_at hl 3 rfl) ?_
  refine lw_M (n := 0) (rest := []) (As := []) (mX7_thrown l D aM cM cM en M1 (M1.1 0) M1 (thr_d M1)) C (wg_V tM_L_53 tI_X7_thrown tS_X7_thrown tN_X7 tK_X7_thrown) rfl rfl (by decide +kernel) ⟨(Nat.le_of_ble_eq_true rfl), (Nat.le_of_ble_eq_true rfl)⟩ rfl hK hW hS hl.1 (Nat.le_of_ble_eq_true rfl) dL_law_254 ⟨by show _ ≤ 1053; omega, by show _ ≤ 17474; omega⟩ rfl (fun H locs hW hS => ?_)
  refine lv_iload hx hb dL_law_257 (lv_at hl 0 rfl) ?_
  refine lv_icmp_eq (tgt := 264) hx hb dL_law_259 (by decide) (fun _ => ?_) (fun q => absurd ht q)
  refine lv_goto (tgt := 509) hx hb dL_law_264 (by decide) ?_
  exact next B1 M1 f H locs ls hR1 hW hS (lv_sub hl [1, 2, 3, 4, 5] rfl)
set_option maxRecDepth 100000 in
set_option maxHeartbeats 4000000 in
theorem cs_read (hl0 : l.stackTraces = false) (hL : L ≤ 2048) (C0 : lw_At p s m meth c b L xs) (hi : i + 4 ≤ L) (hc : cells + 1 ≤ 1053) (hs : slots + 6 ≤ 17474) (hK : LK D aB aM o cI cB cM cJ en s) (hR : R0 B M) (hW : LW D aB aM o cI cB cM cJ B M f H) (hS : va_S (AL s) s.heap H locs) (hl : LI D aB aM o b i ls) (next : LNext p l e s m below meth c D aB aM o cI cB cM cJ b i (cells + 1) (slots + 6)) : W p l e room_1 s m #[Value.ref b] below meth c H locs cells slots (lw_Z below #[Value.ref b] s) (F0 m 267 ls []) := by
  obtain ⟨hx, hb, hr, hml, hown, hts, hX, hbl, hlocks, hgv⟩ := C0
  have hT : ∀ w ∈ wG, w.before _ s = true := fun w h => hts w (wG_in h)
  have C : CallFix p m c cL_law 7 s #[Value.ref b] wG RL := ⟨hx, hb, hml, hown, hT⟩
  have hbA : ¬ AL s b := Nat.not_le.mpr hbl
  have hl : lv_has ls 7 [(0, .ref b), (1, .ref (aB 0)), (2, .ref (aM 0)), (3, .ref o), (4, .int (nI i))] := hl
  obtain ⟨k, B1, M1, r, hk, hm, ht, hR1⟩ := read_all hR (xs (nI i + 1).toNatClampNeg) (xs (nI i + 2).toNatClampNeg)
  refine lv_aload_n hx hb dL_law_267 rfl (lv_at hl 1 rfl) ?_
  refine lv_aload_n hx hb dL_law_268 rfl (lv_at hl 0 rfl) ?_
  refine lv_iload hx hb dL_law_269 (lv_at hl 4 rfl) ?_
  refine lv_iconst (v := 1) hx hb dL_law_271 (by decide) ?_
  refine lv_iadd hx hb dL_law_272 ?_
  refine va_sld hx hb hX hbl hbA hS (in_1 hi hL 1 (by decide)) dL_law_273 ?_
  refine lv_aload_n hx hb dL_law_274 rfl (lv_at hl 0 rfl) ?_
  refine lv_iload hx hb dL_law_275 (lv_at hl 4 rfl) ?_
  refine lv_iconst (v := 2) hx hb dL_law_277 (by decide) ?_
  refine lv_iadd hx hb dL_law_278 ?_
  refine va_sld hx hb hX hbl hbA hS (in_1 hi hL 2 (by decide)) dL_law_279 ?_
  refine lv_aload_n hx hb dL_law_280 rfl (lv_at hl 3 rfl) ?_
  obtain ⟨f1, hk, hf1⟩ := f1_of (f := f) hk
  refine lw_O (n := 4) (rest := []) (As := [.ref (aB 0), .int (xs (nI i + 1).toNatClampNeg), .int (xs (nI i + 2).toNatClampNeg), .ref o]) (hL_read l hl0 D aB cI cB en o cJ B f (xs (nI i + 1).toNatClampNeg) (xs (nI i + 2).toNatClampNeg) k B1 f1 hk) C (wg_SH tM_L_65 tT_L_read tN_L tW_L_read) (by decide +kernel) ⟨(Nat.le_of_ble_eq_true rfl), (Nat.le_of_ble_eq_true rfl)⟩ rfl hK hW hS hl.1 (Nat.le_of_ble_eq_true rfl) dL_law_281 ⟨by show _ ≤ 1053; omega, by show _ ≤ 17474; omega⟩ rfl (fun H locs hW hS => ?_)
  refine lv_istore (lv' := [(5, .int k), (0, .ref b), (1, .ref (aB 0)), (2, .ref (aM 0)), (3, .ref o), (4, .int (nI i))]) hx hb dL_law_284 hl (by decide) rfl (fun ls hl => ?_)
  refine lv_aload_n hx hb dL_law_286 rfl (lv_at hl 3 rfl) ?_
  refine lv_aload_n hx hb dL_law_287 rfl (lv_at hl 1 rfl) ?_
  refine lv_iload hx hb dL_law_288 (lv_at hl 5 rfl) ?_
  refine lv_iconst (v := 1) hx hb dL_law_290 (by decide) ?_
  refine lv_iadd hx hb dL_law_291 ?_
  refine va_sld hx hb hX hbl hbA hS (in_1 hi hL 1 (by decide)) dL_law_292 ?_
  refine lv_aload_n hx hb dL_law_293 rfl (lv_at hl 1 rfl) ?_
  refine lv_iload hx hb dL_law_294 (lv_at hl 5 rfl) ?_
  refine lv_iconst (v := 2) hx hb dL_law_296 (by decide) ?_
  refine lv_iadd hx hb dL_law_297 ?_
  refine va_sld hx hb hX hbl hbA hS (in_1 hi hL 2 (by decide)) dL_law_298 ?_
  refine lw_M (n := 2) (rest := []) (As := [.int (xs (nI i + 1).toNatClampNeg), .int (xs (nI i + 2).toNatClampNeg)]) (mX7_read l D aM cM cM en M (xs (nI i + 1).toNatClampNeg) (xs (nI i + 2).toNatClampNeg) r M1 hm) C (wg_V tM_L_68 tI_X7_read tS_X7_read tN_X7 tK_X7_read) rfl rfl (by decide +kernel) ⟨(Nat.le_of_ble_eq_true rfl), (Nat.le_of_ble_eq_true rfl)⟩ rfl hK hW hS hl.1 (Nat.le_of_ble_eq_true rfl) dL_law_299 ⟨by show _ ≤ 1053; omega, by show _ ≤ 17474; omega⟩ rfl (fun H locs hW hS => ?_)
  refine lv_istore (lv' := [(6, .int r), (5, .int k), (0, .ref b), (1, .ref (aB 0)), (2, .ref (aM 0)), (3, .ref o), (4, .int (nI i))]) hx hb dL_law_302 hl (by decide) rfl (fun ls hl => ?_)
  refine lv_aload_n hx hb dL_law_304 rfl (lv_at hl 4 rfl) ?_
  refine lw_M (n := 0) (rest := []) (As := []) (mX7_thrown l D aM cM cM en M1 (M1.1 0) M1 (thr_d M1)) C (wg_V tM_L_53 tI_X7_thrown tS_X7_thrown tN_X7 tK_X7_thrown) rfl rfl (by decide +kernel) ⟨(Nat.le_of_ble_eq_true rfl), (Nat.le_of_ble_eq_true rfl)⟩ rfl hK hW hS hl.1 (Nat.le_of_ble_eq_true rfl) dL_law_305 ⟨by show _ ≤ 1053; omega, by show _ ≤ 17474; omega⟩ rfl (fun H locs hW hS => ?_)
  refine lv_iload hx hb dL_law_308 (lv_at hl 1 rfl) ?_
  refine lv_icmp_eq (tgt := 315) hx hb dL_law_310 (by decide) (fun _ => ?_) (fun q => absurd ht q)
  refine lv_iload hx hb dL_law_315 (lv_at hl 1 rfl) ?_
  have fin : W p l e room_1 s m #[Value.ref b] below meth c H locs (cells + 1) (slots + 6) (lw_Z below #[Value.ref b] s) (F0 m 332 ls []) := by
    refine lv_goto (tgt := 509) hx hb dL_law_332 (by decide) ?_
    exact next B1 M1 f1 H locs ls hR1 hW hS (lv_sub hl [2, 3, 4, 5, 6] rfl)
  refine lv_if_ne (tgt := 332) hx hb dL_law_317 (by decide) (fun _ => fin) (fun q => ?_)
  refine lv_aload_n hx hb dL_law_320 rfl (lv_at hl 5 rfl) ?_
  refine lv_iconst (v := 0) hx hb dL_law_321 (by decide) ?_
  refine va_lald hx hb hK.2.2.1 hW.2.2 0 0 rfl rfl (by rintro (z | z) <;> revert z <;> decide) dL_law_322 ?_
  refine lv_iload hx hb dL_law_323 (lv_at hl 0 rfl) ?_
  refine lv_i2l (v := r.toInt64) hx hb dL_law_325 rfl ?_
  refine W.lcmp hx hb dL_law_326 ?_
  refine lv_if_eq (tgt := 332) hx hb dL_law_327 (by decide) (fun _ => fin) (fun z => absurd ((lg_cmp_eq _ _).mpr (hf1 q)) z)
set_option maxRecDepth 100000 in
set_option maxHeartbeats 4000000 in
theorem cs_want (hl0 : l.stackTraces = false) (hL : L ≤ 2048) (C0 : lw_At p s m meth c b L xs) (hi : i + 4 ≤ L) (hc : cells + 1 ≤ 1053) (hs : slots + 6 ≤ 17474) (hK : LK D aB aM o cI cB cM cJ en s) (hR : R0 B M) (hW : LW D aB aM o cI cB cM cJ B M f H) (hS : va_S (AL s) s.heap H locs) (hl : LI D aB aM o b i ls) (next : LNext p l e s m below meth c D aB aM o cI cB cM cJ b i (cells + 1) (slots + 6)) : W p l e room_1 s m #[Value.ref b] below meth c H locs cells slots (lw_Z below #[Value.ref b] s) (F0 m 335 ls []) := by
  obtain ⟨hx, hb, hr, hml, hown, hts, hX, hbl, hlocks, hgv⟩ := C0
  have hT : ∀ w ∈ wG, w.before _ s = true := fun w h => hts w (wG_in h)
  have C : CallFix p m c cL_law 7 s #[Value.ref b] wG RL := ⟨hx, hb, hml, hown, hT⟩
  have hbA : ¬ AL s b := Nat.not_le.mpr hbl
  have hl : lv_has ls 7 [(0, .ref b), (1, .ref (aB 0)), (2, .ref (aM 0)), (3, .ref o), (4, .int (nI i))] := hl
  obtain ⟨k, B1, M1, hk, hm, ht, hR1⟩ := want_all hR (xs (nI i + 1).toNatClampNeg)
  refine lv_aload_n hx hb dL_law_335 rfl (lv_at hl 1 rfl) ?_
  refine lv_aload_n hx hb dL_law_336 rfl (lv_at hl 0 rfl) ?_
  refine lv_iload hx hb dL_law_337 (lv_at hl 4 rfl) ?_
  refine lv_iconst (v := 1) hx hb dL_law_339 (by decide) ?_
  refine lv_iadd hx hb dL_law_340 ?_
  refine va_sld hx hb hX hbl hbA hS (in_1 hi hL 1 (by decide)) dL_law_341 ?_
  refine lw_Pp (n := 2) (rest := []) (As := [.ref (aB 0), .int (xs (nI i + 1).toNatClampNeg)]) (hL_want l hl0 D aB cI cB en B (xs (nI i + 1).toNatClampNeg) k B1 hk) C (wg_SH tM_L_69 tT_L_want tN_L tW_L_want) (by decide +kernel) ⟨(Nat.le_of_ble_eq_true rfl), (Nat.le_of_ble_eq_true rfl)⟩ rfl hK hW hS hl.1 (Nat.le_of_ble_eq_true rfl) dL_law_342 ⟨by show _ ≤ 1053; omega, by show _ ≤ 17474; omega⟩ rfl (fun H locs hW hS => ?_)
  refine lv_istore (lv' := [(5, .int k), (0, .ref b), (1, .ref (aB 0)), (2, .ref (aM 0)), (3, .ref o), (4, .int (nI i))]) hx hb dL_law_345 hl (by decide) rfl (fun ls hl => ?_)
  refine lv_aload_n hx hb dL_law_347 rfl (lv_at hl 3 rfl) ?_
  refine lv_aload_n hx hb dL_law_348 rfl (lv_at hl 1 rfl) ?_
  refine lv_iload hx hb dL_law_349 (lv_at hl 5 rfl) ?_
  refine lv_iconst (v := 1) hx hb dL_law_351 (by decide) ?_
  refine lv_iadd hx hb dL_law_352 ?_
  refine va_sld hx hb hX hbl hbA hS (in_1 hi hL 1 (by decide)) dL_law_353 ?_
  refine lw_M (n := 1) (rest := []) (As := [.int (xs (nI i + 1).toNatClampNeg)]) (mX7_want l D aM cM cM en M (xs (nI i + 1).toNatClampNeg) M1 hm) C (wg_V tM_L_72 tI_X7_want tS_X7_want tN_X7 tK_X7_want) rfl rfl (by decide +kernel) ⟨(Nat.le_of_ble_eq_true rfl), (Nat.le_of_ble_eq_true rfl)⟩ rfl hK hW hS hl.1 (Nat.le_of_ble_eq_true rfl) dL_law_354 ⟨by show _ ≤ 1053; omega, by show _ ≤ 17474; omega⟩ rfl (fun H locs hW hS => ?_)
  refine lv_aload_n hx hb dL_law_357 rfl (lv_at hl 3 rfl) ?_
  refine lw_M (n := 0) (rest := []) (As := []) (mX7_thrown l D aM cM cM en M1 (M1.1 0) M1 (thr_d M1)) C (wg_V tM_L_53 tI_X7_thrown tS_X7_thrown tN_X7 tK_X7_thrown) rfl rfl (by decide +kernel) ⟨(Nat.le_of_ble_eq_true rfl), (Nat.le_of_ble_eq_true rfl)⟩ rfl hK hW hS hl.1 (Nat.le_of_ble_eq_true rfl) dL_law_358 ⟨by show _ ≤ 1053; omega, by show _ ≤ 17474; omega⟩ rfl (fun H locs hW hS => ?_)
  refine lv_iload hx hb dL_law_361 (lv_at hl 0 rfl) ?_
  refine lv_icmp_eq (tgt := 368) hx hb dL_law_363 (by decide) (fun _ => ?_) (fun q => absurd ht q)
  refine lv_goto (tgt := 509) hx hb dL_law_368 (by decide) ?_
  exact next B1 M1 f H locs ls hR1 hW hS (lv_sub hl [1, 2, 3, 4, 5] rfl)
set_option maxRecDepth 100000 in
set_option maxHeartbeats 4000000 in
theorem cs_step (hl0 : l.stackTraces = false) (hL : L ≤ 2048) (C0 : lw_At p s m meth c b L xs) (hi : i + 4 ≤ L) (hc : cells + 1 ≤ 1053) (hs : slots + 6 ≤ 17474) (hK : LK D aB aM o cI cB cM cJ en s) (hR : R0 B M) (hW : LW D aB aM o cI cB cM cJ B M f H) (hS : va_S (AL s) s.heap H locs) (hl : LI D aB aM o b i ls) (next : LNext p l e s m below meth c D aB aM o cI cB cM cJ b i (cells + 1) (slots + 6)) : W p l e room_1 s m #[Value.ref b] below meth c H locs cells slots (lw_Z below #[Value.ref b] s) (F0 m 371 ls []) := by
  obtain ⟨hx, hb, hr, hml, hown, hts, hX, hbl, hlocks, hgv⟩ := C0
  have hT : ∀ w ∈ wG, w.before _ s = true := fun w h => hts w (wG_in h)
  have C : CallFix p m c cL_law 7 s #[Value.ref b] wG RL := ⟨hx, hb, hml, hown, hT⟩
  have hbA : ¬ AL s b := Nat.not_le.mpr hbl
  have hl : lv_has ls 7 [(0, .ref b), (1, .ref (aB 0)), (2, .ref (aM 0)), (3, .ref o), (4, .int (nI i))] := hl
  obtain ⟨k, B1, M1, r, hk, hm, ht, hR1⟩ := step_all hR (xs (nI i + 1).toNatClampNeg)
  refine lv_aload_n hx hb dL_law_371 rfl (lv_at hl 1 rfl) ?_
  refine lv_aload_n hx hb dL_law_372 rfl (lv_at hl 0 rfl) ?_
  refine lv_iload hx hb dL_law_373 (lv_at hl 4 rfl) ?_
  refine lv_iconst (v := 1) hx hb dL_law_375 (by decide) ?_
  refine lv_iadd hx hb dL_law_376 ?_
  refine va_sld hx hb hX hbl hbA hS (in_1 hi hL 1 (by decide)) dL_law_377 ?_
  refine lv_aload_n hx hb dL_law_378 rfl (lv_at hl 3 rfl) ?_
  obtain ⟨f1, hk, hf1⟩ := f1_of (f := f) hk
  refine lw_O (n := 3) (rest := []) (As := [.ref (aB 0), .int (xs (nI i + 1).toNatClampNeg), .ref o]) (hL_step l hl0 D aB cI cB en o cJ B f (xs (nI i + 1).toNatClampNeg) k B1 f1 hk) C (wg_SH tM_L_73 tT_L_step tN_L tW_L_step) (by decide +kernel) ⟨(Nat.le_of_ble_eq_true rfl), (Nat.le_of_ble_eq_true rfl)⟩ rfl hK hW hS hl.1 (Nat.le_of_ble_eq_true rfl) dL_law_379 ⟨by show _ ≤ 1053; omega, by show _ ≤ 17474; omega⟩ rfl (fun H locs hW hS => ?_)
  refine lv_istore (lv' := [(5, .int k), (0, .ref b), (1, .ref (aB 0)), (2, .ref (aM 0)), (3, .ref o), (4, .int (nI i))]) hx hb dL_law_382 hl (by decide) rfl (fun ls hl => ?_)
  refine lv_aload_n hx hb dL_law_384 rfl (lv_at hl 3 rfl) ?_
  refine lv_aload_n hx hb dL_law_385 rfl (lv_at hl 1 rfl) ?_
  refine lv_iload hx hb dL_law_386 (lv_at hl 5 rfl) ?_
  refine lv_iconst (v := 1) hx hb dL_law_388 (by decide) ?_
  refine lv_iadd hx hb dL_law_389 ?_
  refine va_sld hx hb hX hbl hbA hS (in_1 hi hL 1 (by decide)) dL_law_390 ?_
  refine lw_M (n := 1) (rest := []) (As := [.int (xs (nI i + 1).toNatClampNeg)]) (mX7_step l D aM cM cM en M (xs (nI i + 1).toNatClampNeg) r M1 hm) C (wg_V tM_L_75 tI_X7_step tS_X7_step tN_X7 tK_X7_step) rfl rfl (by decide +kernel) ⟨(Nat.le_of_ble_eq_true rfl), (Nat.le_of_ble_eq_true rfl)⟩ rfl hK hW hS hl.1 (Nat.le_of_ble_eq_true rfl) dL_law_391 ⟨by show _ ≤ 1053; omega, by show _ ≤ 17474; omega⟩ rfl (fun H locs hW hS => ?_)
  refine lv_istore (lv' := [(6, .int r), (5, .int k), (0, .ref b), (1, .ref (aB 0)), (2, .ref (aM 0)), (3, .ref o), (4, .int (nI i))]) hx hb dL_law_394 hl (by decide) rfl (fun ls hl => ?_)
  refine lv_aload_n hx hb dL_law_396 rfl (lv_at hl 4 rfl) ?_
  refine lw_M (n := 0) (rest := []) (As := []) (mX7_thrown l D aM cM cM en M1 (M1.1 0) M1 (thr_d M1)) C (wg_V tM_L_53 tI_X7_thrown tS_X7_thrown tN_X7 tK_X7_thrown) rfl rfl (by decide +kernel) ⟨(Nat.le_of_ble_eq_true rfl), (Nat.le_of_ble_eq_true rfl)⟩ rfl hK hW hS hl.1 (Nat.le_of_ble_eq_true rfl) dL_law_397 ⟨by show _ ≤ 1053; omega, by show _ ≤ 17474; omega⟩ rfl (fun H locs hW hS => ?_)
  refine lv_iload hx hb dL_law_400 (lv_at hl 1 rfl) ?_
  refine lv_icmp_eq (tgt := 407) hx hb dL_law_402 (by decide) (fun _ => ?_) (fun q => absurd ht q)
  refine lv_iload hx hb dL_law_407 (lv_at hl 1 rfl) ?_
  have fin : W p l e room_1 s m #[Value.ref b] below meth c H locs (cells + 1) (slots + 6) (lw_Z below #[Value.ref b] s) (F0 m 424 ls []) := by
    refine lv_goto (tgt := 509) hx hb dL_law_424 (by decide) ?_
    exact next B1 M1 f1 H locs ls hR1 hW hS (lv_sub hl [2, 3, 4, 5, 6] rfl)
  refine lv_if_ne (tgt := 424) hx hb dL_law_409 (by decide) (fun _ => fin) (fun q => ?_)
  refine lv_aload_n hx hb dL_law_412 rfl (lv_at hl 5 rfl) ?_
  refine lv_iconst (v := 0) hx hb dL_law_413 (by decide) ?_
  refine va_lald hx hb hK.2.2.1 hW.2.2 0 0 rfl rfl (by rintro (z | z) <;> revert z <;> decide) dL_law_414 ?_
  refine lv_iload hx hb dL_law_415 (lv_at hl 0 rfl) ?_
  refine lv_i2l (v := r.toInt64) hx hb dL_law_417 rfl ?_
  refine W.lcmp hx hb dL_law_418 ?_
  refine lv_if_eq (tgt := 424) hx hb dL_law_419 (by decide) (fun _ => fin) (fun z => absurd ((lg_cmp_eq _ _).mpr (hf1 q)) z)
set_option maxRecDepth 100000 in
set_option maxHeartbeats 4000000 in
theorem cs_exceptions (hl0 : l.stackTraces = false) (hL : L ≤ 2048) (C0 : lw_At p s m meth c b L xs) (hi : i + 4 ≤ L) (hc : cells + 1 ≤ 1053) (hs : slots + 6 ≤ 17474) (hK : LK D aB aM o cI cB cM cJ en s) (hR : R0 B M) (hW : LW D aB aM o cI cB cM cJ B M f H) (hS : va_S (AL s) s.heap H locs) (hl : LI D aB aM o b i ls) (next : LNext p l e s m below meth c D aB aM o cI cB cM cJ b i (cells + 1) (slots + 6)) : W p l e room_1 s m #[Value.ref b] below meth c H locs cells slots (lw_Z below #[Value.ref b] s) (F0 m 440 ls []) := by
  obtain ⟨hx, hb, hr, hml, hown, hts, hX, hbl, hlocks, hgv⟩ := C0
  have hT : ∀ w ∈ wG, w.before _ s = true := fun w h => hts w (wG_in h)
  have C : CallFix p m c cL_law 7 s #[Value.ref b] wG RL := ⟨hx, hb, hml, hown, hT⟩
  have hbA : ¬ AL s b := Nat.not_le.mpr hbl
  have hl : lv_has ls 7 [(0, .ref b), (1, .ref (aB 0)), (2, .ref (aM 0)), (3, .ref o), (4, .int (nI i))] := hl
  obtain ⟨k, B1, M1, r, hk, hm, ht, hR1⟩ := exn_all hR (xs (nI i + 1).toNatClampNeg)
  refine lv_aload_n hx hb dL_law_440 rfl (lv_at hl 1 rfl) ?_
  refine lv_aload_n hx hb dL_law_441 rfl (lv_at hl 0 rfl) ?_
  refine lv_iload hx hb dL_law_442 (lv_at hl 4 rfl) ?_
  refine lv_iconst (v := 1) hx hb dL_law_444 (by decide) ?_
  refine lv_iadd hx hb dL_law_445 ?_
  refine va_sld hx hb hX hbl hbA hS (in_1 hi hL 1 (by decide)) dL_law_446 ?_
  refine lv_aload_n hx hb dL_law_447 rfl (lv_at hl 3 rfl) ?_
  obtain ⟨f1, hk, hf1⟩ := f1_of (f := f) hk
  refine lw_O (n := 3) (rest := []) (As := [.ref (aB 0), .int (xs (nI i + 1).toNatClampNeg), .ref o]) (hL_exceptions l hl0 D aB cI cB en o cJ B f (xs (nI i + 1).toNatClampNeg) k B1 f1 hk) C (wg_SH tM_L_80 tT_L_exceptions tN_L tW_L_exceptions) (by decide +kernel) ⟨(Nat.le_of_ble_eq_true rfl), (Nat.le_of_ble_eq_true rfl)⟩ rfl hK hW hS hl.1 (Nat.le_of_ble_eq_true rfl) dL_law_448 ⟨by show _ ≤ 1053; omega, by show _ ≤ 17474; omega⟩ rfl (fun H locs hW hS => ?_)
  refine lv_istore (lv' := [(5, .int k), (0, .ref b), (1, .ref (aB 0)), (2, .ref (aM 0)), (3, .ref o), (4, .int (nI i))]) hx hb dL_law_451 hl (by decide) rfl (fun ls hl => ?_)
  refine lv_aload_n hx hb dL_law_453 rfl (lv_at hl 3 rfl) ?_
  refine lv_aload_n hx hb dL_law_454 rfl (lv_at hl 1 rfl) ?_
  refine lv_iload hx hb dL_law_455 (lv_at hl 5 rfl) ?_
  refine lv_iconst (v := 1) hx hb dL_law_457 (by decide) ?_
  refine lv_iadd hx hb dL_law_458 ?_
  refine va_sld hx hb hX hbl hbA hS (in_1 hi hL 1 (by decide)) dL_law_459 ?_
  refine lw_M (n := 1) (rest := []) (As := [.int (xs (nI i + 1).toNatClampNeg)]) (mX7_exceptions l D aM cM cM en M (xs (nI i + 1).toNatClampNeg) r M1 hm) C (wg_V tM_L_82 tI_X7_exceptions tS_X7_exceptions tN_X7 tK_X7_exceptions) rfl rfl (by decide +kernel) ⟨(Nat.le_of_ble_eq_true rfl), (Nat.le_of_ble_eq_true rfl)⟩ rfl hK hW hS hl.1 (Nat.le_of_ble_eq_true rfl) dL_law_460 ⟨by show _ ≤ 1053; omega, by show _ ≤ 17474; omega⟩ rfl (fun H locs hW hS => ?_)
  refine lv_istore (lv' := [(6, .int r), (5, .int k), (0, .ref b), (1, .ref (aB 0)), (2, .ref (aM 0)), (3, .ref o), (4, .int (nI i))]) hx hb dL_law_463 hl (by decide) rfl (fun ls hl => ?_)
  refine lv_aload_n hx hb dL_law_465 rfl (lv_at hl 4 rfl) ?_
  refine lw_M (n := 0) (rest := []) (As := []) (mX7_thrown l D aM cM cM en M1 (M1.1 0) M1 (thr_d M1)) C (wg_V tM_L_53 tI_X7_thrown tS_X7_thrown tN_X7 tK_X7_thrown) rfl rfl (by decide +kernel) ⟨(Nat.le_of_ble_eq_true rfl), (Nat.le_of_ble_eq_true rfl)⟩ rfl hK hW hS hl.1 (Nat.le_of_ble_eq_true rfl) dL_law_466 ⟨by show _ ≤ 1053; omega, by show _ ≤ 17474; omega⟩ rfl (fun H locs hW hS => ?_)
  refine lv_iload hx hb dL_law_469 (lv_at hl 1 rfl) ?_
  refine lv_icmp_eq (tgt := 476) hx hb dL_law_471 (by decide) (fun _ => ?_) (fun q => absurd ht q)
  refine lv_iload hx hb dL_law_476 (lv_at hl 1 rfl) ?_
  have fin : W p l e room_1 s m #[Value.ref b] below meth c H locs (cells + 1) (slots + 6) (lw_Z below #[Value.ref b] s) (F0 m 493 ls []) := by
    refine lv_goto (tgt := 509) hx hb dL_law_493 (by decide) ?_
    exact next B1 M1 f1 H locs ls hR1 hW hS (lv_sub hl [2, 3, 4, 5, 6] rfl)
  refine lv_if_ne (tgt := 493) hx hb dL_law_478 (by decide) (fun _ => fin) (fun q => ?_)
  refine lv_aload_n hx hb dL_law_481 rfl (lv_at hl 5 rfl) ?_
  refine lv_iconst (v := 0) hx hb dL_law_482 (by decide) ?_
  refine va_lald hx hb hK.2.2.1 hW.2.2 0 0 rfl rfl (by rintro (z | z) <;> revert z <;> decide) dL_law_483 ?_
  refine lv_iload hx hb dL_law_484 (lv_at hl 0 rfl) ?_
  refine lv_i2l (v := r.toInt64) hx hb dL_law_486 rfl ?_
  refine W.lcmp hx hb dL_law_487 ?_
  refine lv_if_eq (tgt := 493) hx hb dL_law_488 (by decide) (fun _ => fin) (fun z => absurd ((lg_cmp_eq _ _).mpr (hf1 q)) z)
set_option maxRecDepth 100000 in
set_option maxHeartbeats 4000000 in
theorem cs_reset (hl0 : l.stackTraces = false) (hL : L ≤ 2048) (C0 : lw_At p s m meth c b L xs) (hi : i + 4 ≤ L) (hc : cells + 1 ≤ 1053) (hs : slots + 6 ≤ 17474) (hK : LK D aB aM o cI cB cM cJ en s) (hR : R0 B M) (hW : LW D aB aM o cI cB cM cJ B M f H) (hS : va_S (AL s) s.heap H locs) (hl : LI D aB aM o b i ls) (next : LNext p l e s m below meth c D aB aM o cI cB cM cJ b i (cells + 1) (slots + 6)) : W p l e room_1 s m #[Value.ref b] below meth c H locs cells slots (lw_Z below #[Value.ref b] s) (F0 m 92 ls []) := by
  obtain ⟨hx, hb, hr, hml, hown, hts, hX, hbl, hlocks, hgv⟩ := C0
  have hT : ∀ w ∈ wG, w.before _ s = true := fun w h => hts w (wG_in h)
  have C : CallFix p m c cL_law 7 s #[Value.ref b] wG RL := ⟨hx, hb, hml, hown, hT⟩
  have hbA : ¬ AL s b := Nat.not_le.mpr hbl
  have hl : lv_has ls 7 [(0, .ref b), (1, .ref (aB 0)), (2, .ref (aM 0)), (3, .ref o), (4, .int (nI i))] := hl
  obtain ⟨B1, M1, e1, e2, hR1⟩ := reset_step hR
  refine lv_aload_n hx hb dL_law_92 rfl (lv_at hl 1 rfl) ?_
  refine lw_B (n := 0) (rest := []) (As := []) (mX6_reset l D aB cI cB en B B1 e1) C (wg_V tM_L_43 tI_X6_reset tS_X6_reset tN_X6 tK_X6_reset) rfl rfl (by decide +kernel) ⟨(Nat.le_of_ble_eq_true rfl), (Nat.le_of_ble_eq_true rfl)⟩ rfl hK hW hS hl.1 (Nat.le_of_ble_eq_true rfl) dL_law_93 ⟨by show _ ≤ 1053; omega, by show _ ≤ 17474; omega⟩ rfl (fun H locs hW hS => ?_)
  refine lv_aload_n hx hb dL_law_96 rfl (lv_at hl 2 rfl) ?_
  refine lw_M (n := 0) (rest := []) (As := []) (mX7_reset l D aM cM cM en M M1 e2) C (wg_V tM_L_46 tI_X7_reset tS_X7_reset tN_X7 tK_X7_reset) rfl rfl (by decide +kernel) ⟨(Nat.le_of_ble_eq_true rfl), (Nat.le_of_ble_eq_true rfl)⟩ rfl hK hW hS hl.1 (Nat.le_of_ble_eq_true rfl) dL_law_97 ⟨by show _ ≤ 1053; omega, by show _ ≤ 17474; omega⟩ rfl (fun H locs hW hS => ?_)
  refine lv_goto (tgt := 509) hx hb dL_law_100 (by decide) ?_
  refine W.widen (k := cells + 1) (n := slots + 6) (by omega) (by omega) ?_
  exact next B1 M1 f H locs ls hR1 hW hS hl
set_option maxRecDepth 100000 in
set_option maxHeartbeats 4000000 in
theorem cs_state (hl0 : l.stackTraces = false) (hL : L ≤ 2048) (C0 : lw_At p s m meth c b L xs) (hi : i + 4 ≤ L) (hc : cells + 1 ≤ 1053) (hs : slots + 6 ≤ 17474) (hK : LK D aB aM o cI cB cM cJ en s) (hR : R0 B M) (hW : LW D aB aM o cI cB cM cJ B M f H) (hS : va_S (AL s) s.heap H locs) (hl : LI D aB aM o b i ls) (next : LNext p l e s m below meth c D aB aM o cI cB cM cJ b i (cells + 1) (slots + 6)) : W p l e room_1 s m #[Value.ref b] below meth c H locs cells slots (lw_Z below #[Value.ref b] s) (F0 m 427 ls []) := by
  obtain ⟨hx, hb, hr, hml, hown, hts, hX, hbl, hlocks, hgv⟩ := C0
  have hT : ∀ w ∈ wG, w.before _ s = true := fun w h => hts w (wG_in h)
  have C : CallFix p m c cL_law 7 s #[Value.ref b] wG RL := ⟨hx, hb, hml, hown, hT⟩
  have hbA : ¬ AL s b := Nat.not_le.mpr hbl
  have hl : lv_has ls 7 [(0, .ref b), (1, .ref (aB 0)), (2, .ref (aM 0)), (3, .ref o), (4, .int (nI i))] := hl
  obtain ⟨r, M1, e1, e2, hR1⟩ := state_step hR
  refine lv_aload_n hx hb dL_law_427 rfl (lv_at hl 1 rfl) ?_
  refine lw_B (n := 0) (rest := []) (As := []) (mX6_state l D aB cI cB en B r B e1) C (wg_V tM_L_76 tI_X6_state tS_X6_state tN_X6 tK_X6_state) rfl rfl (by decide +kernel) ⟨(Nat.le_of_ble_eq_true rfl), (Nat.le_of_ble_eq_true rfl)⟩ rfl hK hW hS hl.1 (Nat.le_of_ble_eq_true rfl) dL_law_428 ⟨by show _ ≤ 1053; omega, by show _ ≤ 17474; omega⟩ rfl (fun H locs hW hS => ?_)
  refine lv_aload_n hx hb dL_law_431 rfl (lv_at hl 2 rfl) ?_
  refine lw_M (n := 0) (rest := [.int r]) (As := []) (mX7_state l D aM cM cM en M r M1 e2) C (wg_V tM_L_79 tI_X7_state tS_X7_state tN_X7 tK_X7_state) rfl rfl (by decide +kernel) ⟨(Nat.le_of_ble_eq_true rfl), (Nat.le_of_ble_eq_true rfl)⟩ rfl hK hW hS hl.1 (Nat.le_of_ble_eq_true rfl) dL_law_432 ⟨by show _ ≤ 1053; omega, by show _ ≤ 17474; omega⟩ rfl (fun H locs hW hS => ?_)
  refine lv_icmp_eq (tgt := 509) hx hb dL_law_435 (by decide) (fun _ => ?_) (fun q => absurd rfl q)
  refine W.widen (k := cells + 1) (n := slots + 6) (by omega) (by omega) ?_
  exact next B M1 f H locs ls hR1 hW hS hl
set_option maxRecDepth 100000 in
set_option maxHeartbeats 4000000 in
theorem cs_sum (hl0 : l.stackTraces = false) (hL : L ≤ 2048) (C0 : lw_At p s m meth c b L xs) (hi : i + 4 ≤ L) (hc : cells + 1 ≤ 1053) (hs : slots + 6 ≤ 17474) (hK : LK D aB aM o cI cB cM cJ en s) (hR : R0 B M) (hW : LW D aB aM o cI cB cM cJ B M f H) (hS : va_S (AL s) s.heap H locs) (hl : LI D aB aM o b i ls) (next : LNext p l e s m below meth c D aB aM o cI cB cM cJ b i (cells + 1) (slots + 6)) : W p l e room_1 s m #[Value.ref b] below meth c H locs cells slots (lw_Z below #[Value.ref b] s) (F0 m 496 ls []) := by
  obtain ⟨hx, hb, hr, hml, hown, hts, hX, hbl, hlocks, hgv⟩ := C0
  have hT : ∀ w ∈ wG, w.before _ s = true := fun w h => hts w (wG_in h)
  have C : CallFix p m c cL_law 7 s #[Value.ref b] wG RL := ⟨hx, hb, hml, hown, hT⟩
  have hbA : ¬ AL s b := Nat.not_le.mpr hbl
  have hl : lv_has ls 7 [(0, .ref b), (1, .ref (aB 0)), (2, .ref (aM 0)), (3, .ref o), (4, .int (nI i))] := hl
  obtain ⟨r, M1, e1, e2, hR1⟩ := sum_step hR
  refine lv_aload_n hx hb dL_law_496 rfl (lv_at hl 1 rfl) ?_
  refine lw_B (n := 0) (rest := []) (As := []) (mX6_sum l D aB cI cB en B r B e1) C (wg_V tM_L_83 tI_X6_sum tS_X6_sum tN_X6 tK_X6_sum) rfl rfl (by decide +kernel) ⟨(Nat.le_of_ble_eq_true rfl), (Nat.le_of_ble_eq_true rfl)⟩ rfl hK hW hS hl.1 (Nat.le_of_ble_eq_true rfl) dL_law_497 ⟨by show _ ≤ 1053; omega, by show _ ≤ 17474; omega⟩ rfl (fun H locs hW hS => ?_)
  refine lv_aload_n hx hb dL_law_500 rfl (lv_at hl 2 rfl) ?_
  refine lw_M (n := 0) (rest := [.int r]) (As := []) (mX7_sum l D aM cM cM en M r M1 e2) C (wg_V tM_L_86 tI_X7_sum tS_X7_sum tN_X7 tK_X7_sum) rfl rfl (by decide +kernel) ⟨(Nat.le_of_ble_eq_true rfl), (Nat.le_of_ble_eq_true rfl)⟩ rfl hK hW hS hl.1 (Nat.le_of_ble_eq_true rfl) dL_law_501 ⟨by show _ ≤ 1053; omega, by show _ ≤ 17474; omega⟩ rfl (fun H locs hW hS => ?_)
  refine lv_icmp_eq (tgt := 509) hx hb dL_law_504 (by decide) (fun _ => ?_) (fun q => absurd rfl q)
  refine W.widen (k := cells + 1) (n := slots + 6) (by omega) (by omega) ?_
  exact next B M1 f H locs ls hR1 hW hS hl
end CS
section LP
variable {p : Program} {l : Launch} {e : Env} {s : State} {m : MethodId} {below : List Frame} {meth : Method} {c : Code} {D : va_G} {aB aM : Nat → Nat} {o : Nat} {cI cB cM cJ : ClassId} {en : Nat → Nat} {b L i cells slots : Nat} {xs : Nat → Int32} {B M : St} {f : Nat → Int64} {H : Heap} {locs : List Loc} {ls : Array Slot}
theorem top4 {i L : Nat} (hL : L ≤ 2048) (hi : i ≤ 4096) : (Int32.ofNat L - 4 < nI i) ↔ L < i + 4 := by
  rw [Int32.lt_iff_toInt_lt, Int32.toInt_sub, nI_toInt (by omega), show (Int32.ofNat L).toInt = (L : Int) from nI_toInt (by omega), show (4 : Int32).toInt = 4 from rfl, Int.bmod_def]
  omega
set_option maxRecDepth 100000 in
set_option maxHeartbeats 4000000 in
theorem lw_body (hl0 : l.stackTraces = false) (hL : L ≤ 2048) (C0 : lw_At p s m meth c b L xs) (hi : i + 4 ≤ L) (hc : cells + 1 ≤ 1053) (hs : slots + 6 ≤ 17474) (hK : LK D aB aM o cI cB cM cJ en s) (hR : R0 B M) (hW : LW D aB aM o cI cB cM cJ B M f H) (hS : va_S (AL s) s.heap H locs) (hl : LI D aB aM o b i ls) (next : LNext p l e s m below meth c D aB aM o cI cB cM cJ b i (cells + 1) (slots + 6)) : W p l e room_1 s m #[Value.ref b] below meth c H locs cells slots (lw_Z below #[Value.ref b] s) (F0 m 32 ls []) := by
  have C9 := C0
  obtain ⟨hx, hb, hr, hml, hown, hts, hX, hbl, hlocks, hgv⟩ := C0
  have hT : ∀ w ∈ wG, w.before _ s = true := fun w h => hts w (wG_in h)
  have C : CallFix p m c cL_law 7 s #[Value.ref b] wG RL := ⟨hx, hb, hml, hown, hT⟩
  have hbA : ¬ AL s b := Nat.not_le.mpr hbl
  have hl : lv_has ls 7 [(0, .ref b), (1, .ref (aB 0)), (2, .ref (aM 0)), (3, .ref o), (4, .int (nI i))] := hl
  refine lv_aload_n hx hb dL_law_32 rfl (lv_at hl 0 rfl) ?_
  refine lv_iload hx hb dL_law_33 (lv_at hl 4 rfl) ?_
  refine va_sld hx hb hX hbl hbA hS (vp_in_nI (by omega) (by omega)) dL_law_35 ?_
  refine lv_bipush (v := 15) hx hb dL_law_36 (by decide) ?_
  refine lv_iand hx hb dL_law_38 ?_
  have hj := pk_and (xs (nI i).toNatClampNeg) (m := 15) 4 (by decide)
  generalize hjj : (xs (nI i).toNatClampNeg).toBitVec.toNat % 2 ^ 4 = j at hj
  have hj16 : j < 16 := by rw [← hjj]; exact Nat.mod_lt _ (by decide)
  rw [hj]
  by_cases j0 : j = 0
  · subst j0
    refine u_table (k := 0) (a := 0) (off := 53) (tgt := 92) hx hb dL_law_39 rfl rfl (by decide) (by decide) rfl (by decide) ?_
    exact cs_reset hl0 hL C9 hi hc hs hK hR hW hS hl next
  by_cases j1 : j = 1
  · subst j1
    refine u_table (k := 1) (a := 1) (off := 64) (tgt := 103) hx hb dL_law_39 rfl rfl (by decide) (by decide) rfl (by decide) ?_
    exact cs_register hl0 hL C9 hi hc hs hK hR hW hS hl next
  by_cases j2 : j = 2
  · subst j2
    refine u_table (k := 2) (a := 2) (off := 120) (tgt := 159) hx hb dL_law_39 rfl rfl (by decide) (by decide) rfl (by decide) ?_
    exact cs_put hl0 hL C9 hi hc hs hK hR hW hS hl next
  by_cases j3 : j = 3
  · subst j3
    refine u_table (k := 3) (a := 3) (off := 168) (tgt := 207) hx hb dL_law_39 rfl rfl (by decide) (by decide) rfl (by decide) ?_
    exact cs_write hl0 hL C9 hi hc hs hK hR hW hS hl next
  by_cases j4 : j = 4
  · subst j4
    refine u_table (k := 4) (a := 4) (off := 228) (tgt := 267) hx hb dL_law_39 rfl rfl (by decide) (by decide) rfl (by decide) ?_
    exact cs_read hl0 hL C9 hi hc hs hK hR hW hS hl next
  by_cases j5 : j = 5
  · subst j5
    refine u_table (k := 5) (a := 5) (off := 296) (tgt := 335) hx hb dL_law_39 rfl rfl (by decide) (by decide) rfl (by decide) ?_
    exact cs_want hl0 hL C9 hi hc hs hK hR hW hS hl next
  by_cases j6 : j = 6
  · subst j6
    refine u_table (k := 6) (a := 6) (off := 332) (tgt := 371) hx hb dL_law_39 rfl rfl (by decide) (by decide) rfl (by decide) ?_
    exact cs_step hl0 hL C9 hi hc hs hK hR hW hS hl next
  by_cases j7 : j = 7
  · subst j7
    refine u_table (k := 7) (a := 7) (off := 388) (tgt := 427) hx hb dL_law_39 rfl rfl (by decide) (by decide) rfl (by decide) ?_
    exact cs_state hl0 hL C9 hi hc hs hK hR hW hS hl next
  by_cases j8 : j = 8
  · subst j8
    refine u_table (k := 8) (a := 8) (off := 401) (tgt := 440) hx hb dL_law_39 rfl rfl (by decide) (by decide) rfl (by decide) ?_
    exact cs_exceptions hl0 hL C9 hi hc hs hK hR hW hS hl next
  by_cases j9 : j = 9
  · subst j9
    refine u_table (k := 9) (a := 9) (off := 457) (tgt := 496) hx hb dL_law_39 rfl rfl (by decide) (by decide) rfl (by decide) ?_
    exact cs_sum hl0 hL C9 hi hc hs hK hR hW hS hl next
  refine u_tableD (tgt := 509) hx hb dL_law_39 ?_ (by decide) ?_
  · intro _ h2
    rw [nI_toInt (by omega)] at h2
    exact absurd h2 (by omega)
  · refine W.widen (k := cells + 1) (n := slots + 6) (by omega) (by omega) ?_
    exact next B M f H locs ls hR hW hS hl
set_option maxRecDepth 100000 in
set_option maxHeartbeats 4000000 in
theorem lw_loop (hl0 : l.stackTraces = false) (hL : L ≤ 2048) (C0 : lw_At p s m meth c b L xs) (hK : LK D aB aM o cI cB cM cJ en s) : ∀ (n j : Nat) (B M : St) (f : Nat → Int64) (H : Heap) (locs : List Loc) (ls : Array Slot), L < 4 * j + 4 * n + 4 → j ≤ 512 → R0 B M → LW D aB aM o cI cB cM cJ B M f H → va_S (AL s) s.heap H locs → LI D aB aM o b (4 * j) ls → W p l e room_1 s m #[Value.ref b] below meth c H locs (22 + j) (9240 + 6 * j) (lw_Z below #[Value.ref b] s) (F0 m 23 ls []) := by
  intro n
  induction n with
  | zero =>
    intro j B M f H locs ls hn hj hR hW hS hl
    obtain ⟨hx, hb, hr, hml, hown, hts, hX, hbl, hlocks, hgv⟩ := C0
    have hbA : ¬ AL s b := Nat.not_le.mpr hbl
    have hl : lv_has ls 7 [(0, .ref b), (1, .ref (aB 0)), (2, .ref (aM 0)), (3, .ref o), (4, .int (nI (4 * j)))] := hl
    refine lv_iload hx hb dL_law_23 (lv_at hl 4 rfl) ?_
    refine lv_aload_n hx hb dL_law_25 rfl (lv_at hl 0 rfl) ?_
    refine va_slen hx hb hX hbl hbA hS dL_law_26 ?_
    refine lv_iconst (v := 4) hx hb dL_law_27 (by decide) ?_
    refine lv_isub hx hb dL_law_28 ?_
    refine lv_icmp_gt (tgt := 515) hx hb dL_law_29 (by decide) (fun _ => ?_) (fun q => absurd ((top4 hL (by omega)).mpr (by omega)) q)
    refine lv_iconst (v := 1) hx hb dL_law_515 (by decide) ?_
    refine va_forget (fun q hq => hS.2.2 q hq) ?_
    refine W.widen (k := 1053) (n := 17474) (by omega) (by omega) ?_
    exact lw_ret hx hb hr hlocks dL_law_516
  | succ n ih =>
    intro j B M f H locs ls hn hj hR hW hS hl0'
    obtain ⟨hx, hb, hr, hml, hown, hts, hX, hbl, hlocks, hgv⟩ := id C0
    have hbA : ¬ AL s b := Nat.not_le.mpr hbl
    have hl : lv_has ls 7 [(0, .ref b), (1, .ref (aB 0)), (2, .ref (aM 0)), (3, .ref o), (4, .int (nI (4 * j)))] := hl0'
    refine lv_iload hx hb dL_law_23 (lv_at hl 4 rfl) ?_
    refine lv_aload_n hx hb dL_law_25 rfl (lv_at hl 0 rfl) ?_
    refine va_slen hx hb hX hbl hbA hS dL_law_26 ?_
    refine lv_iconst (v := 4) hx hb dL_law_27 (by decide) ?_
    refine lv_isub hx hb dL_law_28 ?_
    refine lv_icmp_gt (tgt := 515) hx hb dL_law_29 (by decide) (fun _ => ?_) (fun q => ?_)
    · refine lv_iconst (v := 1) hx hb dL_law_515 (by decide) ?_
      refine va_forget (fun q hq => hS.2.2 q hq) ?_
      refine W.widen (k := 1053) (n := 17474) (by omega) (by omega) ?_
      exact lw_ret hx hb hr hlocks dL_law_516
    · have hi : 4 * j + 4 ≤ L := by
        rcases Nat.lt_or_ge L (4 * j + 4) with z | z
        · exact absurd ((top4 hL (by omega)).mpr z) q
        · exact z
      refine lw_body hl0 hL C0 hi (by omega) (by omega) hK hR hW hS hl0' ?_
      intro B M f H locs ls hR hW hS hl
      have hl : lv_has ls 7 [(0, .ref b), (1, .ref (aB 0)), (2, .ref (aM 0)), (3, .ref o), (4, .int (nI (4 * j)))] := hl
      refine lv_iinc (v := nI (4 * (j + 1))) (lv' := [(4, .int (nI (4 * (j + 1)))), (0, .ref b), (1, .ref (aB 0)), (2, .ref (aM 0)), (3, .ref o)]) hx hb dL_law_509 hl (k := 4) rfl (nIk (4 * j) 4) (by decide) rfl (fun ls hl => ?_)
      refine lv_goto (tgt := 23) hx hb dL_law_512 (by decide) ?_
      exact ih (j + 1) B M f H locs ls (by omega) (by omega) hR hW hS (lv_sub hl [1, 2, 3, 4, 0] rfl)
end LP
