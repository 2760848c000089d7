/-! ===== two operands, one behind the other ===== -/
theorem or_24 : ∀ y, y < 8 → (24 : Int32) ||| nI y = nI (24 + y) := by decide +kernel
theorem or_32 : ∀ y, y < 8 → (32 : Int32) ||| nI y = nI (32 + y) := by decide +kernel
theorem or_0 : ∀ y, y < 8 → (0 : Int32) ||| nI y = nI (0 + y) := by decide +kernel
section H6
variable {c0 : CB} {d0 : CM} {m0 : Nat → Int32} {B M : St}
theorem tbB_c (M : St) (a : Int32) : cM (tbB M 3 a) = cM M := rfl
theorem sim_pair (k1 k2 : Nat) (h1 : k1 < 61) (h2 : k2 < 61) (e : Nat) (he : e < 3) (h : Ok c0 d0 B M) (hf : Fr m0 B M) :
    ∃ w1 B1 x B2 w2 B3 y B4 M1 x' M2 M3 y' M4, fX0_locate e (nI k1) B = some (w1, B1) ∧ fX0_load e w1 B1 = some (x, B2) ∧ fX0_locate e (nI k2) B2 = some (w2, B3) ∧ fX0_load e w2 B3 = some (y, B4) ∧
      fX7_operand (nI k1) (szB e) M = some M1 ∧ fX7_take (szB e) M1 = some (x', M2) ∧ M2.1 5 = M.1 5 ∧ fX7_operand (nI k2) (szB e) M2 = some M3 ∧ fX7_take (szB e) M3 = some (y', M4) ∧ M4.1 5 = M.1 5 ∧
      ((x = x' ∧ y = y' ∧ B4 = B3 ∧ M4 = M3 ∧ Ok c0 d0 B4 M4 ∧ Fr m0 B4 M4 ∧ PlR e w2 M4 m0 ∧ M4.1 12 = sortOf k2) ∨ Tr c0 d0 m0 B4 M4) := by
  obtain ⟨w1, B1, M1, a1, a2, a3, a4, a5, a6, ld⟩ := sim_ll k1 h1 e he h hf
  rcases ld with ⟨r, l1, l2, l3⟩ | ⟨a, l1, l2, nn, o, m1, hn, hm, hB, hM⟩
  · obtain ⟨w2, B3, M3, b1, b2, b3, b4, b5, b6, ld2⟩ := sim_ll k2 h2 e he a3 a4
    rcases ld2 with ⟨r2, p1, p2, p3⟩ | ⟨a, p1, p2, p3⟩
    · exact ⟨w1, B1, r, B1, w2, B3, r2, B3, M1, r, M1, M3, r2, M3, a1, l1, b1, p1, a2, l2, h.op a3, b2, p2, h.op b3, Or.inl ⟨rfl, rfl, rfl, rfl, b3, b4, b5, b6⟩⟩
    · have o3 : M3.1 5 = M.1 5 := h.op b3
      exact ⟨w1, B1, r, B1, w2, B3, 0, tbB B3 3 a, M1, r, M1, M3, 0, tbB M3 3 a, a1, l1, b1, p1, a2, l2, h.op a3, b2, p2, o3, Or.inr p3⟩
  · obtain ⟨w2, B3, b1, b2⟩ := tB_locate hB k2 (by omega) e he
    obtain ⟨y, b3⟩ := tB_load b2 hn e he w2
    obtain ⟨M3, q1, q2⟩ := tM_operand hM hn k2 h2 e he
    obtain ⟨y', q3⟩ := tM_take q2 hn e he
    have o1 : M3.1 5 = M.1 5 := op_of (q2.1.trans h.2.2.2.2.2.2.2.2.2.2.2.2.2.symm)
    have o1' : M1.1 5 = M.1 5 := h.op a3
    exact ⟨w1, B1, 0, tbB B1 3 a, w2, B3, y, B3, M1, 0, tbB M1 3 a, M3, y', M3, a1, l1, b1, b3, a2, l2, o1', q1, q3, o1, Or.inr ⟨nn, o, m1, hn, hm, b2, q2⟩⟩
theorem b3' {k : Nat} (hk : k < 65536) : nI k &&& 8 = 0 ↔ k / 8 % 2 = 0 := bitk k hk 3 8 (by decide) (by decide +kernel)
theorem t24 {k : Nat} (hk : k < 65536) : ((nI k >>> ((3 : Int32) &&& 31)) &&& 7) = nI (k / 8 % 8) := by
  rw [pk_shrN (by omega) ((3 : Int32) &&& 31) 3 (by decide), pk_andN (by omega) (m := 7) 3 (by decide)]
theorem cp_B {k : Nat} (hk : k < 65536) (hs : k / 64 % 4 < 3) (B : St) : fX2_comparePair (nI k) B = (bd (fX0_locate (k / 64 % 4) (nI (24 + k % 8)) B) fun w1 S4 => (bd (fX0_load (k / 64 % 4) w1 S4) fun r3 S5 => (bd (fX0_locate (k / 64 % 4) (nI (24 + k / 512 % 8)) S5) fun w2 S7 => (bd (fX0_load (k / 64 % 4) w2 S7) fun r5 S8 => (fX1_compare (k / 64 % 4) r5 r3 S8))))) := by
  unfold fX2_comparePair
  rw [f_sizeBits hk, bd_some, f_of _ _ hs, bd_some, gd_t hs, f_lower hk, bd_some, or_24 _ (by omega)]
  refine bd_c (fun w1 S4 => ?_)
  refine bd_c (fun r3 S5 => ?_)
  rw [f_upper hk, bd_some, or_24 _ (by omega)]
  refine bd_c (fun w2 S7 => ?_)
  refine bd_c (fun r5 S8 => ?_)
  rw [q_bv]
theorem g11_p {k : Nat} (hk : k < 65536) (hs : k / 64 % 4 < 3) (q : ¬ k / 256 % 2 = 0) (hm1 : k / 8 % 8 = 1) (hop : M.1 5 = nI k) : fX7_group11 M = (bv (fX7_operand (nI (24 + k % 8)) (szB (k / 64 % 4)) M) fun S16 => (bd (fX7_take (szB (k / 64 % 4)) S16) fun r7 S17 => (bv (fX7_operand (nI (24 + k / 512 % 8)) (szB (k / 64 % 4)) S17) fun S18 => (bd (fX7_take (szB (k / 64 % 4)) S18) fun r8 S19 => (bv (fX7_compare r8 r7 (szB (k / 64 % 4)) S19) fun S20 => (some (true, S20))))))) := by
  unfold fX7_group11
  have hm1' : (nI (k / 8 % 8) = 1) = True := eq_true (by rw [hm1]; rfl)
  simp only [lt, jn, hop, o_6 hk, o_9 hk, o_7 hk, t24 hk, hm1', nI3 hs, v3lt _ hs, n256 hk q, zt, if_true, if_false, m_sizeOf M _ hs, bd_some, or_24 (k % 8) (by omega), or_24 (k / 512 % 8) (by omega)]
theorem cmp_pair {k : Nat} (hk : k < 65536) (hs : k / 64 % 4 < 3) (q : ¬ k / 256 % 2 = 0) (hm1 : k / 8 % 8 = 1) (hop : M.1 5 = nI k) (h : Ok c0 d0 B M) (hf : Fr m0 B M) : Hd c0 d0 m0 (fX2_comparePair (nI k) B) (fX7_group11 M) := by
  rw [cp_B hk hs, g11_p hk hs q hm1 hop]
  obtain ⟨w1, B1, x, B2, w2, B3, y, B4, M1, x', M2, M3, y', M4, a1, a2, a3, a4, b1, b2, b3, b4, b5, b6, fin⟩ := sim_pair (24 + k % 8) (24 + k / 512 % 8) (by omega) (by omega) _ hs h hf
  rw [a1, bd_some, a2, bd_some, a3, bd_some, a4, bd_some, b1, bv_some, b2, bd_some, b4, bv_some, b5, bd_some, pX1_compare _ _ _ _ hs, pX7_compare _ _ _ _ hs, bv_some]
  rcases fin with ⟨rfl, rfl, -, -, hO, -⟩ | hT
  · rw [ok_sr hO]
    exact Hd.fin rfl rfl (Or.inl (hO.fl (dS_ok ..)))
  · exact Hd.fin rfl rfl (Or.inr (hT.sr _ _))
theorem cm_ill {k : Nat} (hk : k < 65536) (hs : k / 64 % 4 < 3) (hm : mf (oz 4095 (k / 64 % 4)) (k % 64) = true) (B : St) : fX2_compare (nI k) B = some (rs B 4) := by
  unfold fX2_compare
  rw [f_sizeBits hk, bd_some, f_of _ _ hs, bd_some, gd_t hs, pX2_ofSize _ _ _ hs, bd_some, f_operand hk, bd_some, pX2_misfits _ _ (by omega), bd_some, hm, if_neg (show ¬ zI true = 0 by decide), if_pos rfl]
theorem cm_run {k : Nat} (hk : k < 65536) (hs : k / 64 % 4 < 3) (hm : mf (oz 4095 (k / 64 % 4)) (k % 64) = false) (B : St) : fX2_compare (nI k) B = (bd (fX0_locate (k / 64 % 4) (nI (k % 64)) B) fun w1 S7 => (bd (fX0_load (k / 64 % 4) w1 S7) fun r5 S8 => (fX1_compare (k / 64 % 4) (S8.2.2 1 (k / 512 % 8)) r5 S8))) := by
  have hr : k / 512 % 8 < 8 := by omega
  unfold fX2_compare
  rw [f_sizeBits hk, bd_some, f_of _ _ hs, bd_some, gd_t hs, pX2_ofSize _ _ _ hs, bd_some, f_operand hk, bd_some, pX2_misfits _ _ (by omega), bd_some, hm, if_pos (show zI false = 0 from rfl), if_neg (show ¬ (false = true) by decide), f_operand hk, bd_some]
  refine bd_c (fun w1 S7 => ?_)
  refine bd_c (fun r5 S8 => ?_)
  rw [f_upper hk, bd_some, pX4_get, bd_some, q_bv, r4_n _ (by omega)]
theorem g11_c {k : Nat} (hk : k < 65536) (hs : k / 64 % 4 < 3) (q : k / 256 % 2 = 0) (hop : M.1 5 = nI k) : fX7_group11 M = (bd (fX7_fits (nI (k % 64)) 0 (szB (k / 64 % 4)) M) fun b4 S25 => (if (zI b4) = 0 then (some (false, S25)) else (bv (fX7_operand ((S25.1 5) &&& 63) (szB (k / 64 % 4)) S25) fun S26 => (bd (fX7_take (szB (k / 64 % 4)) S26) fun r14 S27 => (bv (fX7_compare (S27.2.2 1 (k / 512 % 8)) r14 (szB (k / 64 % 4)) S27) fun S30 => (some (true, S30))))))) := by
  have hr : k / 512 % 8 < 8 := by omega
  unfold fX7_group11
  simp only [lt, jn, hop, o_6 hk, o_9 hk, o_63 hk, nI3 hs, v3lt _ hs, e256 hk q, zf, if_true, if_false, m_sizeOf M _ hs, bd_some, gd_t (ix8 hr), cl8 hr]
theorem cmp_one {k : Nat} (hk : k < 65536) (hs : k / 64 % 4 < 3) (q : k / 256 % 2 = 0) (hop : M.1 5 = nI k) (h : Ok c0 d0 B M) (hf : Fr m0 B M) : Hd c0 d0 m0 (fX2_compare (nI k) B) (fX7_group11 M) := by
  have h6 : k % 64 < 64 := by omega
  have hr : k / 512 % 8 < 8 := by omega
  rw [g11_c hk hs q hop, ft_of (ft_ANY _ hs _ h6) M, bd_some]
  cases hm : mf (oz 4095 (k / 64 % 4)) (k % 64)
  · rw [cm_run hk hs hm, if_neg (show ¬ zI (!false) = 0 by decide), hop, o_63 hk]
    obtain ⟨w, B1, M1, a1, a2, a3, a4, a5, a6, ld⟩ := sim_ll (k % 64) (mf_61 _ h6 ((mf_oz _ hs _ h6).1 hm)) _ hs h hf
    rw [a1, bd_some, a2, bv_some]
    rcases ld with ⟨r, l1, l2, l3⟩ | ⟨a, l1, l2, l3⟩
    · rw [l1, bd_some, l2, bd_some, pX1_compare _ _ _ _ hs, pX7_compare _ _ _ _ hs, bv_some, a3.gD _ hr, ok_sr a3]
      exact Hd.fin rfl rfl (Or.inl (a3.fl (dS_ok ..)))
    · rw [l1, bd_some, l2, bd_some, pX1_compare _ _ _ _ hs, pX7_compare _ _ _ _ hs, bv_some]
      exact Hd.fin rfl rfl (Or.inr (l3.sr _ _))
  · rw [cm_ill hk hs hm, if_pos (show zI (!true) = 0 from rfl)]
    exact Hd.ill h hf rfl rfl
end H6
