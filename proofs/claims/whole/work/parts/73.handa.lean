/-! ===== decimal pairs, test and set, immediates, quick ===== -/
theorem nqL {a : Nat} (b : Nat) {L : Int32} (hL : L = nI b) (ha : a < 65536) (hb : b < 65536) : (nI a = L) = (a = b) := by
  rw [hL]; exact propext (nI_eq (by omega) (by omega))
theorem o_8 {k : Nat} (hk : k < 65536) : (nI k >>> ((8 : Int32) &&& 31)) &&& 15 = nI (k / 256 % 16) := by
  rw [pk_shrN (by omega) ((8 : Int32) &&& 31) 8 (by decide), pk_andN (by omega) (m := 15) 4 (by decide)]
theorem u_8 {k : Nat} (hk : k < 65536) : (ush (nI k) 8) &&& 15 = nI (k / 256 % 16) := by
  rw [ush_n hk 8 (by decide) 8 (by decide), pk_andN (by omega) (m := 15) 4 (by decide)]
theorem k6s : ∀ k, k < 64 → ush (nI k) 3 = nI (k / 8) ∧ nI k >>> ((3 : Int32) &&& 31) = nI (k / 8) := by decide +kernel
theorem ft : (false = true) = False := eq_false (by decide)
section HA
variable {c0 : CB} {d0 : CM} {m0 : Nat → Int32} {B M : St}
theorem dec_pair {k : Nat} (hk : k < 65536) (hop : M.1 5 = nI k) (h : Ok c0 d0 B M) (hf : Fr m0 B M) {how : Int32} {less : Bool} (hw : lsR how less) : Hd c0 d0 m0 (fX2_decimalPair (nI k) how B) (fX7_decimal less M) := by
  have hr : k / 512 % 8 < 8 := by omega
  unfold fX2_decimalPair fX7_decimal
  simp only [f_pairMode hk, f_lower hk, f_upper hk, bd_some, jn, q_bv, pm_or k _ (show k % 8 < 8 by omega), pm_or k _ hr]
  obtain ⟨w1, B1, x, B2, w2, B3, y, B4, M1, x', M2, M3, y', M4, a1, a2, a3, a4, b1, b2, b3, b4, b5, b6, fin⟩ := sim_pair (pm k + k % 8) (pm k + k / 512 % 8) (pm_lt k _ (by omega)) (pm_lt k _ hr) 0 (by decide) h hf
  rw [szB0] at b1 b2 b4 b5
  rw [m_pair hk _ hop, a1, bd_some, a2, bd_some, a3, bd_some, a4, bd_some, b1, bv_some, b2, bd_some, b3, hop, o_9 hk, pm_or k _ hr, b4, bv_some, bd_some, b5, bd_some]
  rcases hw with ⟨rfl, rfl⟩ | ⟨rfl, rfl⟩
  · rw [if_pos rfl, if_neg (show ¬ zI true = 0 by decide), pX1_decimalMinus, bd_some, pX7_decimalLess, bd_some]
    rcases fin with ⟨rfl, rfl, rfl, rfl, hO, hF, hP, hS⟩ | hT
    · rw [ok_sr hO]
      exact Hd.st (e := 0) (by decide) hO hF hP (by rw [hS]; exact pm_s k _ hr) (dz_ok ..) rfl
    · exact Hd.stT (e := 0) (by decide) (hT.sr _ _)
  · rw [if_neg (by decide), if_pos zI_f, pX1_decimalPlus, bd_some, pX7_decimalSum, bd_some]
    rcases fin with ⟨rfl, rfl, rfl, rfl, hO, hF, hP, hS⟩ | hT
    · rw [ok_sr hO]
      exact Hd.st (e := 0) (by decide) hO hF hP (by rw [hS]; exact pm_s k _ hr) (dz_ok ..) rfl
    · exact Hd.stT (e := 0) (by decide) (hT.sr _ _)
theorem neg_dec {k : Nat} (hk : k < 65536) (hs : k / 64 % 4 = 0) (hop : M.1 5 = nI k) (h : Ok c0 d0 B M) (hf : Fr m0 B M) : Hd c0 d0 m0 (fX2_negateDecimal (nI k) B) (fX7_group48 M) := by
  have h6 : k % 64 < 64 := by omega
  have hs0 : nI (k / 64 % 4) = 0 := by rw [hs]; rfl
  have hft := ft_DALT 0 (by decide) (k % 64) h6
  rw [szB0] at hft
  unfold fX2_negateDecimal fX7_group48
  simp (decide := true) only [lt, hop, o_6 hk, hs0, o_63 hk, ft_of hft, f_operand hk, pX2_misfits _ _ h6, bd_some, q_bv, if_true, if_false]
  cases hm : mf 509 (k % 64)
  · simp only [zf, zt, if_true, if_false, Bool.not_false, ft, hop, o_63 hk]
    refine Hd.rd (e := 0) (DA6 h6 hm) (by decide) h hf ?_ ?_
    · intro w r B1 M1 hO hF hP hS hp hr
      rw [pX1_decimalMinus, bd_some, pX7_decimalLess, bd_some, ok_sr hO]
      exact Hd.st (e := 0) (by decide) hO hF hP (by rw [hS]; exact sort_DA _ h6 hm) (dz_ok ..) rfl
    · intro w B1 M1 hT hp
      rw [pX1_decimalMinus, bd_some, pX7_decimalLess, bd_some]
      exact Hd.stT (e := 0) (by decide) (hT.sr _ _)
  · simp only [zt, if_false, Bool.not_true, zf, if_true]
    exact Hd.ill h hf rfl rfl
theorem tas {k : Nat} (hk : k < 65536) (hs : k / 64 % 4 = 3) (hw : k / 256 % 16 = 10) (hop : M.1 5 = nI k) (h : Ok c0 d0 B M) (hf : Fr m0 B M) : Hd c0 d0 m0 (fX2_testAndSet (nI k) B) (fX7_group4 M) := by
  have h6 : k % 64 < 64 := by omega
  have hw0 : nI (k / 256 % 16) = 10 := by rw [hw]; rfl
  have hft := ft_DALT 0 (by decide) (k % 64) h6
  rw [szB0] at hft
  unfold fX2_testAndSet fX7_group4
  simp (decide := true) only [lt, jn, hop, o_6 hk, o_8 hk, hw0, nI33 hs, e256 hk (by omega), zt, zf, o_63 hk, ft_of hft, f_operand hk, pX2_misfits _ _ h6, bd_some, q_bv, if_true, if_false]
  cases hm : mf 509 (k % 64)
  · simp only [zf, zt, if_true, if_false, Bool.not_false, ft, hop, o_63 hk]
    refine Hd.rd (e := 0) (DA6 h6 hm) (by decide) h hf ?_ ?_
    · intro w r B1 M1 hO hF hP hS hp hr
      rw [pX1_lg _ _ 0 (by decide), bd_some, ← szB0, pX7_lg _ _ 0 (by decide), bv_some, ok_sr hO]
      refine Hd.st (e := 0) (by decide) hO hF hP (by rw [hS]; exact sort_DA _ h6 hm) (lgS_ok ..) ?_
      rw [hr]
    · intro w B1 M1 hT hp
      rw [pX1_lg _ _ 0 (by decide), bd_some, ← szB0, pX7_lg _ _ 0 (by decide), bv_some]
      exact Hd.stT (e := 0) (by decide) (hT.sr _ _)
  · simp only [zt, if_false, Bool.not_true, zf, if_true]
    exact Hd.ill h hf rfl rfl
/-! immediates -/
theorem Hd.im {e : Nat} (he : e < 3) (h : Ok c0 d0 B M) (hf : Fr m0 B M) {f : Int32 → St → Option St} {g : Int32 → St → Option (Bool × St)} (H : ∀ r B1 M1, Ok c0 d0 B1 M1 → Fr m0 B1 M1 → M1.1 5 = M.1 5 → Hd c0 d0 m0 (f r B1) (g r M1)) : Hd c0 d0 m0 (bd (fX0_immediate e B) f) (bd (fX7_immediate (szB e) M) g) := by
  obtain ⟨a1, a2, a3, a4⟩ := sim_imm h hf e he
  rw [a1, bd_some, a2, bd_some]
  exact H _ _ _ a3 a4 (h.op a3)
theorem le2 : ∀ s, s < 4 → (2 ≤ nI s) = (2 ≤ s) := by
  intro s hs
  have : ∀ s, s < 4 → (2 ≤ nI s ↔ 2 ≤ s) := by decide
  exact propext (this s hs)
theorem g0_f {k : Nat} (hk : k < 65536) (q : k / 256 % 2 = 0) (u4 : ¬ k / 512 % 8 = 4) (hst : ¬ (k % 64 = 60 ∧ k / 64 % 4 < 2 ∧ (k / 512 % 8 = 0 ∨ k / 512 % 8 = 1 ∨ k / 512 % 8 = 5))) (hop : M.1 5 = nI k) (hill : k / 512 % 8 = 7 ∨ k / 64 % 4 = 3 ∨ mf 509 (k % 64) = true) : fX7_group0 M = some (false, M) := by
  have h6 : k % 64 < 64 := by omega
  have hft := ft_DALT 0 (by decide) (k % 64) h6
  rw [szB0] at hft
  unfold fX7_group0
  simp (decide := true) only [lt, jn, hop, o_6 hk, o_9 hk, o_63 hk, e256 hk q, if_true, nqL (a := k / 512 % 8) 4 (L := 4) rfl (by omega) (by decide), u4, if_false, nqL (a := k / 512 % 8) 0 (L := 0) rfl (by omega) (by decide), nqL (a := k / 512 % 8) 1 (L := 1) rfl (by omega) (by decide), nqL (a := k / 512 % 8) 5 (L := 5) rfl (by omega) (by decide), nqL (a := k / 512 % 8) 7 (L := 7) rfl (by omega) (by decide), nqL (a := k / 512 % 8) 6 (L := 6) rfl (by omega) (by decide), nqL (a := k / 64 % 4) 3 (L := 3) rfl (by omega) (by decide), nqL (a := k % 64) 60 (L := 60) rfl (by omega) (by decide), le2 _ (show k / 64 % 4 < 4 by omega), ft_of hft, bd_some]
  rcases hill with q7 | q3 | qm
  · simp (decide := true) only [q7, if_true, if_false]
    repeat' split
    all_goals first | rfl | (exfalso; omega)
  · simp (decide := true) only [q3, if_true, if_false]
    repeat' split
    all_goals first | rfl | (exfalso; omega)
  · simp only [qm, Bool.not_true, zf, if_true]
    repeat' split
    all_goals first | rfl | (exfalso; omega)
theorem jim {k : Nat} (hk : k < 65536) (q : k / 256 % 2 = 0) (u4 : ¬ k / 512 % 8 = 4) (hst : ¬ (k % 64 = 60 ∧ k / 64 % 4 < 2 ∧ (k / 512 % 8 = 0 ∨ k / 512 % 8 = 1 ∨ k / 512 % 8 = 5))) (hop : M.1 5 = nI k) (h : Ok c0 d0 B M) (hf : Fr m0 B M) : Hd c0 d0 m0 (fX2_joinImmediate (nI k) B) (fX7_group0 M) := by
  have h6 : k % 64 < 64 := by omega
  by_cases u7 : k / 512 % 8 = 7
  · rw [g0_f hk q u4 hst hop (Or.inl u7)]
    unfold fX2_joinImmediate
    rw [f_upper hk, bd_some, u7, if_pos (show nI 7 = 7 from rfl), pX2_illegal, bv_some]
    exact Hd.ill h hf rfl rfl
  by_cases s3 : k / 64 % 4 = 3
  · rw [g0_f hk q u4 hst hop (Or.inr (Or.inl s3))]
    unfold fX2_joinImmediate
    rw [f_upper hk, bd_some, if_neg (show ¬ nI (k / 512 % 8) = 7 from nI_ne (b := 7) (by omega) (by decide) u7), f_sizeBits hk, bd_some, s3, if_pos (show nI 3 = 3 from rfl), pX2_illegal, bv_some]
    exact Hd.ill h hf rfl rfl
  have hs : k / 64 % 4 < 3 := by omega
  have hft := ft_DALT 0 (by decide) (k % 64) h6
  rw [szB0] at hft
  cases hm : mf 509 (k % 64)
  · have n60 : ¬ k % 64 = 60 := by intro e; rw [e] at hm; exact absurd hm (by decide +kernel)
    unfold fX2_joinImmediate fX7_group0
    simp (decide := true) only [lt, jn, hop, o_6 hk, o_9 hk, o_63 hk, e256 hk q, if_true, nqL (a := k / 512 % 8) 4 (L := 4) rfl (by omega) (by decide), u4, if_false, nqL (a := k / 512 % 8) 0 (L := 0) rfl (by omega) (by decide), nqL (a := k / 512 % 8) 1 (L := 1) rfl (by omega) (by decide), nqL (a := k / 512 % 8) 5 (L := 5) rfl (by omega) (by decide), nqL (a := k / 512 % 8) 7 (L := 7) rfl (by omega) (by decide), nqL (a := k / 512 % 8) 6 (L := 6) rfl (by omega) (by decide), nqL (a := k / 512 % 8) 2 (L := 2) rfl (by omega) (by decide), nqL (a := k / 64 % 4) 3 (L := 3) rfl (by omega) (by decide), nqL (a := k % 64) 60 (L := 60) rfl (by omega) (by decide), n60, u7, s3, ft_of hft, bd_some, hm, Bool.not_false, zf, zt, m_sizeOf _ _ hs, f_upper hk, f_sizeBits hk, f_operand hk, pX2_misfits _ _ h6, f_of _ _ hs, gd_t hs, q_bv]
    have hu : k / 512 % 8 = 0 ∨ k / 512 % 8 = 1 ∨ k / 512 % 8 = 2 ∨ k / 512 % 8 = 3 ∨ k / 512 % 8 = 5 ∨ k / 512 % 8 = 6 := by omega
    rcases hu with e | e | e | e | e | e
    all_goals simp (decide := true) only [e, if_true, if_false]
    all_goals refine Hd.im hs h hf ?_
    all_goals intro im B1 M1 hO hF hp
    all_goals simp only [hp, hop, o_63 hk]
    all_goals refine Hd.rd (DA6 h6 hm) hs hO hF ?_ ?_
    · intro w r B2 M2 hO hF hP hS hp hr
      rw [pX1_joined _ _ _ _ _ hs, bd_some, pX7_mixed, bd_some, pX7_lg _ _ _ hs, bv_some, ok_sr hO]
      rw [show nI 0 = 0 from rfl, jV0, jS0, lF0]
      exact Hd.st hs hO hF hP (by rw [hS]; exact sort_DA _ h6 hm) (lgS_ok ..) (mask_mask _ _ hs)
    · intro w B2 M2 hT hp
      rw [pX1_joined _ _ _ _ _ hs, bd_some, pX7_mixed, bd_some, pX7_lg _ _ _ hs, bv_some]
      exact Hd.stT hs (hT.sr _ _)
    · intro w r B2 M2 hO hF hP hS hp hr
      rw [pX1_joined _ _ _ _ _ hs, bd_some, pX7_mixed, bd_some, pX7_lg _ _ _ hs, bv_some, ok_sr hO]
      rw [show nI 1 = 1 from rfl, jV1, jS1, lF1]
      exact Hd.st hs hO hF hP (by rw [hS]; exact sort_DA _ h6 hm) (lgS_ok ..) (mask_mask _ _ hs)
    · intro w B2 M2 hT hp
      rw [pX1_joined _ _ _ _ _ hs, bd_some, pX7_mixed, bd_some, pX7_lg _ _ _ hs, bv_some]
      exact Hd.stT hs (hT.sr _ _)
    · intro w r B2 M2 hO hF hP hS hp hr
      rw [pX1_joined _ _ _ _ _ hs, bd_some, rk_j ls2 _ _ _ _ hs, bd_some, ok_sr hO, show nI 2 = 2 from rfl]
      exact Hd.st hs hO hF hP (by rw [hS]; exact sort_DA _ h6 hm) (jSr_ok ..) rfl
    · intro w B2 M2 hT hp
      rw [pX1_joined _ _ _ _ _ hs, bd_some, rk_j ls2 _ _ _ _ hs, bd_some]
      exact Hd.stT hs (hT.sr _ _)
    · intro w r B2 M2 hO hF hP hS hp hr
      rw [pX1_joined _ _ _ _ _ hs, bd_some, rk_j ls3 _ _ _ _ hs, bd_some, ok_sr hO, show nI 3 = 3 from rfl]
      exact Hd.st hs hO hF hP (by rw [hS]; exact sort_DA _ h6 hm) (jSr_ok ..) rfl
    · intro w B2 M2 hT hp
      rw [pX1_joined _ _ _ _ _ hs, bd_some, rk_j ls3 _ _ _ _ hs, bd_some]
      exact Hd.stT hs (hT.sr _ _)
    · intro w r B2 M2 hO hF hP hS hp hr
      rw [pX1_joined _ _ _ _ _ hs, bd_some, pX7_mixed, bd_some, pX7_lg _ _ _ hs, bv_some, ok_sr hO]
      rw [show nI 5 = 5 from rfl, jV5, jS5, lF2]
      exact Hd.st hs hO hF hP (by rw [hS]; exact sort_DA _ h6 hm) (lgS_ok ..) (mask_mask _ _ hs)
    · intro w B2 M2 hT hp
      rw [pX1_joined _ _ _ _ _ hs, bd_some, pX7_mixed, bd_some, pX7_lg _ _ _ hs, bv_some]
      exact Hd.stT hs (hT.sr _ _)
    · intro w r B2 M2 hO hF hP hS hp hr
      rw [pX1_compare _ _ _ _ hs, pX7_compare _ _ _ _ hs, bv_some, ok_sr hO]
      exact Hd.ok (hO.fl (dS_ok ..))
    · intro w B2 M2 hT hp
      rw [pX1_compare _ _ _ _ hs, pX7_compare _ _ _ _ hs, bv_some]
      exact Hd.t (hT.sr _ _)
  · rw [g0_f hk q u4 hst hop (Or.inr (Or.inr hm))]
    unfold fX2_joinImmediate
    rw [f_upper hk, bd_some, if_neg (show ¬ nI (k / 512 % 8) = 7 from nI_ne (b := 7) (by omega) (by decide) u7), f_sizeBits hk, bd_some, if_neg (show ¬ nI (k / 64 % 4) = 3 from nI_ne (b := 3) (by omega) (by decide) s3), f_operand hk, bd_some, pX2_misfits _ _ h6, bd_some, hm, if_neg (show ¬ zI true = 0 by decide), if_pos rfl]
    exact Hd.ill h hf rfl rfl
end HA
