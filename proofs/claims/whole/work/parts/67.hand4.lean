/-! ===== sums and differences of a pair ===== -/
def lsR (how : Int32) (less : Bool) : Prop := (how = 2 ∧ less = true) ∨ (how = 3 ∧ less = false)
theorem rk_j {how : Int32} {less : Bool} (h : lsR how less) (a b : Int32) (M : St) : ∀ e, e < 3 → fX7_reckon a b 0 less (szB e) true false M = some (jVal how e a b, sI M 2 (jSr how e a b (M.1 2))) := by
  intro e he
  rcases h with ⟨rfl, rfl⟩ | ⟨rfl, rfl⟩
  · rw [show (0 : Int32) = nI 0 from rfl, pX7_reckonD a b 0 (by decide) true false M e he, jV2, jS2]; rfl
  · rw [show (0 : Int32) = nI 0 from rfl, pX7_reckonA a b 0 (by decide) true false M e he, jV3, jS3]; rfl
theorem j_u {how : Int32} {less : Bool} (h : lsR how less) (e : Nat) {a a' b b' : Int32} (ha : u e a = u e a') (hb : u e b = u e b') (sr : Int32) : jVal how e a b = jVal how e a' b' ∧ jSr how e a b sr = jSr how e a' b' sr := by
  rcases h with ⟨rfl, rfl⟩ | ⟨rfl, rfl⟩
  · rw [jV2, jV2, jS2, jS2]; unfold dS; rw [ha, hb]; exact ⟨rfl, rfl⟩
  · rw [jV3, jV3, jS3, jS3]; unfold tS; rw [ha, hb]; exact ⟨rfl, rfl⟩
theorem u_m (d : Int32) (e : Nat) (he : e < 3) : u e (d &&& szM e) = u e d := u_c e he (mask_mask d e he)
theorem nI3 {s : Nat} (h : s < 3) : (nI s = 3) = False := eq_false (nI_ne (b := 3) (by omega) (by decide) (by omega))
theorem e256 {k : Nat} (hk : k < 65536) (q : k / 256 % 2 = 0) : (nI k &&& 256 = 0) = True := eq_true ((b8 hk).mpr q)
theorem n256 {k : Nat} (hk : k < 65536) (q : ¬ k / 256 % 2 = 0) : (nI k &&& 256 = 0) = False := eq_false (fun z => q ((b8 hk).mp z))
theorem zf : (zI false = 0) = True := eq_true rfl
theorem zt : (zI true = 0) = False := eq_false (by decide)
section H4
variable {c0 : CB} {d0 : CM} {m0 : Nat → Int32} {B M : St}
theorem sp_0 {k : Nat} (hk : k < 65536) (hs : k / 64 % 4 < 3) (hop : M.1 5 = nI k) (q : k / 256 % 2 = 0) (less : Bool) : fX7_sumPair less M = (bd (fX7_fits (nI (k % 64)) 0 (szB (k / 64 % 4)) M) fun b2 S2 => (if zI b2 = 0 then some (false, S2) else (bv (fX7_operand ((S2.1 5) &&& 63) (szB (k / 64 % 4)) S2) fun S3 => (bd (fX7_take (szB (k / 64 % 4)) S3) fun r2 S4 => (bd (fX7_reckon (S4.2.2 1 (k / 512 % 8)) r2 0 less (szB (k / 64 % 4)) true false S4) fun v4 S5 => (if (S5.1 6) = 0 then (bd (fX7_joined (S5.2.2 1 (k / 512 % 8)) v4 (szB (k / 64 % 4)) S5) fun r4 S7 => some (true, sA S7 1 (k / 512 % 8) r4)) else some (true, S5))))))) := by
  have hr : k / 512 % 8 < 8 := by omega
  unfold fX7_sumPair
  simp only [lt, jn, hop, o_6 hk, o_9 hk, o_63 hk, nI3 hs, e256 hk q, zf, if_true, if_false, m_sizeOf M _ hs, bd_some, gd_t (ix8 hr), cl8 hr]
theorem sp_1 {k : Nat} (hk : k < 65536) (hs : k / 64 % 4 < 3) (hop : M.1 5 = nI k) (q : ¬ k / 256 % 2 = 0) (q48 : ¬ nI k &&& 48 = 0) (less : Bool) : fX7_sumPair less M = (bd (fX7_fits (nI (k % 64)) 2 (szB (k / 64 % 4)) M) fun b2 S2 => (if zI b2 = 0 then some (false, S2) else (bv (fX7_operand ((S2.1 5) &&& 63) (szB (k / 64 % 4)) S2) fun S3 => (bd (fX7_take (szB (k / 64 % 4)) S3) fun r2 S4 => (bd (fX7_reckon r2 (S4.2.2 1 (k / 512 % 8)) 0 less (szB (k / 64 % 4)) true false S4) fun v4 S5 => (bv (fX7_give v4 (szB (k / 64 % 4)) S5) fun S9 => some (true, S9))))))) := by
  have hr : k / 512 % 8 < 8 := by omega
  unfold fX7_sumPair
  simp only [lt, jn, hop, o_6 hk, o_9 hk, o_63 hk, nI3 hs, n256 hk q, eq_false q48, zt, if_false, m_sizeOf M _ hs, bd_some, gd_t (ix8 hr), cl8 hr]
theorem pair_sum {k : Nat} (hk : k < 65536) (hs : k / 64 % 4 < 3) (hop : M.1 5 = nI k) (h : Ok c0 d0 B M) (hf : Fr m0 B M) {how kinds : Int32} {less : Bool} (hw : lsR how less) (hkd : (k / 256 % 2 = 0 ∧ kinds = 4095) ∨ (¬ k / 256 % 2 = 0 ∧ ¬ nI k &&& 48 = 0 ∧ kinds = 508)) :
    Hd c0 d0 m0 (fX2_combine (nI k) how kinds B) (fX7_sumPair less M) := by
  have h6 : k % 64 < 64 := by omega
  have hr : k / 512 % 8 < 8 := by omega
  rcases hkd with ⟨q, rfl⟩ | ⟨q, q48, rfl⟩
  · rw [sp_0 hk hs hop q, ft_of (ft_ANY _ hs _ h6) M, bd_some]
    cases hm : mf (oz 4095 (k / 64 % 4)) (k % 64)
    · rw [cmb_run hk hs how 4095 hm, if_neg (show ¬ zI (!false) = 0 by decide), hop, o_63 hk]
      obtain ⟨w, B1, M1, a1, a2, a3, a4, a5, a6, ld⟩ := sim_ll (k % 64) (mf_61 _ h6 ((mf_oz _ hs _ h6).1 hm)) _ hs h hf
      rw [a1, bd_some, a2, bv_some]
      rcases ld with ⟨r, l1, l2, l3⟩ | ⟨a, l1, l2, l3⟩
      · rw [l1, bd_some, l2, bd_some, pX0_load_rg _ hs _ (by omega), bd_some, rk_j hw _ _ _ _ hs, bd_some, if_pos q, pX1_joined _ _ _ _ _ hs, bd_some, a3.gD _ hr, ok_sr a3]
        have ju := j_u hw (k / 64 % 4) (u_m (B1.2.2 1 (k / 512 % 8)) _ hs) (rfl : u (k / 64 % 4) r = _) (B1.1 3)
        rw [ju.1, ju.2]
        have hO := a3.fl (jSr_ok how (k / 64 % 4) (B1.2.2 1 (k / 512 % 8)) r (B1.1 3))
        rw [if_pos hO.2.2.2.2.2.2.2.1, pX0_store_rg _ hs _ (by omega), pX7_joined _ _ _ _ hs, bd_some]
        refine Hd.fin rfl rfl (Or.inl ?_)
        rw [jo_c _ _ _ _ hs rfl]
        have e1 : (sI M1 2 (jSr how (k / 64 % 4) (B1.2.2 1 (k / 512 % 8)) r (B1.1 3))).2.2 1 (k / 512 % 8) = B1.2.2 1 (k / 512 % 8) := a3.gD _ hr
        rw [e1]
        exact hO.sD _ hr _
      · rw [l1, bd_some, l2, bd_some, pX0_load_rg _ hs _ (by omega), bd_some, rk_j hw _ _ _ _ hs, bd_some, if_pos q, pX1_joined _ _ _ _ _ hs, bd_some, pX0_store_rg _ hs _ (by omega)]
        rw [if_neg (l3.sr 0 _).ne]
        exact Hd.fin rfl rfl (Or.inr ((l3.sr _ _).B_ _ _))
    · rw [cmb_ill hk hs how 4095 hm, if_pos (show zI (!true) = 0 from rfl)]
      exact Hd.ill h hf rfl rfl
  · have hz := (oz_c _ hs).2.1
    rw [sp_1 hk hs hop q q48, ft_of (ft_MEMA _ hs _ h6) M, bd_some]
    cases hm : mf 508 (k % 64)
    · rw [cmb_run hk hs how 508 (by rw [hz]; exact hm), if_neg (show ¬ zI (!false) = 0 by decide), hop, o_63 hk]
      obtain ⟨w, B1, M1, a1, a2, a3, a4, a5, a6, ld⟩ := sim_ll (k % 64) (mf_61' (Or.inr (Or.inl rfl)) h6 hm) _ hs h hf
      have hsrt : M1.1 12 = 0 ∨ M1.1 12 = 2 := by rw [a6]; exact sort_DA _ h6 ((mf_sub _ h6).2.1 hm)
      rw [a1, bd_some, a2, bv_some]
      rcases ld with ⟨r, l1, l2, l3⟩ | ⟨a, l1, l2, l3⟩
      · rw [l1, bd_some, l2, bd_some, pX0_load_rg _ hs _ (by omega), bd_some, rk_j hw _ _ _ _ hs, bd_some, if_neg q, pX1_joined _ _ _ _ _ hs, bd_some, a3.gD _ hr, ok_sr a3]
        have ju := j_u hw (k / 64 % 4) (rfl : u (k / 64 % 4) r = _) (u_m (B1.2.2 1 (k / 512 % 8)) _ hs) (B1.1 3)
        rw [ju.1, ju.2]
        obtain ⟨B', M', s1, s2, s3⟩ := fin_store _ hs w _ _ _ a3 a4 a5 hsrt (jSr_ok how (k / 64 % 4) r (B1.2.2 1 (k / 512 % 8)) (B1.1 3)) rfl
        exact Hd.fin s1 (by rw [s2, bv_some]) s3
      · rw [l1, bd_some, l2, bd_some, pX0_load_rg _ hs _ (by omega), bd_some, rk_j hw _ _ _ _ hs, bd_some, if_neg q, pX1_joined _ _ _ _ _ hs, bd_some]
        obtain ⟨B', M', s1, s2, s3⟩ := trb_store _ hs w _ _ _ (l3.sr _ _)
        exact Hd.fin s1 (by rw [s2, bv_some]) (Or.inr s3)
    · rw [cmb_ill hk hs how 508 (by rw [hz]; exact hm), if_pos (show zI (!true) = 0 from rfl)]
      exact Hd.ill h hf rfl rfl
end H4
