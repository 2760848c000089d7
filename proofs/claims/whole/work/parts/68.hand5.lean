/-! ===== address registers: sum, difference, comparing; pairs with X; comparing ===== -/
section H5
variable {c0 : CB} {d0 : CM} {m0 : Nat → Int32} {B M : St}
theorem Tr.AA (h : Tr c0 d0 m0 B M) (j k : Nat) (v v' : Int32) : Tr c0 d0 m0 (sA B 1 j v) (mA' M k v') := by
  obtain ⟨nn, o, m1, hn, hm, hB, hM⟩ := h
  exact ⟨nn, o, m1, hn, hm, hB.A j v, hM.A k v'⟩
def eT (k : Nat) : Nat := if k / 256 % 2 = 0 then 1 else 2
theorem eT_lt (k : Nat) : eT k < 3 := by unfold eT; split <;> decide
theorem oz_eT (k : Nat) : oz 4095 (eT k) = 4095 := by unfold eT; split <;> rfl
theorem aw_ill {k : Nat} (hk : k < 65536) (how : Int32) (hm : mf 4095 (k % 64) = true) (B : St) : fX2_addressWork (nI k) how B = some (rs B 4) := by
  unfold fX2_addressWork
  rw [f_operand hk, bd_some, pX2_misfits _ _ (by omega), bd_some, hm, if_neg (show ¬ zI true = 0 by decide), if_pos rfl]
theorem aw_run {k : Nat} (hk : k < 65536) (how : Int32) (hm : mf 4095 (k % 64) = false) (B : St) : fX2_addressWork (nI k) how B = (bd (fX0_locate (eT k) (nI (k % 64)) B) fun w1 S5 => (bd (fX0_load (eT k) w1 S5) fun r3 S6 => (if how = 6 then (fX1_compare 2 (S6.2.2 1 (8 + k / 512 % 8)) (ext (eT k) r3) S6) else some (sA S6 1 (8 + k / 512 % 8) (S6.2.2 1 (8 + k / 512 % 8) + (if how = 2 then -(ext (eT k) r3) else ext (eT k) r3)))))) := by
  have he := eT_lt k
  have hr : k / 512 % 8 < 8 := by omega
  unfold fX2_addressWork
  rw [f_operand hk, bd_some, pX2_misfits _ _ (by omega), bd_some, hm, if_pos (show zI false = 0 from rfl), if_neg (show ¬ (false = true) by decide), f_isTo hk, bd_some, jn_d]
  have key : ∀ e1, e1 = eT k → (gd (e1 < 3) (bd (fX2_operand (nI k) B) fun r2 S4 => (bd (fX0_locate e1 r2 S4) fun w1 S5 => (bd (fX0_load e1 w1 S5) fun r3 S6 => (bd (fX5_extend e1 r3 S6) fun r4 S7 => (bd (fX2_upper (nI k) S7) fun r5 S8 => (lt ((8 + r5) : Int32) fun v1 => (if how = 6 then (bd (fX4_get v1 S8) fun r7 S11 => (bv (fX1_compare 2 r7 r4 S11) fun S12 => (some S12))) else (bd (fX4_get v1 S8) fun r6 S9 => (jn (fun (v2 : Int32) => (bv (fX4_set v1 (r6 + v2) S9) fun S10 => (some S10))) fun K2 => (if how = 2 then (K2 (-r4)) else (K2 r4))))))))))) : Option St) = (bd (fX0_locate (eT k) (nI (k % 64)) B) fun w1 S5 => (bd (fX0_load (eT k) w1 S5) fun r3 S6 => (if how = 6 then (fX1_compare 2 (S6.2.2 1 (8 + k / 512 % 8)) (ext (eT k) r3) S6) else some (sA S6 1 (8 + k / 512 % 8) (S6.2.2 1 (8 + k / 512 % 8) + (if how = 2 then -(ext (eT k) r3) else ext (eT k) r3)))))) := by
    intro e1 h1
    rw [h1, gd_t he, f_operand hk, bd_some]
    refine bd_c (fun w1 S5 => ?_)
    refine bd_c (fun r3 S6 => ?_)
    rw [pX5_extend _ _ _ he, bd_some, f_upper hk, bd_some, lt_d, pX4_get, bd_some, bd_some, r4_8 _ hr, q_bv, jn_d]
    by_cases q6 : how = 6
    · rw [if_pos q6, if_pos q6]
    · rw [if_neg q6, if_neg q6]
      by_cases q2 : how = 2
      · rw [if_pos q2, if_pos q2]
        dsimp only
        rw [pX4_set, bv_some, r4_8 _ hr]
      · rw [if_neg q2, if_neg q2]
        dsimp only
        rw [pX4_set, bv_some, r4_8 _ hr]
  by_cases q : k / 256 % 2 = 0
  · rw [decide_eq_true q, if_pos (show zI (!true) = 0 from rfl)]
    exact key 1 (by unfold eT; rw [if_pos q])
  · rw [decide_eq_false q, if_neg (show ¬ zI (!false) = 0 by decide)]
    exact key 2 (by unfold eT; rw [if_neg q])
theorem nI33 {k : Nat} (h : k / 64 % 4 = 3) : (nI (k / 64 % 4) = 3) = True := eq_true (by rw [h]; rfl)
theorem szT_1 {k : Nat} (q : k / 256 % 2 = 0) : szB (eT k) = 2 := by unfold eT; rw [if_pos q]; rfl
theorem szT_2 {k : Nat} (q : ¬ k / 256 % 2 = 0) : szB (eT k) = 4 := by unfold eT; rw [if_neg q]; rfl
theorem sp_3 {k : Nat} (hk : k < 65536) (hs : k / 64 % 4 = 3) (hop : M.1 5 = nI k) (less : Bool) : fX7_sumPair less M = (bd (fX7_fits (nI (k % 64)) 0 (szB (eT k)) M) fun b4 S25 => (if (zI b4) = 0 then (some (false, S25)) else (bv (fX7_operand ((S25.1 5) &&& 63) (szB (eT k)) S25) fun S26 => (bd (fX7_take (szB (eT k)) S26) fun r14 S27 => (bd (fX7_extended r14 (szB (eT k)) S27) fun r15 S28 => (bd (fX7_getA (nI (k / 512 % 8)) S28) fun r16 S31 => (bv (fX7_setA (nI (k / 512 % 8)) (if less = true then r16 - r15 else r16 + r15) S31) fun S30 => (some (true, S30))))))))) := by
  unfold fX7_sumPair
  by_cases q : k / 256 % 2 = 0
  · rw [szT_1 q]
    cases less
    · simp only [lt, jn, hop, o_6 hk, o_9 hk, o_63 hk, nI33 hs, e256 hk q, zf, if_true, if_neg (show ¬ false = true by decide)]
    · simp only [lt, jn, hop, o_6 hk, o_9 hk, o_63 hk, nI33 hs, e256 hk q, zf, zt, if_true, if_false]
  · rw [szT_2 q]
    cases less
    · simp only [lt, jn, hop, o_6 hk, o_9 hk, o_63 hk, nI33 hs, n256 hk q, zf, zt, if_true, if_false, if_neg (show ¬ false = true by decide)]
    · simp only [lt, jn, hop, o_6 hk, o_9 hk, o_63 hk, nI33 hs, n256 hk q, zf, zt, if_true, if_false]
theorem Tr.mM (h : Tr c0 d0 m0 B M) (r : Nat) (hr : r < 8) : ∃ x, fX7_getA (nI r) M = some (x, M) := ⟨_, pX7_getA M r hr⟩
theorem adr_sum {k : Nat} (hk : k < 65536) (hs : k / 64 % 4 = 3) (hop : M.1 5 = nI k) (h : Ok c0 d0 B M) (hf : Fr m0 B M) {how : Int32} {less : Bool} (hw : lsR how less) : Hd c0 d0 m0 (fX2_addressWork (nI k) how B) (fX7_sumPair less M) := by
  have h6 : k % 64 < 64 := by omega
  have hr : k / 512 % 8 < 8 := by omega
  have he := eT_lt k
  have n6 : ¬ how = 6 := by rcases hw with ⟨rfl, -⟩ | ⟨rfl, -⟩ <;> decide
  rw [sp_3 hk hs hop, ft_of (ft_ANY _ he _ h6) M, oz_eT, bd_some]
  cases hm : mf 4095 (k % 64)
  · rw [aw_run hk how hm, if_neg (show ¬ zI (!false) = 0 by decide), hop, o_63 hk]
    obtain ⟨w, B1, M1, a1, a2, a3, a4, a5, a6, ld⟩ := sim_ll (k % 64) (mf_61 _ h6 hm) _ he h hf
    rw [a1, bd_some, a2, bv_some]
    rcases ld with ⟨r, l1, l2, l3⟩ | ⟨a, l1, l2, l3⟩
    · rw [l1, bd_some, l2, bd_some, if_neg n6, pX7_extended _ _ _ he, bd_some, a3.gA _ hr, bd_some]
      have hv : B1.2.2 1 (8 + k / 512 % 8) + (if how = 2 then -(ext (eT k) r) else ext (eT k) r) = (if less = true then B1.2.2 1 (8 + k / 512 % 8) - ext (eT k) r else B1.2.2 1 (8 + k / 512 % 8) + ext (eT k) r) := by
        rcases hw with ⟨rfl, rfl⟩ | ⟨rfl, rfl⟩
        · rw [if_pos rfl, if_pos rfl, Int32.sub_eq_add_neg]
        · rw [if_neg (by decide), if_neg (by decide)]
      rw [hv]
      obtain ⟨q1, q2⟩ := a3.sA_ _ hr (if less = true then B1.2.2 1 (8 + k / 512 % 8) - ext (eT k) r else B1.2.2 1 (8 + k / 512 % 8) + ext (eT k) r)
      rw [q1, bv_some]
      exact Hd.fin rfl rfl (Or.inl q2)
    · rw [l1, bd_some, l2, bd_some, if_neg n6, pX7_extended _ _ _ he, bd_some, pX7_getA _ _ hr, bd_some, pX7_setA _ _ _ hr, bv_some]
      exact Hd.fin rfl rfl (Or.inr (l3.AA _ _ _ _))
  · rw [aw_ill hk how hm, if_pos (show zI (!true) = 0 from rfl)]
    exact Hd.ill h hf rfl rfl
theorem dS_ok (e : Nat) (a b : Int32) (m : Nat) (sr : Int32) (x z : Bool) : fOK sr (dS e a b m sr x z) := rk_ok ..
theorem v3le {k : Nat} (h : k / 64 % 4 = 3) : (3 ≤ nI (k / 64 % 4)) = True := eq_true (by rw [h]; decide)
theorem v3lt : ∀ s, s < 3 → (3 ≤ nI s) = False := by
  intro s hs
  refine eq_false ?_
  revert s
  decide
theorem g11_3 {k : Nat} (hk : k < 65536) (hs : k / 64 % 4 = 3) (hop : M.1 5 = nI k) : fX7_group11 M = (bd (fX7_fits (nI (k % 64)) 0 (szB (eT k)) M) fun b4 S25 => (if (zI b4) = 0 then (some (false, S25)) else (bv (fX7_operand ((S25.1 5) &&& 63) (szB (eT k)) S25) fun S26 => (bd (fX7_take (szB (eT k)) S26) fun r14 S27 => (bd (fX7_getA (nI (k / 512 % 8)) S27) fun r16 S31 => (bd (fX7_extended r14 (szB (eT k)) S31) fun r15 S28 => (bv (fX7_compare r16 r15 4 S28) fun S30 => (some (true, S30))))))))) := by
  unfold fX7_group11
  by_cases q : k / 256 % 2 = 0
  · rw [szT_1 q]
    simp only [lt, jn, hop, o_6 hk, o_9 hk, o_63 hk, nI33 hs, v3le hs, e256 hk q, zf, if_true]
  · rw [szT_2 q]
    simp only [lt, jn, hop, o_6 hk, o_9 hk, o_63 hk, nI33 hs, v3le hs, n256 hk q, zt, if_true, if_false]
theorem adr_cmp {k : Nat} (hk : k < 65536) (hs : k / 64 % 4 = 3) (hop : M.1 5 = nI k) (h : Ok c0 d0 B M) (hf : Fr m0 B M) : Hd c0 d0 m0 (fX2_addressWork (nI k) 6 B) (fX7_group11 M) := by
  have h6 : k % 64 < 64 := by omega
  have hr : k / 512 % 8 < 8 := by omega
  have he := eT_lt k
  rw [g11_3 hk hs hop, ft_of (ft_ANY _ he _ h6) M, oz_eT, bd_some]
  cases hm : mf 4095 (k % 64)
  · rw [aw_run hk 6 hm, if_neg (show ¬ zI (!false) = 0 by decide), hop, o_63 hk]
    obtain ⟨w, B1, M1, a1, a2, a3, a4, a5, a6, ld⟩ := sim_ll (k % 64) (mf_61 _ h6 hm) _ he h hf
    rw [a1, bd_some, a2, bv_some]
    rcases ld with ⟨r, l1, l2, l3⟩ | ⟨a, l1, l2, l3⟩
    · rw [l1, bd_some, l2, bd_some, if_pos rfl, a3.gA _ hr, bd_some, pX7_extended _ _ _ he, bd_some, pX1_compare _ _ _ 2 (by decide), ← szB2, pX7_compare _ _ _ 2 (by decide), bv_some, ok_sr a3]
      exact Hd.fin rfl rfl (Or.inl (a3.fl (dS_ok ..)))
    · rw [l1, bd_some, l2, bd_some, if_pos rfl, pX7_getA _ _ hr, bd_some, pX7_extended _ _ _ he, bd_some, pX1_compare _ _ _ 2 (by decide), ← szB2, pX7_compare _ _ _ 2 (by decide), bv_some]
      exact Hd.fin rfl rfl (Or.inr (l3.sr _ _))
  · rw [aw_ill hk 6 hm, if_pos (show zI (!true) = 0 from rfl)]
    exact Hd.ill h hf rfl rfl
end H5
