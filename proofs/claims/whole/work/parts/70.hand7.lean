/-! ===== pairs with X ===== -/
def pm (k : Nat) : Nat := if k / 8 % 2 = 0 then 0 else 32
theorem pm_or (k y : Nat) (hy : y < 8) : (if k / 8 % 2 = 0 then (0 : Int32) else 32) ||| nI y = nI (pm k + y) := by
  unfold pm
  by_cases q : k / 8 % 2 = 0
  · rw [if_pos q, if_pos q]; exact or_0 y hy
  · rw [if_neg q, if_neg q]; exact or_32 y hy
theorem pm_lt (k y : Nat) (hy : y < 8) : pm k + y < 61 := by unfold pm; split <;> omega
theorem pm_s (k y : Nat) (hy : y < 8) : sortOf (pm k + y) = 0 ∨ sortOf (pm k + y) = 2 := by
  have : ∀ y, y < 8 → (sortOf (0 + y) = 0 ∨ sortOf (0 + y) = 2) ∧ (sortOf (32 + y) = 0 ∨ sortOf (32 + y) = 2) := by decide
  unfold pm
  split
  · exact (this y hy).1
  · exact (this y hy).2
section H7
variable {c0 : CB} {d0 : CM} {m0 : Nat → Int32} {B M : St}
theorem f_pairMode {k : Nat} (hk : k < 65536) (S : St) : fX2_pairMode (nI k) S = some (if k / 8 % 2 = 0 then 0 else 32, S) := by
  unfold fX2_pairMode
  by_cases q : k / 8 % 2 = 0
  · rw [if_pos ((b3' hk).mpr q), if_pos q]
  · rw [if_neg (fun z => q ((b3' hk).mp z)), if_neg q]
theorem px_B {k : Nat} (hk : k < 65536) (hs : k / 64 % 4 < 3) (how : Int32) (B : St) : fX2_pairWithX (nI k) how B = (bd (fX0_locate (k / 64 % 4) (nI (pm k + k % 8)) B) fun w1 S5 => (bd (fX0_load (k / 64 % 4) w1 S5) fun r4 S6 => (bd (fX0_locate (k / 64 % 4) (nI (pm k + k / 512 % 8)) S6) fun w2 S9 => (bd (fX0_load (k / 64 % 4) w2 S9) fun r7 S10 => (bd (fX1_joinedWithX how (k / 64 % 4) r7 r4 S10) fun r8 S11 => (fX0_store (k / 64 % 4) w2 r8 S11)))))) := by
  unfold fX2_pairWithX
  rw [f_sizeBits hk, bd_some, f_of _ _ hs, bd_some, gd_t hs, f_pairMode hk, bd_some, f_lower hk, bd_some, pm_or k _ (by omega)]
  refine bd_c (fun w1 S4 => ?_)
  refine bd_c (fun r3 S5 => ?_)
  rw [f_pairMode hk, bd_some, f_upper hk, bd_some, pm_or k _ (by omega)]
  refine bd_c (fun w2 S7 => ?_)
  refine bd_c (fun r5 S8 => ?_)
  refine bd_c (fun r8 S11 => ?_)
  rw [q_bv]
theorem m_pair {k : Nat} (hk : k < 65536) (n : Int32) (hop : M.1 5 = nI k) : fX7_pair n M = (bv (fX7_operand (nI (pm k + k % 8)) n M) fun S1 => (bd (fX7_take n S1) fun r1 S2 => (bv (fX7_operand ((if k / 8 % 2 = 0 then (0 : Int32) else 32) ||| (((S2.1 5) >>> ((9 : Int32) &&& 31)) &&& 7)) n S2) fun S3 => (some (r1, S3))))) := by
  unfold fX7_pair
  rw [hop, o_7 hk, jn_d]
  by_cases q : k / 8 % 2 = 0
  · rw [if_pos ((b3' hk).mpr q)]
    have := pm_or k (k % 8) (by omega)
    rw [if_pos q] at this
    simp only [if_pos q]
    rw [this]
  · rw [if_neg (fun z => q ((b3' hk).mp z))]
    have := pm_or k (k % 8) (by omega)
    rw [if_neg q] at this
    simp only [if_neg q]
    rw [this]
theorem sp_x {k : Nat} (hk : k < 65536) (hs : k / 64 % 4 < 3) (hop : M.1 5 = nI k) (q : ¬ k / 256 % 2 = 0) (q48 : nI k &&& 48 = 0) (less : Bool) : fX7_sumPair less M = (bd (fX7_pair (szB (k / 64 % 4)) M) fun r10 S20 => (bd (fX7_take (szB (k / 64 % 4)) S20) fun r11 S21 => (bd (fX7_x S21) fun r12 S22 => (bd (fX7_reckon r11 r10 r12 less (szB (k / 64 % 4)) true true S22) fun r13 S23 => (bv (fX7_give r13 (szB (k / 64 % 4)) S23) fun S24 => (some (true, S24))))))) := by
  unfold fX7_sumPair
  simp only [lt, jn, hop, o_6 hk, o_9 hk, o_63 hk, nI3 hs, n256 hk q, eq_true q48, zt, if_true, if_false, m_sizeOf M _ hs, bd_some]
theorem rk_jx {how : Int32} {less : Bool} (h : lsR how less) (a b : Int32) (m : Nat) (hm : m < 2) (M : St) : ∀ e, e < 3 → fX7_reckon a b (nI m) less (szB e) true true M = some (jxVal how e a b m, sI M 2 (jxSr how e a b m (M.1 2))) := by
  intro e he
  rcases h with ⟨rfl, rfl⟩ | ⟨rfl, rfl⟩
  · rw [pX7_reckonD a b m hm true true M e he]; unfold jxVal jxSr; rw [if_pos rfl, if_pos rfl]; rfl
  · rw [pX7_reckonA a b m hm true true M e he]; unfold jxVal jxSr; rw [if_neg (by decide), if_neg (by decide)]; rfl
theorem pair_x {k : Nat} (hk : k < 65536) (hs : k / 64 % 4 < 3) (hop : M.1 5 = nI k) (q : ¬ k / 256 % 2 = 0) (q48 : nI k &&& 48 = 0) (h : Ok c0 d0 B M) (hf : Fr m0 B M) {how : Int32} {less : Bool} (hw : lsR how less) : Hd c0 d0 m0 (fX2_pairWithX (nI k) how B) (fX7_sumPair less M) := by
  have hr : k / 512 % 8 < 8 := by omega
  rw [px_B hk hs, sp_x hk hs hop q q48, m_pair hk _ hop]
  obtain ⟨w1, B1, x, B2, w2, B3, y, B4, M1, x', M2, M3, y', M4, a1, a2, a3, a4, b1, b2, b3, b4, b5, b6, fin⟩ := sim_pair (pm k + k % 8) (pm k + k / 512 % 8) (pm_lt k _ (by omega)) (pm_lt k _ hr) _ hs h hf
  rw [a1, bd_some, a2, bd_some, a3, bd_some, a4, bd_some, b1, bv_some, b2, bd_some, b3, hop, o_9 hk, pm_or k _ hr, b4, bv_some, bd_some, b5, bd_some, pX7_x, bd_some, rk_jx hw _ _ _ (xN_lt _) _ _ hs, bd_some, pX1_joinedWithX _ _ _ _ _ hs, bd_some]
  rcases fin with ⟨rfl, rfl, rfl, rfl, hO, hF, hP, hS⟩ | hT
  · rw [ok_sr hO]
    obtain ⟨B', M', s1, s2, s3⟩ := fin_store _ hs w2 _ _ _ hO hF hP (by rw [hS]; exact pm_s k _ hr) (jxSr_ok how (k / 64 % 4) y x (xN (B4.1 3)) (B4.1 3)) rfl
    exact Hd.fin s1 (by rw [s2, bv_some]) s3
  · obtain ⟨B', M', s1, s2, s3⟩ := trb_store _ hs w2 _ _ _ (hT.sr _ _)
    exact Hd.fin s1 (by rw [s2, bv_some]) (Or.inr s3)
end H7
