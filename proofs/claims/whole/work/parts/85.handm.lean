/-! ===== line 14 ===== -/
section HM
variable {c0 : CB} {d0 : CM} {m0 : Nat → Int32} {B M : St}
theorem b11 {k : Nat} (hk : k < 65536) : nI k &&& 2048 = 0 ↔ k / 2048 % 2 = 0 := bitk k hk 11 2048 (by decide) (by decide +kernel)
theorem b5' {k : Nat} (hk : k < 65536) : nI k &&& 32 = 0 ↔ k / 32 % 2 = 0 := bitk k hk 5 32 (by decide) (by decide +kernel)
theorem u_93 {k : Nat} (hk : k < 65536) : (ush (nI k) 9) &&& 3 = nI (k / 512 % 4) := by
  rw [ush_n hk 9 (by decide) 9 (by decide), pk_andN (by omega) (m := 3) 2 (by decide)]
theorem o_93 {k : Nat} (hk : k < 65536) : (nI k >>> ((9 : Int32) &&& 31)) &&& 3 = nI (k / 512 % 4) := by
  rw [pk_shrN (by omega) ((9 : Int32) &&& 31) 9 (by decide), pk_andN (by omega) (m := 3) 2 (by decide)]
theorem u_33 {k : Nat} (hk : k < 65536) : (ush (nI k) 3) &&& 3 = nI (k / 8 % 4) := by
  rw [ush_n hk 3 (by decide) 3 (by decide), pk_andN (by omega) (m := 3) 2 (by decide)]
theorem o_33 {k : Nat} (hk : k < 65536) : (nI k >>> ((3 : Int32) &&& 31)) &&& 3 = nI (k / 8 % 4) := by
  rw [pk_shrN (by omega) ((3 : Int32) &&& 31) 3 (by decide), pk_andN (by omega) (m := 3) 2 (by decide)]
theorem MA6 {k6 : Nat} (hk : k6 < 64) (h : mf 508 k6 = false) : k6 < 61 := mf_61' (Or.inr (Or.inl rfl)) hk h
/-- how often -/
def tms (k : Nat) (B : St) : Nat := if k / 32 % 2 = 0 then (if k / 512 % 8 = 0 then 8 else k / 512 % 8) else (B.2.2 1 (k / 512 % 8)).toBitVec.toNat % 64
theorem tms_le (k : Nat) (B : St) : tms k B ≤ 63 := by
  unfold tms
  split
  · split <;> omega
  · omega
theorem pX2_times {k : Nat} (hk : k < 65536) (B : St) : fX2_times (nI k) B = some (nI (tms k B), B) := by
  have hu : k / 512 % 8 < 8 := by omega
  unfold fX2_times tms
  by_cases q : k / 32 % 2 = 0
  · rw [if_pos ((b5' hk).mpr q), if_pos q, f_upper hk, bd_some]
    by_cases q0 : k / 512 % 8 = 0
    · rw [q0, if_pos (show nI 0 = 0 from rfl), if_pos rfl]; rfl
    · rw [if_neg (show ¬ nI (k / 512 % 8) = 0 from nI_ne (b := 0) (by omega) (by decide) q0), if_neg q0, f_upper hk, bd_some]
  · rw [if_neg (fun z => q ((b5' hk).mp z)), if_neg q, f_upper hk, bd_some, pX4_get, bd_some, k7 _ hu, pk_and (B.2.2 1 (k / 512 % 8)) (m := 63) 6 (by decide)]
theorem isl {k : Nat} (hk : k < 65536) : (!decide (k / 256 % 2 = 0)) = !decide (nI k &&& 256 = 0) := by
  by_cases q : k / 256 % 2 = 0
  · rw [decide_eq_true q, decide_eq_true ((b8 hk).mpr q)]
  · rw [decide_eq_false q, decide_eq_false (fun z => q ((b8 hk).mp z))]
theorem line14 {k : Nat} (hk : k < 65536) (hop : M.1 5 = nI k) (h : Ok c0 d0 B M) (hf : Fr m0 B M) : Hd c0 d0 m0 (fX2_shift (nI k) B) (fX7_group14 M) := by
  have h6 : k % 64 < 64 := by omega
  have hy : k % 8 < 8 := by omega
  have hu : k / 512 % 8 < 8 := by omega
  unfold fX2_shift fX7_group14
  rw [f_isTo hk, bd_some, f_sizeBits hk, bd_some, lt_d, hop, o_6 hk, jV (isl hk)]
  by_cases s3 : k / 64 % 4 = 3
  · rw [s3, if_pos (show nI 3 = 3 from rfl), if_pos (show nI 3 = 3 from rfl)]
    by_cases q : k / 2048 % 2 = 0
    · have hft := ft_MEMA 1 (by decide) (k % 64) h6
      rw [szB1] at hft
      rw [if_pos ((b11 hk).mpr q), if_pos ((b11 hk).mpr q), f_operand hk, bd_some, pX2_misfits _ _ h6, bd_some, o_63 hk, ft_of hft, bd_some]
      cases hm : mf 508 (k % 64)
      · rw [if_pos zI_f, if_neg (show ¬ zI (!false) = 0 by decide), if_neg (show ¬ (false = true) by decide), f_operand hk, bd_some, hop, o_63 hk, u_93 hk]
        refine Hd.rd (e := 1) (MA6 h6 hm) (by decide) h hf ?_ ?_
        · intro w r B1 M1 hO hF hP hS hp hr
          obtain ⟨v', s', p1, p2, p3, p4⟩ := sh_both 1 (by decide) (k / 512 % 4) (by omega) (!decide (k / 256 % 2 = 0)) 1 (by decide) r B1 M1 (ok_sr hO)
          rw [szB1] at p2
          have p1' : fX1_shifted 1 r 1 (nI (k / 512 % 4)) (!decide (k / 256 % 2 = 0)) B1 = _ := p1
          have p2' : fX7_shifted r 2 (nI (k / 512 % 4)) (!decide (k / 256 % 2 = 0)) 1 M1 = _ := p2
          rw [p1', bd_some, hp, hop, o_93 hk, p2', bd_some, q_bv]
          exact Hd.st (e := 1) (by decide) hO hF hP (by rw [hS]; exact sort_DA _ h6 ((mf_sub _ h6).2.1 hm)) p3 rfl
        · intro w B1 M1 hT hp
          obtain ⟨v1, s1, p1, -⟩ := sh_both 1 (by decide) (k / 512 % 4) (by omega) (!decide (k / 256 % 2 = 0)) 1 (by decide) 0 B1 (sI M1 2 (B1.1 3)) (sI_at _ _ _)
          obtain ⟨v2, s2, -, p2, -⟩ := sh_both 1 (by decide) (k / 512 % 4) (by omega) (!decide (k / 256 % 2 = 0)) 1 (by decide) 0 (sI B1 3 (M1.1 2)) M1 (sI_at _ _ _).symm
          rw [szB1] at p2
          have p1' : fX1_shifted 1 0 1 (nI (k / 512 % 4)) (!decide (k / 256 % 2 = 0)) B1 = _ := p1
          have p2' : fX7_shifted 0 2 (nI (k / 512 % 4)) (!decide (k / 256 % 2 = 0)) 1 M1 = _ := p2
          rw [p1', bd_some, hp, hop, o_93 hk, p2', bd_some, q_bv]
          exact Hd.stT (e := 1) (by decide) (hT.sr _ _)
      · rw [if_neg (show ¬ zI true = 0 by decide), if_pos (show zI (!true) = 0 from rfl), if_pos rfl]
        exact Hd.ill h hf rfl rfl
    · rw [if_neg (fun z => q ((b11 hk).mp z)), if_neg (fun z => q ((b11 hk).mp z)), pX2_illegal, bv_some]
      exact Hd.ill h hf rfl rfl
  · have hs : k / 64 % 4 < 3 := by omega
    rw [if_neg (show ¬ nI (k / 64 % 4) = 3 from nI_ne (b := 3) (by omega) (by decide) s3), if_neg (show ¬ nI (k / 64 % 4) = 3 from nI_ne (b := 3) (by omega) (by decide) s3), f_sizeBits hk, bd_some, f_of _ _ hs, bd_some, gd_t hs, f_lower hk, bd_some, pX0_inRegister, bd_some, pX0_load_rg _ hs _ (by omega), bd_some, pX2_times hk, bd_some, u_33 hk, m_sizeOf M _ hs, bd_some, lt_d, hop, o_9 hk, o_7 hk, o_33 hk]
    have hK : ∀ {α : Type} (K : Int32 → Option α), (jn K fun K2 => (if (nI k &&& 32) = 0 then (if nI (k / 512 % 8) = 0 then (K2 8)
    else (K2 (nI (k / 512 % 8))))
    else (gd (ixo (nI (k / 512 % 8)) 8 = true) (K2 ((M.2.2 1 (nI (k / 512 % 8)).toNatClampNeg) &&& 63))))) = K (nI (tms k B)) := by
      intro α K
      rw [jn_d]
      unfold tms
      by_cases q : k / 32 % 2 = 0
      · rw [if_pos ((b5' hk).mpr q), if_pos q]
        by_cases q0 : k / 512 % 8 = 0
        · rw [q0, if_pos (show nI 0 = 0 from rfl), if_pos rfl]; rfl
        · rw [if_neg (show ¬ nI (k / 512 % 8) = 0 from nI_ne (b := 0) (by omega) (by decide) q0), if_neg q0]
      · rw [if_neg (fun z => q ((b5' hk).mp z)), if_neg q, gd_t (ix8 hu), cl8 hu, h.gD _ hu, pk_and (B.2.2 1 (k / 512 % 8)) (m := 63) 6 (by decide)]
    rw [hK, lt_d, gd_t (ix8 hy), gd_t (ix8 hy), cl8 hy, h.gD _ hy]
    obtain ⟨v', s', p1, p2, p3, p4⟩ := sh_both _ hs (k / 8 % 4) (by omega) (!decide (k / 256 % 2 = 0)) (tms k B) (tms_le k B) (B.2.2 1 (k % 8)) B M (ok_sr h)
    have hmk : fX1_shifted (k / 64 % 4) (B.2.2 1 (k % 8) &&& szM (k / 64 % 4)) (nI (tms k B)) (nI (k / 8 % 4)) (!decide (k / 256 % 2 = 0)) B = fX1_shifted (k / 64 % 4) (B.2.2 1 (k % 8)) (nI (tms k B)) (nI (k / 8 % 4)) (!decide (k / 256 % 2 = 0)) B := by
      unfold fX1_shifted
      rw [mask_mask _ _ hs]
    rw [hmk, p1, bd_some, p2, bd_some, q_bv, pX7_joined _ _ _ _ hs, bd_some, gd_t (ix8 hy), lt_d, pX0_store_rg _ hs _ (by omega)]
    refine Hd.fin rfl rfl (Or.inl ?_)
    have e1 : (sI B 3 s').2.2 1 (k % 8) = B.2.2 1 (k % 8) := rfl
    rw [e1, jo_c _ _ _ _ hs rfl]
    exact (h.fl p3).sD _ hy _
end HM
