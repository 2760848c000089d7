/-! ===== special ones ===== -/
section HG
variable {c0 : CB} {d0 : CM} {m0 : Nat → Int32} {B M : St}
theorem ix02 : ixo 0 2 = true := by decide +kernel
theorem cn0 : (0 : Int32).toNatClampNeg = 0 := by decide +kernel
theorem spc {k : Nat} (hk : k < 65536) (hs : k / 64 % 4 = 1) (hop : M.1 5 = nI k) (h : Ok c0 d0 B M) (hf : Fr m0 B M) : Hd c0 d0 m0 (fX2_special (nI k) B) (fX7_group4e M) := by
  have hy : k % 8 < 8 := by omega
  have hj : k / 8 % 8 = 0 ∨ k / 8 % 8 = 1 ∨ k / 8 % 8 = 2 ∨ k / 8 % 8 = 3 ∨ k / 8 % 8 = 4 ∨ k / 8 % 8 = 5 ∨ k / 8 % 8 = 6 ∨ k / 8 % 8 = 7 := by omega
  have n15 := n32 (k % 16) (by omega)
  unfold fX2_special fX7_group4e
  rw [f_lower hk, bd_some, lt_d, u_3 hk, lt_d, lt_d, hop, o_4 hk, o_7 hk, o_15 hk, jn_d]
  rcases hj with e | e | e | e | e | e | e | e
  · rw [e, show k / 16 % 16 = 4 by omega, if_pos ((b3' hk).mpr (by omega))]
    dsimp only
    rw [if_pos (show nI 0 = 0 from rfl), if_pos (show nI 4 = 4 from rfl), lt_d, pX0_raise, bv_some]
    exact Hd.fo h hf.2.2.2 n15.1 n15.2.1 n15.2.2
  · rw [e, show k / 16 % 16 = 4 by omega, if_neg (fun z => absurd ((b3' hk).mp z) (by omega))]
    dsimp only
    rw [if_neg (show ¬ nI 1 = 0 by decide), if_pos (show nI 1 = 1 from rfl), if_pos (show nI 4 = 4 from rfl), lt_d, pX0_raise, bv_some]
    exact Hd.fo h hf.2.2.2 n15.1 n15.2.1 n15.2.2
  · rw [e, show k / 16 % 16 = 5 by omega, if_pos ((b3' hk).mpr (by omega))]
    dsimp only
    rw [if_neg (show ¬ nI 2 = 0 by decide), if_neg (show ¬ nI 2 = 1 by decide), if_pos (show nI 2 = 2 from rfl), if_neg (show ¬ nI 5 = 4 by decide), if_pos (show nI 5 = 5 from rfl), if_pos zI_f, if_pos (show nI 5 = 5 from rfl), q_bv]
    obtain ⟨B', M', p1, p2, p3⟩ := sim_link hy h hf
    rw [p2, bv_some]
    exact Hd.fin p1 rfl p3
  · rw [e, show k / 16 % 16 = 5 by omega, if_neg (fun z => absurd ((b3' hk).mp z) (by omega))]
    dsimp only
    rw [if_neg (show ¬ nI 3 = 0 by decide), if_neg (show ¬ nI 3 = 1 by decide), if_neg (show ¬ nI 3 = 2 by decide), if_pos (show nI 3 = 3 from rfl), if_neg (show ¬ nI 5 = 4 by decide), if_pos (show nI 5 = 5 from rfl), if_neg (show ¬ zI true = 0 by decide), q_bv]
    exact unlk hy h hf
  · rw [e, show k / 16 % 16 = 6 by omega, if_pos ((b3' hk).mpr (by omega))]
    dsimp only
    rw [if_neg (show ¬ nI 4 = 0 by decide), if_neg (show ¬ nI 4 = 1 by decide), if_neg (show ¬ nI 4 = 2 by decide), if_neg (show ¬ nI 4 = 3 by decide), if_pos (show nI 4 = 4 from rfl), if_neg (show ¬ nI 6 = 4 by decide), if_neg (show ¬ nI 6 = 5 by decide), if_neg (show ¬ nI 6 = 5 by decide), if_pos (show nI 6 = 6 from rfl)]
    refine Hd.pm h hf ?_ ?_
    · intro hS
      rw [if_neg (show ¬ zI true = 0 by decide), if_pos zI_f, if_pos zI_f, if_pos h.2.2.2.2.2.2.2.1, h.gA _ hy, bd_some, gd_t ix02, lt_d, cn0, pX4_get, bd_some, r4_8 _ hy, pX4_setStackOf, bv_some, if_neg hS]
      exact Hd.ok (h.usp hS _)
    · intro B1 M1 hT
      rw [if_pos zI_f, if_neg (show ¬ zI true = 0 by decide), if_neg hT.ne]
      exact Hd.t hT
  · rw [e, show k / 16 % 16 = 6 by omega, if_neg (fun z => absurd ((b3' hk).mp z) (by omega))]
    dsimp only
    rw [if_neg (show ¬ nI 5 = 0 by decide), if_neg (show ¬ nI 5 = 1 by decide), if_neg (show ¬ nI 5 = 2 by decide), if_neg (show ¬ nI 5 = 3 by decide), if_neg (show ¬ nI 5 = 4 by decide), if_pos (show nI 5 = 5 from rfl), if_neg (show ¬ nI 6 = 4 by decide), if_neg (show ¬ nI 6 = 5 by decide), if_neg (show ¬ nI 6 = 5 by decide), if_pos (show nI 6 = 6 from rfl)]
    refine Hd.pm h hf ?_ ?_
    · intro hS
      obtain ⟨q1, q2⟩ := h.sA_ _ hy (B.2.2 1 16)
      rw [if_neg (show ¬ zI true = 0 by decide), if_pos zI_f, if_neg (show ¬ zI true = 0 by decide), gd_t ix02, cn0, h.us hS, q1, bv_some, pX4_stackOf, bd_some, if_neg hS, pX4_set, bv_some, r4_8 _ hy]
      exact Hd.ok q2
    · intro B1 M1 hT
      rw [if_pos zI_f, if_neg (show ¬ zI true = 0 by decide), if_neg hT.ne]
      exact Hd.t hT
  · rw [e, show k / 16 % 16 = 7 by omega, if_pos ((b3' hk).mpr (by omega))]
    dsimp only
    rw [if_neg (show ¬ nI 6 = 0 by decide), if_neg (show ¬ nI 6 = 1 by decide), if_neg (show ¬ nI 6 = 2 by decide), if_neg (show ¬ nI 6 = 3 by decide), if_neg (show ¬ nI 6 = 4 by decide), if_neg (show ¬ nI 6 = 5 by decide), if_pos (show nI 6 = 6 from rfl), if_neg (show ¬ nI 7 = 4 by decide), if_neg (show ¬ nI 7 = 5 by decide), if_neg (show ¬ nI 7 = 5 by decide), if_neg (show ¬ nI 7 = 6 by decide), if_pos (show nI 7 = 7 from rfl), if_pos zI_f, q_bz, f_lower hk, bd_some, q_bv]
    exact aln hy h hf
  · rw [e, show k / 16 % 16 = 7 by omega, if_neg (fun z => absurd ((b3' hk).mp z) (by omega))]
    dsimp only
    rw [if_neg (show ¬ nI 7 = 0 by decide), if_neg (show ¬ nI 7 = 1 by decide), if_neg (show ¬ nI 7 = 2 by decide), if_neg (show ¬ nI 7 = 3 by decide), if_neg (show ¬ nI 7 = 4 by decide), if_neg (show ¬ nI 7 = 5 by decide), if_neg (show ¬ nI 7 = 6 by decide), if_neg (show ¬ nI 7 = 4 by decide), if_neg (show ¬ nI 7 = 5 by decide), if_neg (show ¬ nI 7 = 5 by decide), if_neg (show ¬ nI 7 = 6 by decide), if_pos (show nI 7 = 7 from rfl), if_neg (show ¬ zI true = 0 by decide), pX2_illegal, bv_some]
    exact Hd.ill h hf rfl rfl
/-! ===== move ===== -/
theorem dst_n : ∀ m, m < 8 → ∀ r, r < 8 → (nI m <<< ((3 : Int32) &&& 31)) ||| nI r = nI (8 * m + r) := by decide +kernel
theorem o_66 {k : Nat} (hk : k < 65536) : (nI k >>> ((6 : Int32) &&& 31)) &&& 7 = nI (k / 64 % 8) := by
  rw [pk_shrN (by omega) ((6 : Int32) &&& 31) 6 (by decide), pk_andN (by omega) (m := 7) 3 (by decide)]
theorem u_66 {k : Nat} (hk : k < 65536) : (ush (nI k) 6) &&& 7 = nI (k / 64 % 8) := by
  rw [ush_n hk 6 (by decide) 6 (by decide), pk_andN (by omega) (m := 7) 3 (by decide)]
theorem o_12 {k : Nat} (hk : k < 65536) : nI k >>> ((12 : Int32) &&& 31) = nI (k / 4096) := by
  rw [pk_shrN (by omega) ((12 : Int32) &&& 31) 12 (by decide)]
theorem u_12 {k : Nat} (hk : k < 65536) : ush (nI k) 12 = nI (k / 4096) := ush_n hk 12 (by decide) 12 (by decide)
theorem mf_an : ∀ e, e < 3 → ∀ r, r < 8 → mf (oz 4095 e) (8 + r) = decide (e = 0) := by decide +kernel
def mvB (e k d : Nat) (r5 : Int32) (S9 : St) : Option St := if d / 8 = 1 then some (sA S9 1 (8 + d % 8) (ext e r5)) else (bd (fX0_locate e (nI d) S9) fun w2 S10 => (fX0_store e w2 (r5 &&& szM e) (sI S10 3 (lgS e r5 (S10.1 3)))))
theorem mv_cls {k : Nat} (hk : k < 65536) (e : Nat) (he : e < 3) (d : Nat) (hd : d = 8 * (k / 64 % 8) + k / 512 % 8) (B : St) : fX2_move (nI k) e B = (if mf (oz 4095 e) (k % 64) = true then some (rs B 4) else (if mf (if d / 8 = 1 then oz 4095 e else 509) d = true then some (rs B 4) else (bd (fX0_locate e (nI (k % 64)) B) fun w1 S8 => (bd (fX0_load e w1 S8) fun r5 S9 => (mvB e k d r5 S9))))) := by
  have h6 : k % 64 < 64 := by omega
  have hu : k / 512 % 8 < 8 := by omega
  have hd64 : d < 64 := by omega
  have hd8 : d % 8 = k / 512 % 8 := by omega
  have tail : ∀ (b1 : Bool) (v2 : Int32) (S2 : St), (b1 = true ↔ d / 8 = 1) → (v2 = if d / 8 = 1 then oz 4095 e else 509) → (bd (fX2_ofSize 4095 e S2) fun r2 S3 => (bd (fX2_operand (nI k) S3) fun r3 S4 => (bd (fX2_misfits r2 r3 S4) fun b2 S5 => (if (zI b2) = 0 then (bd (fX2_misfits v2 (nI d) S5) fun b3 S6 => (if (zI b3) = 0 then (bd (fX2_operand (nI k) S6) fun r4 S7 => (bd (fX0_locate e r4 S7) fun w1 S8 => (bd (fX0_load e w1 S8) fun r5 S9 => (if (zI b1) = 0 then (bd (fX0_locate e (nI d) S9) fun w2 S10 => (bd (fX1_logic e r5 S10) fun r6 S11 => (bv (fX0_store e w2 r6 S11) fun S12 => (some S12))))
    else (bd (fX5_extend e r5 S9) fun r7 S13 => (bv (fX4_set (8 + nI (k / 512 % 8)) r7 S13) fun S14 => (some S14)))))))
    else (some S6)))
    else (some S5))))) = (if mf (oz 4095 e) (k % 64) = true then some (rs S2 4) else (if mf (if d / 8 = 1 then oz 4095 e else 509) d = true then some (rs S2 4) else (bd (fX0_locate e (nI (k % 64)) S2) fun w1 S8 => (bd (fX0_load e w1 S8) fun r5 S9 => (mvB e k d r5 S9))))) := by
    intro b1 v2 S2 hb hv
    rw [pX2_ofSize _ _ _ he, bd_some, f_operand hk, bd_some, pX2_misfits _ _ h6, bd_some]
    cases hm : mf (oz 4095 e) (k % 64)
    · rw [if_pos zI_f, if_neg (show ¬ (false = true) by decide), if_neg (show ¬ (false = true) by decide), pX2_misfits _ _ hd64, bd_some, ← hv]
      cases hm2 : mf v2 d
      · rw [if_pos zI_f, if_neg (show ¬ (false = true) by decide), if_neg (show ¬ (false = true) by decide), f_operand hk, bd_some]
        refine bd_c (fun w1 S8 => ?_)
        refine bd_c (fun r5 S9 => ?_)
        unfold mvB
        by_cases q : d / 8 = 1
        · rw [hb.mpr q, if_neg (show ¬ zI true = 0 by decide), if_pos q, pX5_extend _ _ _ he, bd_some, pX4_set, bv_some, r4_8 _ hu, hd8]
        · have : b1 = false := by cases b1; rfl; exact absurd (hb.mp rfl) q
          rw [this, if_pos zI_f, if_neg q]
          refine bd_c (fun w2 S10 => ?_)
          rw [pX1_lg _ _ _ he, bd_some, q_bv]
      · rw [if_neg (show ¬ zI true = 0 by decide), if_pos rfl, if_pos rfl]
    · rw [if_neg (show ¬ zI true = 0 by decide), if_pos rfl, if_pos rfl]
  unfold fX2_move
  rw [gd_t he, f_upper hk, bd_some, u_66 hk, dst_n _ (by omega) _ hu, ← hd, lt_d, jn_d, (k6s d hd64).1]
  by_cases q : d / 8 = 1
  · rw [q, if_pos (show nI 1 = 1 from rfl)]
    dsimp only
    rw [jn_d, if_neg (show ¬ zI true = 0 by decide), pX2_ofSize _ _ _ he, bd_some]
    exact (tail true (oz 4095 e) B ⟨fun _ => q, fun _ => rfl⟩ (by rw [if_pos q])).trans (by rw [if_pos q, if_pos rfl])
  · rw [if_neg (show ¬ nI (d / 8) = 1 from nI_ne (b := 1) (by omega) (by decide) q)]
    dsimp only
    rw [jn_d, if_pos zI_f]
    exact tail false 509 B ⟨fun z => absurd z (by decide), fun z => absurd z q⟩ (by rw [if_neg q])
def mvM (e d : Nat) (r1 : Int32) (S3 : St) : Option (Bool × St) := if d / 8 = 1 then (bd (fX7_extended r1 (szB e) S3) fun r2 S7 => (bv (fX7_setA (nI (d % 8)) r2 S7) fun S8 => (some (true, S8)))) else (bv (fX7_operand (nI d) (szB e) S3) fun S4 => (bv (fX7_logic r1 (szB e) S4) fun S5 => (bv (fX7_give r1 (szB e) S5) fun S6 => (some (true, S6)))))
theorem szB_e1 : ∀ e, e < 3 → (szB e = 1 ↔ e = 0) := by decide
theorem mv_ref {k : Nat} (hk : k < 65536) (e : Nat) (he : e < 3) (hl : (k / 4096 = 1 ∧ e = 0) ∨ (k / 4096 = 2 ∧ e = 2) ∨ (k / 4096 = 3 ∧ e = 1)) (d : Nat) (hd : d = 8 * (k / 64 % 8) + k / 512 % 8) (hop : M.1 5 = nI k) : fX7_move M = (if mf (oz 4095 e) (k % 64) = true then some (false, M) else (if mf (if d / 8 = 1 then oz 4095 e else 509) d = true then some (false, M) else (bv (fX7_operand (nI (k % 64)) (szB e) M) fun S2 => (bd (fX7_take (szB e) S2) fun r1 S3 => (mvM e d r1 S3))))) := by
  have h6 : k % 64 < 64 := by omega
  have hu : k / 512 % 8 < 8 := by omega
  have hd64 : d < 64 := by omega
  have hd8 : d % 8 = k / 512 % 8 := by omega
  have hdd : d / 8 = k / 64 % 8 := by omega
  unfold fX7_move
  rw [hop, o_12 hk, lt_d]
  have tail : ∀ v2 : Int32, v2 = szB e → (lt (((nI k >>> ((6 : Int32) &&& 31)) &&& 7) : Int32) fun v3 => (lt (((nI k >>> ((9 : Int32) &&& 31)) &&& 7) : Int32) fun v4 => (lt (((v3 <<< ((3 : Int32) &&& 31)) ||| v4) : Int32) fun v5 => (bd (fX7_fits (nI k &&& 63) 0 v2 M) fun b1 S1 => (if (zI b1) = 0 then (some (false, S1))
    else (if v3 = 1 then (if v2 = 1 then (some (false, S1))
    else (if v3 = 1 then (bv (fX7_operand ((S1.1 5) &&& 63) v2 S1) fun S17 => (bd (fX7_take v2 S17) fun r5 S18 => (if v3 = 1 then (bd (fX7_extended r5 v2 S18) fun r6 S22 => (bv (fX7_setA v4 r6 S22) fun S23 => (some (true, S23))))
    else (bv (fX7_operand v5 v2 S18) fun S19 => (bv (fX7_logic r5 v2 S19) fun S20 => (bv (fX7_give r5 v2 S20) fun S21 => (some (true, S21))))))))
    else (bd (fX7_fits v5 4 v2 S1) fun b3 S24 => (if (zI b3) = 0 then (some (false, S24))
    else (bv (fX7_operand ((S24.1 5) &&& 63) v2 S24) fun S25 => (bd (fX7_take v2 S25) fun r7 S26 => (if v3 = 1 then (bd (fX7_extended r7 v2 S26) fun r8 S30 => (bv (fX7_setA v4 r8 S30) fun S31 => (some (true, S31))))
    else (bv (fX7_operand v5 v2 S26) fun S27 => (bv (fX7_logic r7 v2 S27) fun S28 => (bv (fX7_give r7 v2 S28) fun S29 => (some (true, S29))))))))))))
    else (if v3 = 1 then (bv (fX7_operand ((S1.1 5) &&& 63) v2 S1) fun S2 => (bd (fX7_take v2 S2) fun r1 S3 => (if v3 = 1 then (bd (fX7_extended r1 v2 S3) fun r2 S7 => (bv (fX7_setA v4 r2 S7) fun S8 => (some (true, S8))))
    else (bv (fX7_operand v5 v2 S3) fun S4 => (bv (fX7_logic r1 v2 S4) fun S5 => (bv (fX7_give r1 v2 S5) fun S6 => (some (true, S6))))))))
    else (bd (fX7_fits v5 4 v2 S1) fun b2 S9 => (if (zI b2) = 0 then (some (false, S9))
    else (bv (fX7_operand ((S9.1 5) &&& 63) v2 S9) fun S10 => (bd (fX7_take v2 S10) fun r3 S11 => (if v3 = 1 then (bd (fX7_extended r3 v2 S11) fun r4 S15 => (bv (fX7_setA v4 r4 S15) fun S16 => (some (true, S16))))
    else (bv (fX7_operand v5 v2 S11) fun S12 => (bv (fX7_logic r3 v2 S12) fun S13 => (bv (fX7_give r3 v2 S13) fun S14 => (some (true, S14))))))))))))))))) = (if mf (oz 4095 e) (k % 64) = true then some (false, M) else (if mf (if d / 8 = 1 then oz 4095 e else 509) d = true then some (false, M) else (bv (fX7_operand (nI (k % 64)) (szB e) M) fun S2 => (bd (fX7_take (szB e) S2) fun r1 S3 => (mvM e d r1 S3))))) := by
    intro v2 hv
    subst hv
    rw [lt_d, lt_d, lt_d, o_66 hk, o_9 hk, o_63 hk, dst_n _ (by omega) _ hu, ← hd, ft_of (ft_ANY _ he _ h6), bd_some, ← hdd]
    cases hm : mf (oz 4095 e) (k % 64)
    · rw [if_neg (show ¬ zI (!false) = 0 by decide), if_neg (show ¬ (false = true) by decide)]
      by_cases q : d / 8 = 1
      · have e8 : d = 8 + k / 512 % 8 := by omega
        have q1 : nI (d / 8) = 1 := by rw [q]; rfl
        rw [if_pos q1, if_pos q]
        by_cases e0 : e = 0
        · rw [if_pos ((szB_e1 e he).mpr e0), if_pos (by rw [e8, mf_an e he _ hu, decide_eq_true e0])]
        · rw [if_neg (fun z => e0 ((szB_e1 e he).mp z)), if_pos q1, if_neg (by rw [e8, mf_an e he _ hu, decide_eq_false e0]; decide), hop, o_63 hk]
          unfold mvM
          refine bv_c (fun S2 => ?_)
          refine bd_c (fun r1 S3 => ?_)
          rw [if_pos q1, if_pos q, hd8]
      · have q1 : ¬ nI (d / 8) = 1 := nI_ne (b := 1) (by omega) (by decide) q
        rw [if_neg q1, if_neg q1, if_neg q, ft_of (ft_DALT _ he _ hd64), bd_some]
        cases hm2 : mf 509 d
        · rw [if_neg (show ¬ zI (!false) = 0 by decide), if_neg (show ¬ (false = true) by decide), hop, o_63 hk]
          unfold mvM
          refine bv_c (fun S2 => ?_)
          refine bd_c (fun r1 S3 => ?_)
          rw [if_neg q1, if_neg q]
        · rw [if_pos (show zI (!true) = 0 from rfl), if_pos rfl]
    · rw [if_pos (show zI (!true) = 0 from rfl), if_pos rfl]
  rcases hl with ⟨a, b⟩ | ⟨a, b⟩ | ⟨a, b⟩
  · rw [a, jn_d, if_pos (show nI 1 = 1 from rfl)]
    exact tail 1 (by rw [b]; rfl)
  · rw [a, jn_d, if_neg (show ¬ nI 2 = 1 by decide), if_neg (show ¬ nI 2 = 3 by decide)]
    exact tail 4 (by rw [b]; rfl)
  · rw [a, jn_d, if_neg (show ¬ nI 3 = 1 by decide), if_pos (show nI 3 = 3 from rfl)]
    exact tail 2 (by rw [b]; rfl)
theorem mov {k : Nat} (hk : k < 65536) (e : Nat) (hl : (k / 4096 = 1 ∧ e = 0) ∨ (k / 4096 = 2 ∧ e = 2) ∨ (k / 4096 = 3 ∧ e = 1)) (hop : M.1 5 = nI k) (h : Ok c0 d0 B M) (hf : Fr m0 B M) : Hd c0 d0 m0 (fX2_move (nI k) e B) (fX7_move M) := by
  have he : e < 3 := by omega
  have h6 : k % 64 < 64 := by omega
  have hu : k / 512 % 8 < 8 := by omega
  obtain ⟨d, hd⟩ : ∃ d, d = 8 * (k / 64 % 8) + k / 512 % 8 := ⟨_, rfl⟩
  have hd64 : d < 64 := by omega
  have hd8 : d % 8 < 8 := by omega
  rw [mv_cls hk e he d hd, mv_ref hk e he hl d hd hop]
  cases hm : mf (oz 4095 e) (k % 64)
  · rw [if_neg (show ¬ (false = true) by decide), if_neg (show ¬ (false = true) by decide)]
    cases hm2 : mf (if d / 8 = 1 then oz 4095 e else 509) d
    · rw [if_neg (show ¬ (false = true) by decide), if_neg (show ¬ (false = true) by decide)]
      refine Hd.rd (mf_61 _ h6 ((mf_oz _ he _ h6).1 hm)) he h hf ?_ ?_
      · intro w r B1 M1 hO hF hP hS hp hr
        unfold mvB mvM
        by_cases q : d / 8 = 1
        · obtain ⟨q1, q2⟩ := hO.sA_ _ hd8 (ext e r)
          rw [if_pos q, if_pos q, pX7_extended _ _ _ he, bd_some, q1, bv_some]
          exact Hd.ok q2
        · rw [if_neg q] at hm2
          rw [if_neg q, if_neg q]
          refine Hd.lc (DA6 hd64 hm2) he hO hF ?_
          intro w2 B2 M2 hO2 hF2 hP2 hS2 _
          rw [pX7_lg _ _ _ he, bv_some, ok_sr hO2]
          exact Hd.st he hO2 hF2 hP2 (by rw [hS2]; exact sort_DA _ hd64 hm2) (lgS_ok ..) (mask_mask _ _ he)
      · intro w B1 M1 hT hp
        unfold mvB mvM
        by_cases q : d / 8 = 1
        · rw [if_pos q, if_pos q, pX7_extended _ _ _ he, bd_some, pX7_setA _ _ _ hd8, bv_some]
          exact Hd.t (hT.AA _ _ _ _)
        · rw [if_neg q] at hm2
          rw [if_neg q, if_neg q]
          obtain ⟨nn, o, m1, hn, hmm, hB, hM⟩ := hT
          obtain ⟨w2, B2, b1, b2⟩ := tB_locate hB d hd64 e he
          obtain ⟨M2, q1, q2⟩ := tM_operand hM hn d (DA6 hd64 hm2) e he
          have hT2 : Tr c0 d0 m0 B2 M2 := ⟨nn, o, m1, hn, hmm, b2, q2⟩
          rw [b1, bd_some, q1, bv_some, pX7_lg _ _ _ he, bv_some]
          exact Hd.stT he (hT2.sr _ _)
    · rw [if_pos rfl, if_pos rfl]
      exact Hd.ill h hf rfl rfl
  · rw [if_pos rfl, if_pos rfl]
    exact Hd.ill h hf rfl rfl
end HG
