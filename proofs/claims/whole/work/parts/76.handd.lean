/-! ===== addresses: push, load, jump; check ===== -/
theorem le8 : ∀ k, k < 64 → (8 ≤ nI k) = (8 ≤ k) := by
  intro k hk
  have : ∀ k, k < 64 → (8 ≤ nI k ↔ 8 ≤ k) := by decide +kernel
  exact propext (this k hk)
theorem k7 : ∀ y, y < 8 → r4 (nI y) = y := fun y hy => r4_n y (by omega)
theorem CO6 {k6 : Nat} (hk : k6 < 64) (h : mf 2020 k6 = false) : k6 < 61 := mf_61' (Or.inl rfl) hk ((mf_sub k6 hk).2.2.2.1 h)
theorem DT6 {k6 : Nat} (hk : k6 < 64) (h : mf 4093 k6 = false) : k6 < 61 := mf_61' (Or.inl rfl) hk h
theorem pe1 (v : Int32) (S : St) : fX7_extended v 2 S = some (v.toInt16.toInt32, S) := by
  have := pX7_extended v S 1 (by decide)
  rw [szB1] at this
  exact this
theorem pl7 (v : Int32) (S : St) : fX7_logic v 4 S = some (sI S 2 (lgS 2 v (S.1 2))) := by
  have := pX7_lg v S 2 (by decide)
  rw [szB2] at this
  exact this
theorem pl1 (v : Int32) (S : St) : fX1_logic 2 v S = some (v, sI S 3 (lgS 2 v (S.1 3))) := by
  rw [pX1_lg v S 2 (by decide), show szM 2 = -1 from rfl, and_m1]
theorem b6 {k : Nat} (hk : k < 65536) : nI k &&& 64 = 0 ↔ k / 64 % 2 = 0 := bitk k hk 6 64 (by decide) (by decide +kernel)
theorem o_4 {k : Nat} (hk : k < 65536) : (nI k >>> ((4 : Int32) &&& 31)) &&& 15 = nI (k / 16 % 16) := by
  rw [pk_shrN (by omega) ((4 : Int32) &&& 31) 4 (by decide), pk_andN (by omega) (m := 15) 4 (by decide)]
section HD_
variable {c0 : CB} {d0 : CM} {m0 : Nat → Int32} {B M : St}
theorem PlR.adr {e : Nat} {w : Int64} (h : PlR e w M m0) (hs : M.1 12 = 2) : w = wAt (M.1 14) := by
  rcases h with ⟨a, -⟩ | ⟨a, -⟩ | ⟨-, a⟩ | ⟨a, -⟩
  · rw [hs] at a; exact absurd a (by decide)
  · rw [hs] at a; exact absurd a (by decide)
  · exact a
  · rw [hs] at a; exact absurd a (by decide)
theorem Hd.ps0 {e : Nat} {v : Int32} (he : e < 3) (h : Ok c0 d0 B M) (hf : Fr m0 B M) : Hd c0 d0 m0 (fX0_push e v B) (bv (fX7_push v (szB e) M) fun S => some (true, S)) := by
  obtain ⟨B', M', a1, a2, a3⟩ := sim_push e he v h hf
  rw [a1, a2, bv_some]
  rcases a3 with ⟨hO, -⟩ | hT
  · exact Hd.ok hO
  · exact Hd.t hT
theorem Tr.sB (h : Tr c0 d0 m0 B M) (s : Int32) : Tr c0 d0 m0 (sI B 3 s) M := by
  obtain ⟨nn, o, m1, hn, hm, hB, hM⟩ := h
  exact ⟨nn, o, m1, hn, hm, hB.sr s, hM⟩
theorem swp_pea {k : Nat} (hk : k < 65536) (hs : k / 64 % 4 = 1) (hop : M.1 5 = nI k) (h : Ok c0 d0 B M) (hf : Fr m0 B M) : Hd c0 d0 m0 (fX2_swapOrPushAddress (nI k) B) (fX7_group48 M) := by
  have h6 : k % 64 < 64 := by omega
  have hy : k % 8 < 8 := by omega
  have hs0 : nI (k / 64 % 4) = 1 := by rw [hs]; rfl
  have hft := ft_CONT 2 (by decide) (k % 64) h6
  rw [szB2] at hft
  unfold fX2_swapOrPushAddress fX7_group48
  rw [lt_d, lt_d, lt_d, hop, o_6 hk, t24 hk, o_7 hk, hs0, f_lower hk, bd_some, f_operand hk, bd_some, if_pos (show (1 : Int32) ≤ 1 by decide), if_pos (show (1 : Int32) ≤ 1 by decide), if_pos rfl]
  by_cases a8 : 8 ≤ k % 64
  · rw [if_pos (by rw [le8 _ h6]; exact a8), if_neg (show ¬ nI (k / 8 % 8) = 0 from nI_ne (b := 0) (by omega) (by decide) (by omega)), if_pos rfl, f_operand hk, bd_some, pX2_misfits _ _ h6, bd_some, o_63 hk, ft_of hft, bd_some]
    cases hm : mf 2020 (k % 64)
    · rw [if_pos zI_f, if_neg (show ¬ zI (!false) = 0 by decide), if_neg (show ¬ (false = true) by decide), f_operand hk, bd_some, hop, o_63 hk]
      refine Hd.lc (e := 2) (CO6 h6 hm) (by decide) h hf ?_
      intro w B1 M1 hO hF hP hS hp
      rw [hP.adr (by rw [hS]; exact sort_CO _ h6 hm), wAt_i, q_bv]
      exact Hd.ps0 (e := 2) (by decide) hO hF
    · rw [if_neg (show ¬ zI true = 0 by decide), if_pos (show zI (!true) = 0 from rfl), if_pos rfl]
      exact Hd.ill h hf rfl rfl
  · rw [if_neg (by rw [le8 _ h6]; exact a8), if_pos (show nI (k / 8 % 8) = 0 by rw [show k / 8 % 8 = 0 by omega]; rfl), gd_t (ix8 hy), gd_t (ix8 hy), gd_t (ix8 hy), lt_d, gd_t (ix8 hy), cl8 hy, pX4_get, bd_some, k7 _ hy, pl1, bd_some, pX4_set, bv_some, k7 _ hy, pl7, bv_some, sA_at, h.gD _ hy]
    have e0 : M.1 2 = B.1 3 := ok_sr h
    have e1 : ∀ v, (sA M 1 (k % 8) v).1 2 = B.1 3 := fun _ => e0
    rw [e1]
    exact Hd.ok ((h.sD _ hy _).fl (lgS_ok 2 _ (B.1 3)))
theorem lea {k : Nat} (hk : k < 65536) (hs : k / 64 % 4 = 3) (hop : M.1 5 = nI k) (h : Ok c0 d0 B M) (hf : Fr m0 B M) : Hd c0 d0 m0 (fX2_loadAddress (nI k) B) (fX7_checkOrAddress M) := by
  have h6 : k % 64 < 64 := by omega
  have hu : k / 512 % 8 < 8 := by omega
  have hs0 : nI (k / 64 % 4) = 3 := by rw [hs]; rfl
  have hft := ft_CONT 1 (by decide) (k % 64) h6
  rw [szB1] at hft
  unfold fX2_loadAddress fX7_checkOrAddress
  rw [lt_d, lt_d, hop, o_6 hk, o_9 hk, o_63 hk, hs0, if_neg (by decide), jn_d, if_neg (by decide), f_operand hk, bd_some, pX2_misfits _ _ h6, bd_some]
  dsimp only
  rw [ft_of hft, bd_some]
  cases hm : mf 2020 (k % 64)
  · rw [if_pos zI_f, if_neg (show ¬ zI (!false) = 0 by decide), if_neg (show ¬ (false = true) by decide), f_upper hk, bd_some, f_operand hk, bd_some, hop, o_63 hk, loc_ctl _ h6 hm]
    refine Hd.lc (e := 1) (CO6 h6 hm) (by decide) h hf ?_
    intro w B1 M1 hO hF hP hS hp
    obtain ⟨q1, q2⟩ := hO.sA_ _ hu (M1.1 14)
    rw [hP.adr (by rw [hS]; exact sort_CO _ h6 hm), wAt_i, if_pos rfl, q1, bv_some, pX4_set, bv_some, r4_8 _ hu]
    exact Hd.ok q2
  · rw [if_neg (show ¬ zI true = 0 by decide), if_pos (show zI (!true) = 0 from rfl), if_pos rfl]
    exact Hd.ill h hf rfl rfl
theorem chk {k : Nat} (hk : k < 65536) (hs : k / 64 % 4 = 2) (hop : M.1 5 = nI k) (h : Ok c0 d0 B M) (hf : Fr m0 B M) : Hd c0 d0 m0 (fX2_check (nI k) B) (fX7_checkOrAddress M) := by
  have h6 : k % 64 < 64 := by omega
  have hu : k / 512 % 8 < 8 := by omega
  have hs0 : nI (k / 64 % 4) = 2 := by rw [hs]; rfl
  have hft := ft_DATA 1 (by decide) (k % 64) h6
  rw [szB1] at hft
  unfold fX2_check fX7_checkOrAddress
  rw [lt_d, lt_d, hop, o_6 hk, o_9 hk, o_63 hk, hs0, if_neg (by decide), jn_d, if_pos rfl, f_operand hk, bd_some, pX2_misfits _ _ h6, bd_some]
  dsimp only
  rw [ft_of hft, bd_some]
  cases hm : mf 4093 (k % 64)
  · rw [if_pos zI_f, if_neg (show ¬ zI (!false) = 0 by decide), if_neg (show ¬ (false = true) by decide), f_operand hk, bd_some, hop, o_63 hk]
    simp only [if_neg (show ¬ (2 : Int32) = 3 by decide)]
    refine Hd.rd (e := 1) (DT6 h6 hm) (by decide) h hf ?_ ?_
    · intro w r B1 M1 hO hF hP hS hp hr
      rw [lt_d, f_upper hk, bd_some, pX4_get, bd_some, k7 _ hu, lt_d, pe1, bd_some, gd_t (ix8 hu), cl8 hu, pe1, bd_some, hO.gD _ hu, if_pos hO.2.2.2.2.2.2.2.1, jn_d, jn_d]
      simp only [pX4_mark, bv_x, pX7_flag, pX0_raise, lt_x, ok_sr hO]
      have fin : ∀ z, Hd c0 d0 m0 (some (rs (sI B1 3 (fl (B1.1 3) 8 z)) 6)) (some (true, sI (sI M1 2 (fl (B1.1 3) 8 z)) 8 6)) := fun z => Hd.fo (hO.fl ((fOK.rf _).fl 8 z rfl rfl)) hF.2.2.2 (by decide) (by decide) (by decide)
      by_cases a : (B1.2.2 1 (k / 512 % 8)).toInt16.toInt32 < 0
      · rw [if_pos a, if_pos a]
        split <;> exact fin _
      · rw [if_neg a, if_neg a]
        by_cases b : (B1.2.2 1 (k / 512 % 8)).toInt16.toInt32 ≤ r.toInt16.toInt32
        · rw [if_pos b, if_pos b]
          exact Hd.ok hO
        · rw [if_neg b, if_neg b]
          split <;> exact fin _
    · intro w B1 M1 hT hp
      rw [lt_d, f_upper hk, bd_some, pX4_get, bd_some, k7 _ hu, lt_d, pe1, bd_some, gd_t (ix8 hu), cl8 hu, pe1, bd_some, if_neg hT.ne, jn_d]
      simp only [pX4_mark, bv_x, pX0_raise]
      have fin : ∀ z, Hd c0 d0 m0 (some (rs (sI B1 3 (fl (B1.1 3) 8 z)) 6)) (some (true, M1)) := fun z => Hd.t ((hT.sB _).rz 6)
      split
      · split <;> exact fin _
      · split
        · exact Hd.t hT
        · split <;> exact fin _
  · rw [if_neg (show ¬ zI true = 0 by decide), if_pos (show zI (!true) = 0 from rfl), if_pos rfl]
    exact Hd.ill h hf rfl rfl
theorem jmp {k : Nat} (hk : k < 65536) (hs : 2 ≤ k / 64 % 4) (hop : M.1 5 = nI k) (h : Ok c0 d0 B M) (hf : Fr m0 B M) : Hd c0 d0 m0 (fX2_jump (nI k) B) (fX7_group4e M) := by
  have h6 : k % 64 < 64 := by omega
  have ht : 8 ≤ k / 16 % 16 := by omega
  have hft := ft_CONT 2 (by decide) (k % 64) h6
  rw [szB2] at hft
  have tt : ∀ t, t < 16 → 8 ≤ t → ¬ nI t = 4 ∧ ¬ nI t = 5 ∧ ¬ nI t = 6 ∧ ¬ nI t = 7 ∧ ¬ nI t ≤ 7 ∧ (12 ≤ nI t ↔ 12 ≤ t) := by decide +kernel
  obtain ⟨t4, t5, t6, t7, tl, t12⟩ := tt (k / 16 % 16) (by omega) ht
  have eM : fX7_group4e M = (bd (fX7_fits ((M.1 5) &&& 63) 3 4 M) fun b5 S14 => (if (zI b5) = 0 then (some (false, S14))
    else (bv (fX7_operand ((S14.1 5) &&& 63) 4 S14) fun S15 => (jn (fun (S16 : St) => (lt (sI S16 1 (S16.1 14)) fun S17 => (some (true, S17)))) fun K3 =>
    (if 12 ≤ nI (k / 16 % 16) then (K3 S15)
    else (bv (fX7_push (S15.1 1) 4 S15) fun S18 => (K3 S18))))))) := by
    unfold fX7_group4e
    rw [lt_d, lt_d, hop, o_4 hk, jn_d]
    split
    · rfl
    · rfl
  rw [eM, hop, o_63 hk, ft_of hft, bd_some]
  unfold fX2_jump
  rw [f_operand hk, bd_some, pX2_misfits _ _ h6, bd_some]
  cases hm : mf 2020 (k % 64)
  · rw [if_pos zI_f, if_neg (show ¬ zI (!false) = 0 by decide), if_neg (show ¬ (false = true) by decide), f_operand hk, bd_some, hop, o_63 hk]
    refine Hd.lc (e := 2) (CO6 h6 hm) (by decide) h hf ?_
    intro w B1 M1 hO hF hP hS hp
    rw [hP.adr (by rw [hS]; exact sort_CO _ h6 hm), lt_d, wAt_i, jn_d, jn_d]
    by_cases q : k / 64 % 2 = 0
    · rw [if_pos ((b6 hk).mpr q), if_neg (fun z => absurd (t12.mp z) (by omega)), hO.2.2.1]
      refine Hd.ps (e := 2) (by decide) hO hF ?_ ?_
      · intro B2 M2 hO2 _ h14 _
        dsimp only
        rw [lt_d, lt_d, h14]
        exact Hd.ok (hO2.pc _)
      · intro B2 M2 hT
        dsimp only
        rw [lt_d, lt_d]
        exact Hd.t (hT.pc _ _)
    · rw [if_neg (fun z => q ((b6 hk).mp z)), if_pos (t12.mpr (by omega))]
      dsimp only
      rw [lt_d, lt_d]
      exact Hd.ok (hO.pc _)
  · rw [if_neg (show ¬ zI true = 0 by decide), if_pos (show zI (!true) = 0 from rfl), if_pos rfl]
    exact Hd.ill h hf rfl rfl
end HD_
