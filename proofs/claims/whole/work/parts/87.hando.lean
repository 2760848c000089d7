/-! ===== many registers: loads, and both instructions ===== -/
section HO_
variable {c0 : CB} {d0 : CM} {m0 : Nat → Int32} {B M : St}
theorem sim_lA (e : Nat) (he : e < 3) (a : Int32) (h : Ok c0 d0 B M) (hf : Fr m0 B M) : (∃ r, fX0_loadAt e a B = some (r, B) ∧ fX7_get a (szB e) M = some (r, M)) ∨ (fX0_loadAt e a B = some (0, tbB B 3 a) ∧ fX7_get a (szB e) M = some (0, tbB M 3 a) ∧ Tr c0 d0 m0 (tbB B 3 a) (tbB M 3 a)) := by
  rw [pX0_loadAt0 _ _ h.2.2.2.2.2.1 e he, pX7_get0 _ _ h.2.2.2.2.2.2.2.1 e he, memL h.1]
  cases hod : od e a
  · rw [if_neg (by decide), if_neg (by decide), if_neg (by decide), if_neg (by decide)]
    exact Or.inl ⟨_, rfl, rfl⟩
  · rw [if_pos rfl, if_pos rfl, if_pos rfl, if_pos rfl]
    exact Or.inr ⟨rfl, rfl, h.tr hf 3 a (by decide)⟩
theorem rset {α : Type} {j : Nat} (hj : j < 16) (v : Int32) (h : Ok c0 d0 B M) (hf : Fr m0 B M) (K : St → Option α) : ∃ M', (if 8 ≤ nI j then (bv (fX7_setA (nI j - 8) v M) fun S6 => (K S6)) else (gd (ixo (nI j) 8 = true) (lt (sA M 1 (nI j).toNatClampNeg v) fun S7 => (K S7)))) = K M' ∧ Ok c0 d0 (sA B 1 j v) M' ∧ Fr m0 (sA B 1 j v) M' := by
  by_cases q : 8 ≤ j
  · obtain ⟨q1, q2⟩ := h.sA_ (j - 8) (by omega) v
    rw [if_pos ((l8r j hj).mpr q), n88 j hj q, q1, bv_some]
    rw [show 8 + (j - 8) = j by omega] at q2
    exact ⟨_, rfl, q2, hf.A _ _ _ (by rw [mA'_1])⟩
  · rw [if_neg (fun z => q ((l8r j hj).mp z)), gd_t (ix8 (by omega)), lt_d, cl8 (by omega)]
    exact ⟨_, rfl, h.sD _ (by omega) v, hf.A _ _ _ rfl⟩
theorem rsetT {α : Type} {j : Nat} (hj : j < 16) (v v' : Int32) (h : Tr c0 d0 m0 B M) (K : St → Option α) : ∃ M', (if 8 ≤ nI j then (bv (fX7_setA (nI j - 8) v' M) fun S6 => (K S6)) else (gd (ixo (nI j) 8 = true) (lt (sA M 1 (nI j).toNatClampNeg v') fun S7 => (K S7)))) = K M' ∧ Tr c0 d0 m0 (sA B 1 j v) M' := by
  by_cases q : 8 ≤ j
  · rw [if_pos ((l8r j hj).mpr q), n88 j hj q, pX7_setA _ _ _ (by omega), bv_some]
    exact ⟨_, rfl, h.AA _ _ _ _⟩
  · rw [if_neg (fun z => q ((l8r j hj).mp z)), gd_t (ix8 (by omega)), lt_d, cl8 (by omega)]
    exact ⟨_, rfl, h.AD _ _ _ _⟩
theorem Tr.cMd (h : Tr c0 d0 m0 B M) : cM M = d0 := by
  obtain ⟨nn, o, m1, hn, hm, hB, hM⟩ := h
  exact hM.1
theorem Tr.ldA (e : Nat) (he : e < 3) (a : Int32) (n a' : Int32) (h : Tr c0 d0 m0 B M) : fX0_loadAt e a B = some (0, B) ∧ fX7_get a' n M = some (0, M) := by
  obtain ⟨nn, o, m1, hn, hm, hB, hM⟩ := h
  exact ⟨pX0_loadAt1 _ _ (hB.ne hn) e he, pX7_get1 _ _ _ (hM.gt hn)⟩
theorem ld_loop (e : Nat) (he3 : e < 3) {k l : Nat} (hk : k < 65536) (hl : l < 65536) (up : Bool) (hup : up = decide (k / 8 % 8 = 3)) (hd : ∀ M : St, cM M = d0 → M.1 5 = nI k) : ∀ m j a (B M : St), 16 = j + m → ((Ok c0 d0 B M ∧ Fr m0 B M) ∨ Tr c0 d0 m0 B M) → ∃ B' M', fX2_loadMany_l1 (8 + nI (k % 8)) up (nI l) e (m + 1) (nI j) a B = some B' ∧ fX7_fromMemory_l1 (szB e) (nI l) (m + 1) (nI j) a M = some M' ∧ Fin1 c0 d0 m0 B' M' := by
  have hy : k % 8 < 8 := by omega
  intro m
  induction m with
  | zero =>
    intro j a B M hj h
    have j16 : j = 16 := by omega
    subst j16
    show ∃ B' M', fX2_loadMany_b1 (8 + nI (k % 8)) up (nI l) e (fX2_loadMany_l1 (8 + nI (k % 8)) up (nI l) e 0) (nI 16) a B = some B' ∧ fX7_fromMemory_b1 (szB e) (nI l) (fX7_fromMemory_l1 (szB e) (nI l) 0) (nI 16) a M = some M' ∧ _
    have h5 : M.1 5 = nI k := by
      rcases h with ⟨hO, -⟩ | hT
      · exact hd M hO.2.2.2.2.2.2.2.2.2.2.2.2.2
      · exact hd M hT.cMd
    unfold fX2_loadMany_b1 fX7_fromMemory_b1
    rw [if_pos (show (16 : Int32) ≤ nI 16 by decide), if_pos (show (16 : Int32) ≤ nI 16 by decide), h5, t24 hk, o_7 hk]
    by_cases q : k / 8 % 8 = 3
    · rw [hup, decide_eq_true q, if_neg (show ¬ zI true = 0 by decide), q, if_pos (show nI 3 = 3 from rfl), pX4_set, bv_some, r4_8 _ hy]
      rcases h with ⟨hO, -⟩ | hT
      · obtain ⟨q1, q2⟩ := hO.sA_ _ hy a
        rw [q1, bv_some]
        exact ⟨_, _, rfl, rfl, Or.inl q2⟩
      · rw [pX7_setA _ _ _ hy, bv_some]
        exact ⟨_, _, rfl, rfl, Or.inr (hT.AA _ _ _ _)⟩
    · rw [hup, decide_eq_false q, if_pos zI_f, if_neg (show ¬ nI (k / 8 % 8) = 3 from nI_ne (b := 3) (by omega) (by decide) q)]
      exact ⟨_, _, rfl, rfl, h.elim (fun z => Or.inl z.1) Or.inr⟩
  | succ m ih =>
    intro j a B M hj h
    have hj16 : j < 16 := by omega
    show ∃ B' M', fX2_loadMany_b1 (8 + nI (k % 8)) up (nI l) e (fX2_loadMany_l1 (8 + nI (k % 8)) up (nI l) e (m + 1)) (nI j) a B = some B' ∧ fX7_fromMemory_b1 (szB e) (nI l) (fX7_fromMemory_l1 (szB e) (nI l) (m + 1)) (nI j) a M = some M' ∧ _
    unfold fX2_loadMany_b1 fX7_fromMemory_b1
    rw [if_neg (l16 j hj16), if_neg (l16 j hj16), bl_c hl j hj16, bl_r hl j hj16, jn_d, jn_d]
    by_cases q : l / 2 ^ j % 2 = 0
    · rw [q, if_pos (show nI 0 = 0 from rfl), if_neg (show ¬ nI 0 = 1 by decide)]
      dsimp only
      rw [lt_d, lt_d, nS64 j (by omega)]
      exact ih (j + 1) a B M (by omega) h
    · rw [show l / 2 ^ j % 2 = 1 by omega, if_neg (show ¬ nI 1 = 0 by decide), if_pos (show nI 1 = 1 from rfl)]
      have trb : ∀ B1 M1 : St, Tr c0 d0 m0 B1 M1 → ∃ B' M', (bd (fX5_extend e 0 B1) fun r6 S12 => (bv (fX4_set (nI j) r6 S12) fun S13 => (lt ((a + (szB e)) : Int32) fun v7 => ((fun (v5 : Int32) (S10 : St) => (lt (nI j + 1) fun v6 => (fX2_loadMany_l1 (8 + nI (k % 8)) up (nI l) e (m + 1) v6 v5 S10))) v7 S13)))) = some B' ∧ (bd (fX7_extended 0 (szB e) M1) fun r2 S5 => (lt ((a + szB e) : Int32) fun v6 => (if 8 ≤ nI j then (bv (fX7_setA (nI j - 8) r2 S5) fun S6 => ((fun (v4 : Int32) (S3 : St) => (lt (nI j + 1) fun v5 => (fX7_fromMemory_l1 (szB e) (nI l) (m + 1) v5 v4 S3))) v6 S6))
    else (gd (ixo (nI j) 8 = true) (lt (sA S5 1 (nI j).toNatClampNeg r2) fun S7 => ((fun (v4 : Int32) (S3 : St) => (lt (nI j + 1) fun v5 => (fX7_fromMemory_l1 (szB e) (nI l) (m + 1) v5 v4 S3))) v6 S7)))))) = some M' ∧ Fin1 c0 d0 m0 B' M' := by
        intro B1 M1 hT
        obtain ⟨M2, r1, r2⟩ := rsetT hj16 (ext e 0) (ext e 0) hT (fun S6 => ((fun (v4 : Int32) (S3 : St) => (lt (nI j + 1) fun v5 => (fX7_fromMemory_l1 (szB e) (nI l) (m + 1) v5 v4 S3))) (a + szB e) S6))
        rw [pX5_extend _ _ _ he3, bd_some, pX4_set, bv_some, r4_n _ hj16, lt_d, pX7_extended _ _ _ he3, bd_some, lt_d, r1]
        dsimp only
        rw [lt_d, lt_d, nS64 j (by omega)]
        exact ih (j + 1) _ _ M2 (by omega) (Or.inr r2)
      rcases h with ⟨hO, hF⟩ | hT
      · rcases sim_lA e he3 a hO hF with ⟨r, p1, p2⟩ | ⟨p1, p2, p3⟩
        · obtain ⟨M2, r1, r2, r3⟩ := rset hj16 (ext e r) hO hF (fun S6 => ((fun (v4 : Int32) (S3 : St) => (lt (nI j + 1) fun v5 => (fX7_fromMemory_l1 (szB e) (nI l) (m + 1) v5 v4 S3))) (a + szB e) S6))
          rw [p1, bd_some, p2, bd_some, pX5_extend _ _ _ he3, bd_some, pX4_set, bv_some, r4_n _ hj16, lt_d, pX7_extended _ _ _ he3, bd_some, lt_d, r1]
          dsimp only
          rw [lt_d, lt_d, nS64 j (by omega)]
          exact ih (j + 1) _ _ M2 (by omega) (Or.inl ⟨r2, r3⟩)
        · rw [p1, bd_some, p2, bd_some]
          exact trb _ _ p3
      · obtain ⟨p1, p2⟩ := hT.ldA e he3 a (szB e) a
        rw [p1, bd_some, p2, bd_some]
        exact trb _ _ hT
/-! the two instructions -/
def eM (k : Nat) : Nat := if k / 64 % 2 = 0 then 1 else 2
theorem eM_12 (k : Nat) : eM k = 1 ∨ eM k = 2 := by unfold eM; split <;> simp
theorem f_many {k : Nat} (hk : k < 65536) (S : St) : fX2_manySize (nI k) S = some (eM k, S) := by
  unfold fX2_manySize eM
  by_cases q : k / 64 % 2 = 0
  · rw [if_pos ((b6 hk).mpr q), if_pos q]
  · rw [if_neg (fun z => q ((b6 hk).mp z)), if_neg q]
theorem m_many {α : Type} {k : Nat} (hk : k < 65536) (K : Int32 → α) : (jn K fun K2 => (if (nI k &&& 64) = 0 then (K2 2) else (K2 4))) = K (szB (eM k)) := by
  rw [jn_d]
  unfold eM
  by_cases q : k / 64 % 2 = 0
  · rw [if_pos ((b6 hk).mpr q), if_pos q]; rfl
  · rw [if_neg (fun z => q ((b6 hk).mp z)), if_neg q]; rfl
theorem mf_500 : ∀ k, k < 64 → mf 500 k = (!decide (k / 8 = 4) && mf 484 k) := by decide +kernel
theorem mf_2028 : ∀ k, k < 64 → mf 2028 k = (!decide (k / 8 = 3) && mf 2020 k) := by decide +kernel
theorem mf_484 : ∀ k, k < 64 → mf 484 k = false → mf 2020 k = false ∧ ¬ k / 8 = 3 ∧ ¬ k / 8 = 4 := by decide +kernel
theorem mf_2020 : ∀ k, k < 64 → mf 2020 k = false → ¬ k / 8 = 3 ∧ ¬ k / 8 = 4 := by decide +kernel
/-- the reference's many, its choices made -/
def mnT (z : Bool) (k : Nat) (r1 : Int32) (S2 : St) : Option (Bool × St) := if (zI z) = 0 then (bv (fX7_fromMemory (szB (eM k)) r1 S2) fun S3 => (some (true, S3))) else (bv (fX7_toMemory (szB (eM k)) r1 S2) fun S4 => (some (true, S4)))
theorem mn_tail {k : Nat} (z : Bool) (r1 : Int32) (S1 : St) : (jn (fun (S2 : St) => (if (zI z) = 0 then (bv (fX7_fromMemory (szB (eM k)) r1 S2) fun S3 => (some (true, S3)))
    else (bv (fX7_toMemory (szB (eM k)) r1 S2) fun S4 => (some (true, S4))))) fun K3 =>
    (if nI (k % 64 / 8) = 3 then (bd (fX7_getA ((S1.1 5) &&& 7) S1) fun r2 S6 => (lt (sI S6 14 r2) fun S7 => (K3 S7)))
    else (if nI (k % 64 / 8) = 4 then (K3 S1)
    else (bv (fX7_operand (nI (k % 64)) (szB (eM k)) S1) fun S5 => (K3 S5))))) = (if k % 64 / 8 = 3 then (bd (fX7_getA ((S1.1 5) &&& 7) S1) fun r2 S6 => mnT z k r1 (sI S6 14 r2)) else (if k % 64 / 8 = 4 then mnT z k r1 S1 else (bv (fX7_operand (nI (k % 64)) (szB (eM k)) S1) fun S5 => mnT z k r1 S5))) := by
  rw [jn_d]
  by_cases q3 : k % 64 / 8 = 3
  · rw [q3, if_pos (show nI 3 = 3 from rfl), if_pos rfl]
    refine bd_c (fun r2 S6 => ?_)
    rw [lt_d]; rfl
  · rw [if_neg (show ¬ nI (k % 64 / 8) = 3 from nI_ne (b := 3) (by omega) (by decide) q3), if_neg q3]
    by_cases q4 : k % 64 / 8 = 4
    · rw [q4, if_pos (show nI 4 = 4 from rfl), if_pos rfl]; rfl
    · rw [if_neg (show ¬ nI (k % 64 / 8) = 4 from nI_ne (b := 4) (by omega) (by decide) q4), if_neg q4]; rfl
theorem many_r {k : Nat} (hk : k < 65536) (z : Bool) (hop : M.1 5 = nI k) : fX7_many z M = (if mf (if z = true then 500 else 2028) (k % 64) = true then some (false, M) else (bd (fX7_extension M) fun r1 S1 => (if k % 64 / 8 = 3 then (bd (fX7_getA ((S1.1 5) &&& 7) S1) fun r2 S6 => mnT z k r1 (sI S6 14 r2)) else (if k % 64 / 8 = 4 then mnT z k r1 S1 else (bv (fX7_operand (nI (k % 64)) (szB (eM k)) S1) fun S5 => mnT z k r1 S5))))) := by
  have h6 : k % 64 < 64 := by omega
  unfold fX7_many
  rw [lt_d, lt_d, hop, o_63 hk, (k6s _ h6).2]
  cases z
  · have hft := ft_CONT 1 (by decide) (k % 64) h6
    rw [szB1] at hft
    rw [selZj, if_neg (show ¬ (false = true) by decide), if_neg (show ¬ (false = true) by decide)]
    by_cases q : k % 64 / 8 = 3
    · rw [if_pos (show nI (k % 64 / 8) = 3 by rw [q]; rfl), m_many hk, if_neg (by rw [mf_2028 _ h6, decide_eq_true q, Bool.not_true, Bool.false_and]; decide)]
      refine bd_c (fun r1 S1 => ?_)
      exact mn_tail false r1 S1
    · rw [if_neg (show ¬ nI (k % 64 / 8) = 3 from nI_ne (b := 3) (by omega) (by decide) q), selZj, if_neg (show ¬ (false = true) by decide), ft_of hft, bd_some]
      cases hm : mf 2020 (k % 64)
      · rw [if_neg (show ¬ zI (!false) = 0 by decide), if_neg (by rw [mf_2028 _ h6, hm, Bool.and_false]; decide), hop, m_many hk]
        refine bd_c (fun r1 S1 => ?_)
        exact mn_tail false r1 S1
      · rw [if_pos (show zI (!true) = 0 from rfl), if_pos (by rw [mf_2028 _ h6, hm, decide_eq_false q]; rfl)]
  · have hft := ft_CALT 1 (by decide) (k % 64) h6
    rw [szB1] at hft
    rw [selZj, if_pos rfl, if_pos rfl]
    by_cases q : k % 64 / 8 = 4
    · rw [if_pos (show nI (k % 64 / 8) = 4 by rw [q]; rfl), m_many hk, if_neg (by rw [mf_500 _ h6, decide_eq_true q, Bool.not_true, Bool.false_and]; decide)]
      refine bd_c (fun r1 S1 => ?_)
      exact mn_tail true r1 S1
    · rw [if_neg (show ¬ nI (k % 64 / 8) = 4 from nI_ne (b := 4) (by omega) (by decide) q), selZj, if_pos rfl, ft_of hft, bd_some]
      cases hm : mf 484 (k % 64)
      · rw [if_neg (show ¬ zI (!false) = 0 by decide), if_neg (by rw [mf_500 _ h6, hm, Bool.and_false]; decide), hop, m_many hk]
        refine bd_c (fun r1 S1 => ?_)
        exact mn_tail true r1 S1
      · rw [if_pos (show zI (!true) = 0 from rfl), if_pos (by rw [mf_500 _ h6, hm, decide_eq_false q]; rfl)]
theorem hd_op {k : Nat} (hop : M.1 5 = nI k) (h : Ok c0 d0 B M) : ∀ M' : St, cM M' = d0 → M'.1 5 = nI k := fun M' h' => (op_of (h'.trans h.2.2.2.2.2.2.2.2.2.2.2.2.2.symm)).trans hop
theorem PlR.any (e e' : Nat) {w : Int64} (h : PlR e w M m0) (hs : M.1 12 = 2) : w.toInt32 = M.1 14 := by rw [h.adr hs, wAt_i]
theorem loadM {k : Nat} (hk : k < 65536) (hop : M.1 5 = nI k) (h : Ok c0 d0 B M) (hf : Fr m0 B M) : Hd c0 d0 m0 (fX2_loadMany (nI k) B) (fX7_many false M) := by
  have h6 : k % 64 < 64 := by omega
  have hy : k % 8 < 8 := by omega
  have he : eM k < 3 := by rcases eM_12 k with q | q <;> omega
  have m8 : k % 64 / 8 = k / 8 % 8 := by omega
  have hd := hd_op hop h
  rw [many_r hk false hop, if_neg (show ¬ (false = true) by decide)]
  unfold fX2_loadMany
  rw [f_operand hk, bd_some, pX2_misfits _ _ h6, bd_some]
  cases hm : mf 2028 (k % 64)
  · rw [if_pos zI_f, if_neg (show ¬ (false = true) by decide), if_neg (show ¬ (false = true) by decide), f_many hk, bd_some, gd_t he]
    refine Hd.ex h hf ?_
    intro l hl hO hF
    rw [f_operand hk, bd_some, (k6s _ h6).1]
    by_cases q3 : k % 64 / 8 = 3
    · rw [q3, jn_d, if_pos (show nI 3 = 3 from rfl), if_pos rfl]
      dsimp only
      rw [f_lower hk, bd_some, lt_d, jn_d, if_neg (show ¬ zI true = 0 by decide), pX4_get, bd_some, r4_8 _ hy, hd _ hO.2.2.2.2.2.2.2.2.2.2.2.2.2, o_7 hk, hO.gA _ hy, bd_some]
      unfold mnT
      rw [if_pos zI_f]
      unfold fX7_fromMemory
      rw [lt_d, sI_at]
      obtain ⟨B', M', p1, p2, p3⟩ := ld_loop (eM k) he hk hl true (by rw [decide_eq_true (by omega)]) hd 16 0 ((sI B 2 (B.1 2 + 2)).2.2 1 (8 + k % 8)) _ _ (by omega) (Or.inl ⟨hO.adr ((sI B 2 (B.1 2 + 2)).2.2 1 (8 + k % 8)), hF.any 14 _ (by decide)⟩)
      have p1' : fX2_loadMany_l1 (8 + nI (k % 8)) true (nI l) (eM k) 17 0 ((sI B 2 (B.1 2 + 2)).2.2 1 (8 + k % 8)) (sI B 2 (B.1 2 + 2)) = some B' := p1
      have p2' : fX7_fromMemory_l1 (szB (eM k)) (nI l) 17 0 ((sI B 2 (B.1 2 + 2)).2.2 1 (8 + k % 8)) (sI (sI M 1 (B.1 2 + 2)) 14 ((sI B 2 (B.1 2 + 2)).2.2 1 (8 + k % 8))) = some M' := p2
      rw [p2', bv_some]
      exact Hd.fin p1' rfl p3
    · have hm2 : mf 2020 (k % 64) = false := by rw [mf_2028 _ h6, decide_eq_false q3] at hm; exact hm
      rw [jn_d, if_neg (show ¬ nI (k % 64 / 8) = 3 from nI_ne (b := 3) (by omega) (by decide) q3), if_neg q3, if_neg (mf_2020 _ h6 hm2).2]
      dsimp only
      rw [f_lower hk, bd_some, lt_d, jn_d, if_pos zI_f, f_operand hk, bd_some]
      refine Hd.lc (CO6 h6 hm2) he hO hF ?_
      intro w B1 M1 hO1 hF1 hP hS hp
      dsimp only
      unfold mnT
      rw [if_pos zI_f]
      unfold fX7_fromMemory
      rw [lt_d, hP.any (eM k) 0 (by rw [hS]; exact sort_CO _ h6 hm2)]
      obtain ⟨B', M', p1, p2, p3⟩ := ld_loop (eM k) he hk hl false (by rw [decide_eq_false (by omega)]) hd 16 0 (M1.1 14) _ _ (by omega) (Or.inl ⟨hO1, hF1⟩)
      have p1' : fX2_loadMany_l1 (8 + nI (k % 8)) false (nI l) (eM k) 17 0 (M1.1 14) B1 = some B' := p1
      have p2' : fX7_fromMemory_l1 (szB (eM k)) (nI l) 17 0 (M1.1 14) M1 = some M' := p2
      rw [p2', bv_some]
      exact Hd.fin p1' rfl p3
  · rw [if_neg (show ¬ zI true = 0 by decide), if_pos rfl, if_pos rfl]
    exact Hd.ill h hf rfl rfl
theorem xt_0 (v : Int32) : ext 0 v = v.toInt8.toInt32 := by unfold ext; rw [if_pos rfl]
theorem xt_1 (v : Int32) : ext 1 v = v.toInt16.toInt32 := by unfold ext; rw [if_neg (by decide), if_pos rfl]
theorem ext_st {k : Nat} (hk : k < 65536) (hs : 2 ≤ k / 64 % 4) (hop : M.1 5 = nI k) (h : Ok c0 d0 B M) (hf : Fr m0 B M) : Hd c0 d0 m0 (fX2_extendOrStoreMany (nI k) B) (fX7_group48 M) := by
  have h6 : k % 64 < 64 := by omega
  have hy : k % 8 < 8 := by omega
  have he : eM k < 3 := by rcases eM_12 k with q | q <;> omega
  have m8 : k % 64 / 8 = k / 8 % 8 := by omega
  have hd := hd_op hop h
  have s1 : ¬ nI (k / 64 % 4) ≤ 1 := by
    have : ∀ s, s < 4 → 2 ≤ s → ¬ nI s ≤ 1 := by decide
    exact this _ (by omega) hs
  unfold fX2_extendOrStoreMany fX7_group48
  rw [f_many hk, bd_some, gd_t he, f_operand hk, bd_some, lt_d, lt_d, lt_d, hop, o_6 hk, t24 hk, o_7 hk, if_neg s1]
  by_cases a8 : 8 ≤ k % 64
  · have v0 : ¬ nI (k / 8 % 8) ≤ 0 := by
      have : ∀ s, s < 8 → ¬ s = 0 → ¬ nI s ≤ 0 := by decide
      exact this _ (by omega) (by omega)
    rw [if_pos (show 8 ≤ nI (k % 64) by rw [le8 _ h6]; exact a8), if_neg v0, q_bb, many_r hk true hop, if_pos rfl, f_operand hk, bd_some, pX2_misfits _ _ h6, bd_some]
    cases hm : mf 500 (k % 64)
    · rw [if_pos zI_f, if_neg (show ¬ (false = true) by decide), if_neg (show ¬ (false = true) by decide)]
      refine Hd.ex h hf ?_
      intro l hl hO hF
      rw [f_operand hk, bd_some, (k6s _ h6).1]
      by_cases q4 : k % 64 / 8 = 4
      · rw [q4, if_pos (show nI 4 = 4 from rfl), if_neg (by decide), if_pos rfl, f_lower hk, bd_some, q_bv]
        unfold fX2_storeDownward mnT
        rw [gd_t he, pX4_get, bd_some, r4_8 _ hy, if_neg (show ¬ zI true = 0 by decide)]
        unfold fX7_toMemory
        rw [hd _ hO.2.2.2.2.2.2.2.2.2.2.2.2.2, t24 hk, o_7 hk, ← m8, q4, selPj, if_pos (show nI 4 = 4 from rfl), lt_d, jn_d, if_neg (show ¬ zI true = 0 by decide), hO.gA _ hy, bd_some]
        dsimp only
        obtain ⟨B', M', p1, p2, p3⟩ := dn_loop (eM k) (eM_12 k) (y := k % 8) hl hy 16 0 ((sI B 2 (B.1 2 + 2)).2.2 1 (8 + k % 8)) _ _ (by omega) (Or.inl ⟨hO, Or.inr hF⟩)
        have p1' : fX2_storeDownward_l1 (eM k) (nI l) (8 + nI (k % 8)) 17 0 ((sI B 2 (B.1 2 + 2)).2.2 1 (8 + k % 8)) (sI B 2 (B.1 2 + 2)) = some B' := p1
        have p2' : fX7_toMemory_l1 (nI (k % 8)) true (szB (eM k)) (nI l) 17 0 ((sI B 2 (B.1 2 + 2)).2.2 1 (8 + k % 8)) (sI M 1 (B.1 2 + 2)) = some M' := p2
        rw [p2', bv_some]
        exact Hd.fin p1' rfl p3
      · have hm2 : mf 484 (k % 64) = false := by rw [mf_500 _ h6, decide_eq_false q4] at hm; exact hm
        obtain ⟨hm3, n3, n4⟩ := mf_484 _ h6 hm2
        rw [if_neg (show ¬ nI (k % 64 / 8) = 4 from nI_ne (b := 4) (by omega) (by decide) q4), if_neg n3, if_neg n4, f_operand hk, bd_some]
        refine Hd.lc (CO6 h6 hm3) he hO hF ?_
        intro w B1 M1 hO1 hF1 hP hS hp
        unfold fX2_storeUpward mnT
        rw [q_bv, gd_t he, if_neg (show ¬ zI true = 0 by decide)]
        unfold fX7_toMemory
        rw [hd _ hO1.2.2.2.2.2.2.2.2.2.2.2.2.2, t24 hk, o_7 hk, selPj, if_neg (show ¬ nI (k / 8 % 8) = 4 from nI_ne (b := 4) (by omega) (by decide) (by omega)), lt_d, jn_d, if_pos zI_f, hP.any (eM k) 0 (by rw [hS]; exact sort_CO _ h6 hm3)]
        dsimp only
        obtain ⟨B', M', p1, p2, p3⟩ := up_loop (eM k) (eM_12 k) (y := k % 8) hl 16 0 (M1.1 14) _ _ (by omega) (Or.inl ⟨hO1, Or.inr hF1⟩)
        have p1' : fX2_storeUpward_l1 (eM k) (nI l) 17 0 (M1.1 14) B1 = some B' := p1
        have p2' : fX7_toMemory_l1 (nI (k % 8)) false (szB (eM k)) (nI l) 17 0 (M1.1 14) M1 = some M' := p2
        rw [p2', bv_some]
        exact Hd.fin p1' rfl p3
    · rw [if_neg (show ¬ zI true = 0 by decide), if_pos rfl, if_pos rfl]
      exact Hd.ill h hf rfl rfl
  · rw [if_neg (show ¬ 8 ≤ nI (k % 64) by rw [le8 _ h6]; exact a8), show k / 8 % 8 = 0 by omega, if_pos (show nI 0 ≤ 0 by decide), if_neg s1, f_lower hk, bd_some]
    have tl : ∀ v : Int32, Hd c0 d0 m0 (bd (fX0_inRegister (nI (k % 8)) B) fun w2 S14 => (bd (fX1_logic (eM k) v S14) fun r8 S15 => (bv (fX0_store (eM k) w2 r8 S15) fun S16 => (some S16)))) (gd (ixo (nI (k % 8)) 8 = true) (bd (fX7_joined (M.2.2 1 (nI (k % 8)).toNatClampNeg) v (szB (eM k)) M) fun r5 S19 => (gd (ixo (nI (k % 8)) 8 = true) (lt (sA S19 1 (nI (k % 8)).toNatClampNeg r5) fun S20 => (bv (fX7_logic v (szB (eM k)) S20) fun S21 => (some (true, S21))))))) := by
      intro v
      have e0 : M.1 2 = B.1 3 := ok_sr h
      have e1 : ∀ v, (sA M 1 (k % 8) v).1 2 = B.1 3 := fun _ => e0
      have e2 : (sI B 3 (lgS (eM k) v (B.1 3))).2.2 1 (k % 8) = B.2.2 1 (k % 8) := rfl
      rw [pX0_inRegister, bd_some, pX1_lg _ _ _ he, bd_some, q_bv, pX0_store_rg _ he _ (by omega), gd_t (ix8 hy), cl8 hy, h.gD _ hy, pX7_joined _ _ _ _ he, bd_some, gd_t (ix8 hy), lt_d, pX7_lg _ _ _ he, bv_some, e1, e2, jo_c _ _ _ _ he (mask_mask _ _ he)]
      exact Hd.ok ((h.sD _ hy _).fl (lgS_ok (eM k) v (B.1 3)))
    by_cases s2 : k / 64 % 4 = 2
    · have e1 : eM k = 1 := by unfold eM; rw [if_pos (by omega)]
      rw [e1] at tl
      rw [s2, jn_d, jn_d, if_pos (show nI 2 = 2 from rfl), e1, if_pos rfl]
      dsimp only
      rw [jn_d, if_pos (show nI 2 = 2 from rfl), gd_t (ix8 hy), gd_t (show (0 : Nat) < 3 by decide), pX0_inRegister, bd_some, pX4_get, bd_some, k7 _ hy, pX5_extend _ _ _ (show (0 : Nat) < 3 by decide), bd_some, xt_0]
      have := tl ((B.2.2 1 (k % 8)).toInt8.toInt32)
      rw [szB1, pX0_inRegister, bd_some] at this
      rw [cl8 hy, h.gD _ hy]
      rw [cl8 hy, h.gD _ hy] at this
      exact this
    · have s3 : k / 64 % 4 = 3 := by omega
      have e1 : eM k = 2 := by unfold eM; rw [if_neg (by omega)]
      rw [e1] at tl
      rw [s3, jn_d, jn_d, if_neg (show ¬ nI 3 = 2 by decide), e1, if_neg (by decide)]
      dsimp only
      rw [jn_d, if_neg (show ¬ nI 3 = 2 by decide), gd_t (ix8 hy), gd_t (show (1 : Nat) < 3 by decide), pX0_inRegister, bd_some, pX4_get, bd_some, k7 _ hy, pX5_extend _ _ _ (show (1 : Nat) < 3 by decide), bd_some, xt_1]
      have := tl ((B.2.2 1 (k % 8)).toInt16.toInt32)
      rw [szB2, pX0_inRegister, bd_some] at this
      rw [cl8 hy, h.gD _ hy]
      rw [cl8 hy, h.gD _ hy] at this
      exact this
end HO_
