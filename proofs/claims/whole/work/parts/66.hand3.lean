/-! ===== or, and, exclusive or of a pair ===== -/
section H3
variable {c0 : CB} {d0 : CM} {m0 : Nat → Int32} {B M : St}
theorem oz_c : ∀ e, e < 3 → oz 4093 e = 4093 ∧ oz 508 e = 508 ∧ oz 509 e = 509 := by decide +kernel
theorem mf_61' {c : Int32} (hc : c = 4093 ∨ c = 508 ∨ c = 509) {k6 : Nat} (hk : k6 < 64) (h : mf c k6 = false) : k6 < 61 := by
  have q := mf_sub k6 hk
  rcases hc with rfl | rfl | rfl
  · exact mf_61 k6 hk (q.1 h)
  · exact mf_61 k6 hk (q.1 (q.2.2.1 (q.2.1 h)))
  · exact mf_61 k6 hk (q.1 (q.2.2.1 h))
theorem pX7_lg (v : Int32) (M : St) : ∀ e, e < 3 → fX7_logic v (szB e) M = some (sI M 2 (lgS e v (M.1 2))) := pX7_logic v M
theorem pX1_lg (v : Int32) (S : St) : ∀ e, e < 3 → fX1_logic e v S = some (v &&& szM e, sI S 3 (lgS e v (S.1 3))) := pX1_logic v S
theorem ok_sr {B M : St} (h : Ok c0 d0 B M) : M.1 2 = B.1 3 := h.2.2.2.1
theorem pair_log {k : Nat} (hk : k < 65536) (hs : k / 64 % 4 < 3) (hop : M.1 5 = nI k) (h : Ok c0 d0 B M) (hf : Fr m0 B M) {how how' kinds : Int32} (hw : hwR how how') (hkd : (how' = 2 ∧ kinds = 509 ∧ ¬ k / 256 % 2 = 0) ∨ (¬ how' = 2 ∧ k / 256 % 2 = 0 ∧ kinds = 4093) ∨ (¬ how' = 2 ∧ ¬ k / 256 % 2 = 0 ∧ kinds = 508)) :
    Hd c0 d0 m0 (fX2_combine (nI k) how kinds B) (fX7_logicPair how' M) := by
  have h6 : k % 64 < 64 := by omega
  have hr : k / 512 % 8 < 8 := by omega
  have hoz := oz_c _ hs
  obtain ⟨by_, hby, hft, hz, hda⟩ : ∃ by_ : Int32, by_ = (if how' = 2 then 4 else if k / 256 % 2 = 0 then 1 else 2) ∧ (∀ M : St, fX7_fits (nI (k % 64)) by_ (szB (k / 64 % 4)) M = some (!mf kinds (k % 64), M)) ∧ oz kinds (k / 64 % 4) = kinds ∧ (kinds = 4093 ∨ kinds = 508 ∨ kinds = 509) := by
    rcases hkd with ⟨a, b, c⟩ | ⟨a, b, c⟩ | ⟨a, b, c⟩
    · exact ⟨4, by rw [if_pos a], fun M => by rw [b]; exact ft_of (ft_DALT _ hs _ h6) M, by rw [b]; exact hoz.2.2, Or.inr (Or.inr b)⟩
    · exact ⟨1, by rw [if_neg a, if_pos b], fun M => by rw [c]; exact ft_of (ft_DATA _ hs _ h6) M, by rw [c]; exact hoz.1, Or.inl c⟩
    · exact ⟨2, by rw [if_neg a, if_neg b], fun M => by rw [c]; exact ft_of (ft_MEMA _ hs _ h6) M, by rw [c]; exact hoz.2.1, Or.inr (Or.inl c)⟩
  rw [lp_run hk hs hop how' by_ hby, hft M, bd_some]
  cases hm : mf kinds (k % 64)
  · rw [cmb_run hk hs how kinds (by rw [hz]; exact hm), if_neg (show ¬ zI (!false) = 0 by decide), hop, o_63 hk]
    obtain ⟨w, B1, M1, a1, a2, a3, a4, a5, a6, ld⟩ := sim_ll (k % 64) (mf_61' hda h6 hm) _ hs h hf
    rw [a1, bd_some, a2, bv_some]
    rcases ld with ⟨r, l1, l2, l3⟩ | ⟨a, l1, l2, l3⟩
    · rw [l1, bd_some, l2, bd_some, pX0_load_rg _ hs _ (by omega), bd_some, pX7_mixed, bd_some, pX7_lg _ _ _ hs, bv_some, a3.gD _ hr]
      have lj := log_j hw _ hs r (B1.2.2 1 (k / 512 % 8)) (B1.1 3)
      have lok : fOK (B1.1 3) (lgS (k / 64 % 4) (logF how' r (B1.2.2 1 (k / 512 % 8))) (B1.1 3)) := f4_ok ..
      have hO := a3.fl lok
      rw [ok_sr a3]
      by_cases q : k / 256 % 2 = 0
      · rw [if_pos q, if_pos q, if_pos hO.2.2.2.2.2.2.2.1, pX1_joined _ _ _ _ _ hs, bd_some, lj.2.2, pX0_store_rg _ hs _ (by omega), pX7_joined _ _ _ _ hs, bd_some]
        refine Hd.fin rfl rfl (Or.inl ?_)
        rw [jo_c _ _ _ _ hs lj.2.1]
        have e1 : (sI M1 2 (lgS (k / 64 % 4) (logF how' r (B1.2.2 1 (k / 512 % 8))) (B1.1 3))).2.2 1 (k / 512 % 8) = B1.2.2 1 (k / 512 % 8) := a3.gD _ hr
        rw [e1]
        exact hO.sD _ hr _
      · rw [if_neg q, if_neg q, pX1_joined _ _ _ _ _ hs, bd_some, lj.1.2]
        have hsrt : M1.1 12 = 0 ∨ M1.1 12 = 2 := by
          rw [a6]
          refine sort_DA _ h6 ?_
          rcases hkd with ⟨-, b, -⟩ | ⟨-, b, -⟩ | ⟨-, -, b⟩
          · rw [← b]; exact hm
          · exact absurd b q
          · rw [b] at hm; exact (mf_sub _ h6).2.1 hm
        obtain ⟨B', M', s1, s2, s3⟩ := fin_store _ hs w _ _ _ a3 a4 a5 hsrt lok lj.1.1
        exact Hd.fin s1 (by rw [s2, bv_some]) s3
    · rw [l1, bd_some, l2, bd_some, pX0_load_rg _ hs _ (by omega), bd_some, pX7_mixed, bd_some, pX7_lg _ _ _ hs, bv_some]
      by_cases q : k / 256 % 2 = 0
      · rw [if_pos q, if_pos q, pX1_joined _ _ _ _ _ hs, bd_some, pX0_store_rg _ hs _ (by omega)]
        rw [if_neg (l3.sr 0 _).ne]
        exact Hd.fin rfl rfl (Or.inr ((l3.sr _ _).B_ _ _))
      · rw [if_neg q, if_neg q, pX1_joined _ _ _ _ _ hs, bd_some]
        obtain ⟨B', M', s1, s2, s3⟩ := trb_store _ hs w _ _ _ (l3.sr _ _)
        exact Hd.fin s1 (by rw [s2, bv_some]) (Or.inr s3)
  · rw [cmb_ill hk hs how kinds (by rw [hz]; exact hm), if_pos (show zI (!true) = 0 from rfl)]
    exact Hd.ill h hf rfl rfl
end H3
