/-! ===== lines 0 and 4, and all of them ===== -/
section HQ
variable {c0 : CB} {d0 : CM} {m0 : Nat → Int32} {B M : St}
theorem b1K (s : Nat) (told : Bool) (hs : s < 4) {α : Type} (K : Int32 → α) : (jn K fun K5 => (if nI s = 0 then (K5 (if told = true then 2045 else 4093)) else (K5 509))) = K (bK told s) := by
  rw [selPj]
  unfold bK
  by_cases q : s = 0
  · rw [q, if_pos (show nI 0 = 0 from rfl), if_pos rfl]
  · rw [if_neg (show ¬ nI s = 0 from nI_ne (b := 0) (by omega) (by decide) q), if_neg q]
theorem s1K (s : Nat) (hs : s < 4) {α : Type} (K : Bool → α) : (jn K fun K2 => (if nI s = 1 then (K2 true) else (K2 false))) = K (decide (s = 1)) := by
  rw [selPj]
  by_cases q : s = 1
  · rw [q, if_pos (show nI 1 = 1 from rfl), decide_eq_true rfl]
  · rw [if_neg (show ¬ nI s = 1 from nI_ne (b := 1) (by omega) (by decide) q), decide_eq_false q]
theorem line0 {k : Nat} (hk : k < 65536) (hop : M.1 5 = nI k) (h : Ok c0 d0 B M) (hf : Fr m0 B M) : Hd c0 d0 m0 (fX2_lineZero (nI k) B) (fX7_group0 M) := by
  have hs4 : k / 64 % 4 < 4 := by omega
  have e60 : (nI (k % 64) = 60) = (k % 64 = 60) := nqL 60 rfl (by omega) (by decide)
  -- what the class has found out about SR
  have key : ∀ b1 : Bool, (b1 = true ↔ k % 64 = 60 ∧ k / 64 % 4 < 2) → Hd c0 d0 m0 (bd (fX2_upper (nI k) B) fun r2 S3 => (if (nI k &&& 312) = 264 then (bv (fX2_movePeripheral (nI k) S3) fun S17 => (some S17))
    else (bd (fX2_isTo (nI k) S3) fun b2 S4 => (if (zI b2) = 0 then (if r2 = 4 then (bd (fX2_sizeBits (nI k) S4) fun r6 S13 => (jn (fun (v1 : Int32) => (bv (fX2_bit (nI k) v1 true S13) fun S14 => (some S14))) fun K5 =>
    (if r6 = 0 then (K5 2045)
    else (K5 509))))
    else (if (zI b1) = 0 then (bv (fX2_joinImmediate (nI k) S4) fun S5 => (some S5))
    else (if r2 = 0 then (bd (fX2_sizeBits (nI k) S4) fun r3 S6 => (jn (fun (b3 : Bool) => (bv (fX2_joinStatus r2 b3 S6) fun S7 => (some S7))) fun K2 =>
    (if r3 = 1 then (K2 true)
    else (K2 false))))
    else (if r2 = 1 then (bd (fX2_sizeBits (nI k) S4) fun r4 S8 => (jn (fun (b4 : Bool) => (bv (fX2_joinStatus r2 b4 S8) fun S9 => (some S9))) fun K3 =>
    (if r4 = 1 then (K3 true)
    else (K3 false))))
    else (if r2 = 5 then (bd (fX2_sizeBits (nI k) S4) fun r5 S11 => (jn (fun (b5 : Bool) => (bv (fX2_joinStatus r2 b5 S11) fun S12 => (some S12))) fun K4 =>
    (if r5 = 1 then (K4 true)
    else (K4 false))))
    else (bv (fX2_joinImmediate (nI k) S4) fun S10 => (some S10)))))))
    else (bd (fX2_sizeBits (nI k) S4) fun r7 S15 => (jn (fun (v2 : Int32) => (bv (fX2_bit (nI k) v2 false S15) fun S16 => (some S16))) fun K6 =>
    (if r7 = 0 then (K6 4093)
    else (K6 509)))))))) (fX7_group0 M) := by
    intro b1 hb1
    rw [f_upper hk, bd_some]
    by_cases q8 : k / 256 % 2 = 0
    · rw [if_neg (fun z => absurd ((a312 hk).mp z).1 (by omega)), f_isTo hk, bd_some, decide_eq_true q8, if_pos (show zI (!true) = 0 from rfl)]
      by_cases u4 : k / 512 % 8 = 4
      · rw [if_pos (show nI (k / 512 % 8) = 4 by rw [u4]; rfl), f_sizeBits hk, bd_some]
        have e : fX7_group0 M = fX7_oneBit (nI (k / 64 % 4)) true M := by
          have u4' : (nI (k / 512 % 8) = 4) = True := eq_true (by rw [u4]; rfl)
          unfold fX7_group0
          rw [lt_d, lt_d, hop, o_6 hk, o_9 hk, if_pos ((b8 hk).mpr q8), if_pos (show nI (k / 512 % 8) = 4 by rw [u4]; rfl), q_bb]
        have := b1K (k / 64 % 4) true hs4 (fun (v1 : Int32) => (bv (fX2_bit (nI k) v1 true B) fun S14 => (some S14)))
        rw [if_pos rfl] at this
        rw [this, e, q_bv]
        exact bits hk true hop h hf
      · have nu4 : ¬ nI (k / 512 % 8) = 4 := nI_ne (b := 4) (by omega) (by decide) u4
        rw [if_neg nu4]
        by_cases st : k % 64 = 60 ∧ k / 64 % 4 < 2
        · rw [hb1.mpr st, if_neg (show ¬ zI true = 0 by decide)]
          have tf : ∀ how' : Int32, (jn (fun (v3 : Int32) => v3) fun K1 =>
    (if nI (k / 512 % 8) = 0 then (K1 0)
    else (if nI (k / 512 % 8) = 1 then (K1 1)
    else (if nI (k / 512 % 8) = 5 then (K1 2)
    else (K1 3))))) = how' → ¬ 3 ≤ how' → fX7_group0 M = fX7_toFlags how' M := by
            intro how' he h3
            have hw : ∀ {α : Type} (K : Int32 → α), (jn K fun K1 => (if nI (k / 512 % 8) = 0 then (K1 0)
    else (if nI (k / 512 % 8) = 1 then (K1 1)
    else (if nI (k / 512 % 8) = 5 then (K1 2)
    else (K1 3))))) = K how' := by
              intro α K
              rw [← he, jn_d, jn_d]
              split
              · rfl
              · split
                · rfl
                · split <;> rfl
            unfold fX7_group0
            rw [lt_d, lt_d, hop, o_6 hk, o_9 hk, if_pos ((b8 hk).mpr q8), if_neg nu4, hw, o_63 hk, if_pos (show nI (k % 64) = 60 by rw [st.1]; rfl), if_neg (show ¬ 2 ≤ nI (k / 64 % 4) by rw [le2 _ hs4]; omega), if_neg h3, q_bb]
          by_cases u0 : k / 512 % 8 = 0
          · have e := tf 0 (by rw [jn_d, u0]; rfl) (by decide)
            rw [u0, if_pos (show nI 0 = 0 from rfl), f_sizeBits hk, bd_some, s1K _ hs4, q_bv, e]
            exact jst hk st.2 hop h hf (Or.inl ⟨rfl, rfl⟩) _ rfl
          · rw [if_neg (show ¬ nI (k / 512 % 8) = 0 from nI_ne (b := 0) (by omega) (by decide) u0)]
            by_cases u1 : k / 512 % 8 = 1
            · have e := tf 1 (by rw [jn_d, u1]; rfl) (by decide)
              rw [u1, if_pos (show nI 1 = 1 from rfl), f_sizeBits hk, bd_some, s1K _ hs4, q_bv, e]
              exact jst hk st.2 hop h hf (Or.inr (Or.inl ⟨rfl, rfl⟩)) _ rfl
            · rw [if_neg (show ¬ nI (k / 512 % 8) = 1 from nI_ne (b := 1) (by omega) (by decide) u1)]
              by_cases u5 : k / 512 % 8 = 5
              · have e := tf 2 (by rw [jn_d, u5]; rfl) (by decide)
                rw [u5, if_pos (show nI 5 = 5 from rfl), f_sizeBits hk, bd_some, s1K _ hs4, q_bv, e]
                exact jst hk st.2 hop h hf (Or.inr (Or.inr ⟨rfl, rfl⟩)) _ rfl
              · rw [if_neg (show ¬ nI (k / 512 % 8) = 5 from nI_ne (b := 5) (by omega) (by decide) u5), q_bv]
                exact jim hk q8 u4 (by omega) hop h hf
        · have : b1 = false := by
            cases b1
            · rfl
            · exact absurd (hb1.mp rfl) st
          rw [this, if_pos zI_f, q_bv]
          exact jim hk q8 u4 (fun z => st ⟨z.1, z.2.1⟩) hop h hf
    · by_cases m1 : k / 8 % 8 = 1
      · rw [if_pos ((a312 hk).mpr ⟨by omega, m1⟩), q_bv]
        have e : fX7_group0 M = fX7_movePeripheral M := by
          unfold fX7_group0
          rw [lt_d, lt_d, hop, if_neg (fun z => q8 ((b8 hk).mp z)), t24 hk, m1, if_pos (show nI 1 = 1 from rfl), q_bb]
        rw [e]
        exact mvp hk hop h hf
      · rw [if_neg (fun z => m1 ((a312 hk).mp z).2), f_isTo hk, bd_some, decide_eq_false q8, if_neg (show ¬ zI (!false) = 0 by decide), f_sizeBits hk, bd_some]
        have e : fX7_group0 M = fX7_oneBit (nI (k / 64 % 4)) false M := by
          unfold fX7_group0
          rw [lt_d, lt_d, hop, if_neg (fun z => q8 ((b8 hk).mp z)), t24 hk, if_neg (show ¬ nI (k / 8 % 8) = 1 from nI_ne (b := 1) (by omega) (by decide) m1), o_6 hk, q_bb]
        have := b1K (k / 64 % 4) false hs4 (fun (v1 : Int32) => (bv (fX2_bit (nI k) v1 false B) fun S14 => (some S14)))
        rw [if_neg (by decide)] at this
        rw [this, e, q_bv]
        exact bits hk false hop h hf
  unfold fX2_lineZero
  rw [f_operand hk, bd_some, jn_d]
  by_cases z : k % 64 = 60
  · rw [if_pos (show nI (k % 64) = 60 by rw [z]; rfl), f_sizeBits hk, bd_some]
    by_cases s2 : 2 ≤ k / 64 % 4
    · rw [if_pos (show 2 ≤ nI (k / 64 % 4) by rw [le2 _ hs4]; exact s2)]
      exact key false ⟨fun q => absurd q (by decide), fun q => by omega⟩
    · rw [if_neg (show ¬ 2 ≤ nI (k / 64 % 4) by rw [le2 _ hs4]; exact s2)]
      exact key true ⟨fun _ => ⟨z, by omega⟩, fun _ => rfl⟩
  · rw [if_neg (show ¬ nI (k % 64) = 60 from nI_ne (b := 60) (by omega) (by decide) z)]
    exact key false ⟨fun q => absurd q (by decide), fun q => absurd q.1 z⟩
/-! line 4 -/
theorem sgl_ill {k : Nat} (hk : k < 65536) (hc : ¬ k / 256 % 2 = 0 ∨ k / 64 % 4 = 3 ∨ 5 < k / 512 % 8) (B : St) : fX2_single (nI k) B = some (rs B 4) := by
  unfold fX2_single
  rw [f_upper hk, bd_some, f_isTo hk, bd_some]
  by_cases q8 : k / 256 % 2 = 0
  · rw [decide_eq_true q8, if_pos (show zI (!true) = 0 from rfl), f_sizeBits hk, bd_some]
    by_cases s3 : k / 64 % 4 = 3
    · rw [if_pos (show nI (k / 64 % 4) = 3 by rw [s3]; rfl), pX2_illegal, bv_some]
    · have : ∀ u, u < 8 → 5 < u → ¬ nI u ≤ 5 := by decide
      rw [if_neg (ne3 s3), if_neg (this _ (by omega) (by omega)), pX2_illegal, bv_some]
  · rw [decide_eq_false q8, if_neg (show ¬ zI (!false) = 0 by decide), pX2_illegal, bv_some]
theorem g4_w {k : Nat} (hk : k < 65536) (q8 : k / 256 % 2 = 0) (hop : M.1 5 = nI k) : fX7_group4 M = (if 8 ≤ nI (k / 256 % 16) then (if nI (k / 256 % 16) = 8 then fX7_group48 M
    else (if nI (k / 256 % 16) = 10 then (if k / 64 % 4 = 3 then fX7_group4 M else fX7_unary 10 M)
    else (if nI (k / 256 % 16) = 12 then (if (nI k &&& 128) = 0 then (some (false, M)) else fX7_many false M)
    else fX7_group4e M)))
    else (if k / 64 % 4 = 3 then fX7_statusMove (nI (k / 256 % 16)) M else fX7_unary (nI (k / 256 % 16)) M)) := by
  by_cases s3 : k / 64 % 4 = 3
  · by_cases w10 : nI (k / 256 % 16) = 10
    · rw [if_pos (by rw [w10]; decide), if_neg (by rw [w10]; decide), if_pos w10, if_pos s3]
    · conv => lhs; unfold fX7_group4
      rw [hop, if_pos ((b8 hk).mpr q8), lt_d, o_8 hk, o_6 hk, selPj, if_pos (show nI (k / 64 % 4) = 3 by rw [s3]; rfl), if_neg w10, if_neg w10, if_neg w10, if_neg (show ¬ zI true = 0 by decide), if_pos s3, q_bb, q_bb, q_bb, q_bz]
  · conv => lhs; unfold fX7_group4
    rw [hop, if_pos ((b8 hk).mpr q8), lt_d, o_8 hk, o_6 hk, selPj, if_neg (ne3 s3), if_neg s3, if_neg s3, if_pos zI_f]
    by_cases w8 : 8 ≤ nI (k / 256 % 16)
    · rw [if_pos w8, if_pos w8]
      by_cases w88 : nI (k / 256 % 16) = 8
      · rw [if_pos w88, if_pos w88, q_bb]
      · rw [if_neg w88, if_neg w88]
        by_cases w10 : nI (k / 256 % 16) = 10
        · simp only [w10, zf, if_true, q_bb]
        · rw [if_neg w10, if_neg w10, if_neg w10, q_bz, q_bb]
    · rw [if_neg w8, if_neg w8, q_bb]
      simp only [zf, if_true]
theorem stm_2 {k : Nat} (hk : k < 65536) (hop : M.1 5 = nI k) : fX7_statusMove 2 M = some (false, M) := by
  have hft := ft_DATA 1 (by decide) (k % 64) (by omega)
  rw [szB1] at hft
  unfold fX7_statusMove
  rw [lt_d, hop, o_63 hk, selPj, if_neg (by decide), ft_of hft, bd_some, if_pos rfl]
  split <;> rfl
theorem line4 {k : Nat} (hk : k < 65536) (hop : M.1 5 = nI k) (h : Ok c0 d0 B M) (hf : Fr m0 B M) : Hd c0 d0 m0 (fX2_lineFour (nI k) B) (fX7_group4 M) := by
  unfold fX2_lineFour
  rw [f_isTo hk, bd_some, selZj]
  by_cases q8 : k / 256 % 2 = 0
  · rw [decide_eq_true q8, if_neg (show ¬ (!true) = true by decide), a4032 hk]
    have hu : k / 512 % 8 = 0 ∨ k / 512 % 8 = 1 ∨ k / 512 % 8 = 2 ∨ k / 512 % 8 = 3 ∨ k / 512 % 8 = 4 ∨ k / 512 % 8 = 5 ∨ k / 512 % 8 = 6 ∨ k / 512 % 8 = 7 := by omega
    have hs : k / 64 % 4 = 0 ∨ k / 64 % 4 = 1 ∨ k / 64 % 4 = 2 ∨ k / 64 % 4 = 3 := by omega
    have gw := g4_w hk q8 hop
    have iv : 64 * (k / 64 % 64) = 512 * (k / 512 % 8) + 64 * (k / 64 % 4) := by omega
    have w : k / 256 % 16 = 2 * (k / 512 % 8) := by omega
    rw [iv]
    rw [w] at gw
    rcases hu with u | u | u | u | u | u | u | u
    · rw [u] at gw
      simp (decide := true) only [Nat.mul_zero, if_true, if_false] at gw
      by_cases s3 : k / 64 % 4 = 3
      · rw [u, s3]
        simp (decide := true) only [if_true, if_false, q_bv]
        rw [gw, if_pos s3]
        exact mfs hk hop h hf
      · rw [u]
        rcases hs with s | s | s | s
        all_goals first | exact absurd s s3 | skip
        all_goals rw [s]
        all_goals simp (decide := true) only [if_true, if_false, q_bv]
        all_goals rw [gw, if_neg s3]
        all_goals exact one_op hk (by omega) q8 (Or.inl ⟨u, rfl⟩) hop h hf
    · rw [u] at gw
      simp (decide := true) only [Nat.mul_one, if_true, if_false] at gw
      by_cases s3 : k / 64 % 4 = 3
      · rw [u, s3]
        simp (decide := true) only [if_true, if_false, q_bv]
        rw [gw, if_pos s3, sgl_ill hk (Or.inr (Or.inl s3))]
        exact Hd.ill h hf rfl (stm_2 hk hop)
      · rw [u]
        rcases hs with s | s | s | s
        all_goals first | exact absurd s s3 | skip
        all_goals rw [s]
        all_goals simp (decide := true) only [if_true, if_false, q_bv]
        all_goals rw [gw, if_neg s3]
        all_goals exact one_op hk (by omega) q8 (Or.inr (Or.inl ⟨u, rfl⟩)) hop h hf
    · rw [u] at gw
      simp (decide := true) only [if_true, if_false] at gw
      by_cases s3 : k / 64 % 4 = 3
      · rw [u, s3]
        simp (decide := true) only [if_true, if_false, q_bv]
        rw [gw, if_pos s3]
        exact mt4 hk (by omega) hop h hf
      · rw [u]
        rcases hs with s | s | s | s
        all_goals first | exact absurd s s3 | skip
        all_goals rw [s]
        all_goals simp (decide := true) only [if_true, if_false, q_bv]
        all_goals rw [gw, if_neg s3]
        all_goals exact one_op hk (by omega) q8 (Or.inr (Or.inr (Or.inl ⟨u, rfl⟩))) hop h hf
    · rw [u] at gw
      simp (decide := true) only [if_true, if_false] at gw
      by_cases s3 : k / 64 % 4 = 3
      · rw [u, s3]
        simp (decide := true) only [if_true, if_false, q_bv]
        rw [gw, if_pos s3]
        exact mt6 hk (by omega) hop h hf
      · rw [u]
        rcases hs with s | s | s | s
        all_goals first | exact absurd s s3 | skip
        all_goals rw [s]
        all_goals simp (decide := true) only [if_true, if_false, q_bv]
        all_goals rw [gw, if_neg s3]
        all_goals exact one_op hk (by omega) q8 (Or.inr (Or.inr (Or.inr (Or.inl ⟨u, rfl⟩)))) hop h hf
    · rw [u] at gw
      simp (decide := true) only [if_true, if_false] at gw
      rw [u, gw]
      rcases hs with s | s | s | s
      · rw [s]
        simp (decide := true) only [if_true, if_false, q_bv]
        exact neg_dec hk s hop h hf
      · rw [s]
        simp (decide := true) only [if_true, if_false, q_bv]
        exact swp_pea hk s hop h hf
      · rw [s]
        simp (decide := true) only [if_true, if_false, q_bv]
        exact ext_st hk (by omega) hop h hf
      · rw [s]
        simp (decide := true) only [if_true, if_false, q_bv]
        exact ext_st hk (by omega) hop h hf
    · rw [u] at gw
      simp (decide := true) only [if_true, if_false] at gw
      by_cases s3 : k / 64 % 4 = 3
      · rw [u, s3]
        simp (decide := true) only [if_true, if_false, q_bv]
        exact tas hk s3 (by omega) hop h hf
      · rw [u]
        rcases hs with s | s | s | s
        all_goals first | exact absurd s s3 | skip
        all_goals rw [s]
        all_goals simp (decide := true) only [if_true, if_false, q_bv]
        all_goals rw [gw, if_neg s3]
        all_goals exact one_op hk (by omega) q8 (Or.inr (Or.inr (Or.inr (Or.inr ⟨u, rfl⟩)))) hop h hf
    · rw [u] at gw
      simp (decide := true) only [if_true, if_false] at gw
      rw [u, gw]
      rcases hs with s | s | s | s
      · rw [s]
        simp (decide := true) only [if_true, if_false, q_bv]
        rw [if_pos ((b7 hk).mpr (by omega)), sgl_ill hk (Or.inr (Or.inr (by omega)))]
        exact Hd.ill h hf rfl rfl
      · rw [s]
        simp (decide := true) only [if_true, if_false, q_bv]
        rw [if_pos ((b7 hk).mpr (by omega)), sgl_ill hk (Or.inr (Or.inr (by omega)))]
        exact Hd.ill h hf rfl rfl
      · rw [s]
        simp (decide := true) only [if_true, if_false, q_bv]
        rw [if_neg (fun z => absurd ((b7 hk).mp z) (by omega))]
        exact loadM hk hop h hf
      · rw [s]
        simp (decide := true) only [if_true, if_false, q_bv]
        rw [if_neg (fun z => absurd ((b7 hk).mp z) (by omega))]
        exact loadM hk hop h hf
    · rw [u] at gw
      simp (decide := true) only [if_true, if_false] at gw
      rw [u, gw]
      rcases hs with s | s | s | s
      · rw [s]
        simp (decide := true) only [if_true, if_false, q_bv]
        rw [sgl_ill hk (Or.inr (Or.inr (by omega)))]
        refine Hd.ill h hf rfl ?_
        have tt : ∀ t, t < 4 → ¬ nI t = 4 ∧ ¬ nI t = 5 ∧ ¬ nI t = 6 ∧ ¬ nI t = 7 ∧ nI t ≤ 7 := by decide
        obtain ⟨t4, t5, t6, t7, tl⟩ := tt (k / 16 % 16) (by omega)
        unfold fX7_group4e
        rw [lt_d, lt_d, hop, o_4 hk, selPj, if_neg t4, if_neg t5, if_neg t5, if_neg t6, if_neg t7, if_pos tl]
      · rw [s]
        simp (decide := true) only [if_true, if_false, q_bv]
        exact spc hk s hop h hf
      · rw [s]
        simp (decide := true) only [if_true, if_false, q_bv]
        exact jmp hk (by omega) hop h hf
      · rw [s]
        simp (decide := true) only [if_true, if_false, q_bv]
        exact jmp hk (by omega) hop h hf
  · rw [decide_eq_false q8, if_pos (show (!false) = true from rfl), a448 hk]
    have g : fX7_group4 M = fX7_checkOrAddress M := by
      unfold fX7_group4
      rw [hop, if_neg (fun z => q8 ((b8 hk).mp z)), q_bb]
    have iv : 64 * (k / 64 % 8) = 256 + 64 * (k / 64 % 4) := by omega
    have hs : k / 64 % 4 = 0 ∨ k / 64 % 4 = 1 ∨ k / 64 % 4 = 2 ∨ k / 64 % 4 = 3 := by omega
    rw [iv, g]
    rcases hs with s | s | s | s
    · rw [s]
      simp (decide := true) only [if_true, if_false, q_bv]
      rw [sgl_ill hk (Or.inl q8)]
      refine Hd.ill h hf rfl ?_
      unfold fX7_checkOrAddress
      rw [lt_d, lt_d, hop, o_6 hk, s, if_pos (show nI 0 < 2 by decide)]
    · rw [s]
      simp (decide := true) only [if_true, if_false, q_bv]
      rw [sgl_ill hk (Or.inl q8)]
      refine Hd.ill h hf rfl ?_
      unfold fX7_checkOrAddress
      rw [lt_d, lt_d, hop, o_6 hk, s, if_pos (show nI 1 < 2 by decide)]
    · rw [s]
      simp (decide := true) only [if_true, if_false, q_bv]
      exact chk hk s hop h hf
    · rw [s]
      simp (decide := true) only [if_true, if_false, q_bv]
      exact lea hk s hop h hf
end HQ
