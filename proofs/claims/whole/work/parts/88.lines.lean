/-! ===== the lines ===== -/
theorem a511 {k : Nat} (hk : k < 65536) (m : Int32) (hm : (511 : Int32) &&& m = m) : nI k &&& m = nI (k % 512) &&& m := by
  rw [← pk_andN (n := k) (by omega) (m := 511) 9 (by decide), and_and, hm]
theorem j304 : ∀ a, a < 16 → ∀ b, b < 32 → (nI (32 * a + b) &&& 304 = 256 ↔ (32 * a + b) / 256 % 2 = 1 ∧ nI (32 * a + b) &&& 48 = 0) := by decide +kernel
theorem j496 : ∀ a, a < 16 → ∀ b, b < 32 → (nI (32 * a + b) &&& 496 = 256 ↔ (32 * a + b) / 256 % 2 = 1 ∧ nI (32 * a + b) &&& 240 = 0) := by decide +kernel
theorem j504 : ∀ a, a < 16 → ∀ b, b < 32 → nI (32 * a + b) &&& 504 = nI ((32 * a + b) / 8 * 8) := by decide +kernel
theorem j240 : ∀ a, a < 16 → ∀ b, b < 32 → (nI (32 * a + b) &&& 240 = 0 ↔ (32 * a + b) / 16 % 16 = 0) := by decide +kernel
theorem j312 : ∀ a, a < 16 → ∀ b, b < 32 → (nI (32 * a + b) &&& 312 = 264 ↔ (32 * a + b) / 256 % 2 = 1 ∧ (32 * a + b) / 8 % 8 = 1) := by decide +kernel
theorem j4032 : ∀ a, a < 64 → ∀ b, b < 64 → nI (64 * a + b) &&& 4032 = nI (64 * a) := by decide +kernel
theorem split512 (k : Nat) : k % 512 = 32 * (k / 32 % 16) + k % 32 := by omega
theorem a304 {k : Nat} (hk : k < 65536) : nI k &&& 304 = 256 ↔ k / 256 % 2 = 1 ∧ nI k &&& 48 = 0 := by
  rw [a511 hk 304 (by decide), a511 hk 48 (by decide), split512 k, j304 _ (by omega) _ (by omega)]
  have : (32 * (k / 32 % 16) + k % 32) / 256 % 2 = k / 256 % 2 := by omega
  rw [this]
theorem a496 {k : Nat} (hk : k < 65536) : nI k &&& 496 = 256 ↔ k / 256 % 2 = 1 ∧ nI k &&& 240 = 0 := by
  rw [a511 hk 496 (by decide), a511 hk 240 (by decide), split512 k, j496 _ (by omega) _ (by omega)]
  have : (32 * (k / 32 % 16) + k % 32) / 256 % 2 = k / 256 % 2 := by omega
  rw [this]
theorem a504 {k : Nat} (hk : k < 65536) : nI k &&& 504 = nI (k % 512 / 8 * 8) := by
  rw [a511 hk 504 (by decide), split512 k, j504 _ (by omega) _ (by omega)]
theorem a240 {k : Nat} (hk : k < 65536) : nI k &&& 240 = 0 ↔ k / 16 % 16 = 0 := by
  rw [a511 hk 240 (by decide), split512 k, j240 _ (by omega) _ (by omega)]
  have : (32 * (k / 32 % 16) + k % 32) / 16 % 16 = k / 16 % 16 := by omega
  rw [this]
theorem a312 {k : Nat} (hk : k < 65536) : nI k &&& 312 = 264 ↔ k / 256 % 2 = 1 ∧ k / 8 % 8 = 1 := by
  rw [a511 hk 312 (by decide), split512 k, j312 _ (by omega) _ (by omega)]
  have e1 : (32 * (k / 32 % 16) + k % 32) / 256 % 2 = k / 256 % 2 := by omega
  have e2 : (32 * (k / 32 % 16) + k % 32) / 8 % 8 = k / 8 % 8 := by omega
  rw [e1, e2]
theorem a4032 {k : Nat} (hk : k < 65536) : nI k &&& 4032 = nI (64 * (k / 64 % 64)) := by
  have e : nI k &&& 4032 = nI (k % 4096) &&& 4032 := by
    rw [← pk_andN (n := k) (by omega) (m := 4095) 12 (by decide), and_and]; rfl
  rw [e, show k % 4096 = 64 * (k / 64 % 64) + k % 64 by omega, j4032 _ (by omega) _ (by omega)]
theorem a448 {k : Nat} (hk : k < 65536) : nI k &&& 448 = nI (64 * (k / 64 % 8)) := by
  have j : ∀ a, a < 8 → ∀ b, b < 64 → nI (64 * a + b) &&& 448 = nI (64 * a) := by decide +kernel
  rw [a511 hk 448 (by decide), show k % 512 = 64 * (k / 64 % 8) + k % 64 by omega, j _ (by omega) _ (by omega)]
section HP
variable {c0 : CB} {d0 : CM} {m0 : Nat → Int32} {B M : St}
theorem ne3 {k : Nat} (s3 : ¬ k / 64 % 4 = 3) : ¬ nI (k / 64 % 4) = 3 := nI_ne (b := 3) (by omega) (by decide) s3
theorem line913 {k : Nat} (hk : k < 65536) (hop : M.1 5 = nI k) (h : Ok c0 d0 B M) (hf : Fr m0 B M) {how : Int32} {less : Bool} (hw : lsR how less) : Hd c0 d0 m0 (fX2_sums (nI k) how B) (fX7_sumPair less M) := by
  unfold fX2_sums
  rw [f_sizeBits hk, bd_some]
  by_cases s3 : k / 64 % 4 = 3
  · rw [if_pos (show nI (k / 64 % 4) = 3 by rw [s3]; rfl), q_bv]
    exact adr_sum hk s3 hop h hf hw
  · have hs : k / 64 % 4 < 3 := by omega
    rw [if_neg (ne3 s3)]
    by_cases q : nI k &&& 304 = 256
    · have := (a304 hk).mp q
      rw [if_pos q, q_bv]
      exact pair_x hk hs hop (by omega) this.2 h hf hw
    · rw [if_neg q, f_isTo hk, bd_some, jn_d]
      by_cases q8 : k / 256 % 2 = 0
      · rw [decide_eq_true q8, if_pos (show zI (!true) = 0 from rfl)]
        dsimp only
        rw [q_bv]
        exact pair_sum hk hs hop h hf hw (Or.inl ⟨q8, rfl⟩)
      · rw [decide_eq_false q8, if_neg (show ¬ zI (!false) = 0 by decide)]
        dsimp only
        rw [q_bv]
        exact pair_sum hk hs hop h hf hw (Or.inr ⟨q8, fun z => q ((a304 hk).mpr ⟨by omega, z⟩), rfl⟩)
theorem line11 {k : Nat} (hk : k < 65536) (hop : M.1 5 = nI k) (h : Ok c0 d0 B M) (hf : Fr m0 B M) : Hd c0 d0 m0 (fX2_lineEleven (nI k) B) (fX7_group11 M) := by
  have h6 : k % 64 < 64 := by omega
  unfold fX2_lineEleven
  rw [f_sizeBits hk, bd_some]
  by_cases s3 : k / 64 % 4 = 3
  · rw [if_pos (show nI (k / 64 % 4) = 3 by rw [s3]; rfl), q_bv]
    exact adr_cmp hk s3 hop h hf
  · have hs : k / 64 % 4 < 3 := by omega
    rw [if_neg (ne3 s3), f_isTo hk, bd_some]
    by_cases q8 : k / 256 % 2 = 0
    · rw [decide_eq_true q8, if_pos (show zI (!true) = 0 from rfl), q_bv]
      exact cmp_one hk hs q8 hop h hf
    · rw [decide_eq_false q8, if_neg (show ¬ zI (!false) = 0 by decide), f_operand hk, bd_some, (k6s _ h6).1]
      by_cases m1 : k % 64 / 8 = 1
      · rw [if_pos (show nI (k % 64 / 8) = 1 by rw [m1]; rfl), q_bv]
        exact cmp_pair hk hs q8 (by omega) hop h hf
      · rw [if_neg (show ¬ nI (k % 64 / 8) = 1 from nI_ne (b := 1) (by omega) (by decide) m1), q_bv]
        have e : fX7_group11 M = fX7_logicPair 2 M := by
          have m2 : (nI (k / 8 % 8) = 1) = False := eq_false (nI_ne (b := 1) (by omega) (by decide) (by omega))
          unfold fX7_group11
          simp only [lt_x, jn_x, hop, o_6 hk, t24 hk, m2, v3lt _ hs, n256 hk q8, zt, if_false, q_bb]
        rw [e]
        exact pair_log hk hs hop h hf (Or.inr (Or.inr ⟨rfl, rfl⟩)) (Or.inl ⟨rfl, rfl, q8⟩)
theorem line8 {k : Nat} (hk : k < 65536) (hop : M.1 5 = nI k) (h : Ok c0 d0 B M) (hf : Fr m0 B M) : Hd c0 d0 m0 (fX2_lineEight (nI k) B) (fX7_group8or12 false M) := by
  unfold fX2_lineEight
  rw [f_sizeBits hk, bd_some]
  by_cases s3 : k / 64 % 4 = 3
  · rw [if_pos (show nI (k / 64 % 4) = 3 by rw [s3]; rfl), f_isTo hk, bd_some, q_bv]
    have e : fX7_group8or12 false M = fX7_divide (!decide (k / 256 % 2 = 0)) M := by
      unfold fX7_group8or12
      rw [lt_d, hop, o_6 hk, jV (isl hk), if_pos (show nI (k / 64 % 4) = 3 by rw [s3]; rfl), if_pos zI_f, q_bb]
    rw [e]
    exact dvd hk _ hop h hf
  · have hs : k / 64 % 4 < 3 := by omega
    rw [if_neg (ne3 s3)]
    by_cases q8 : k / 256 % 2 = 0
    · rw [if_neg (fun z => absurd ((a496 hk).mp z).1 (by omega)), f_isTo hk, bd_some, jn_d, decide_eq_true q8, if_pos (show zI (!true) = 0 from rfl)]
      dsimp only
      rw [q_bv]
      have e : fX7_group8or12 false M = fX7_logicPair 0 M := by
        unfold fX7_group8or12
        simp only [lt_x, jn_x, hop, o_6 hk, nI3 hs, e256 hk q8, zf, if_true, if_false, q_bb]
        rfl
      rw [e]
      exact pair_log hk hs hop h hf (Or.inl ⟨rfl, rfl⟩) (Or.inr (Or.inl ⟨by decide, q8, rfl⟩))
    · by_cases q : nI k &&& 240 = 0
      · rw [if_pos ((a496 hk).mpr ⟨by omega, q⟩), q_bv]
        have e : fX7_group8or12 false M = fX7_decimal true M := by
          unfold fX7_group8or12
          simp only [lt_x, jn_x, hop, o_6 hk, nI3 hs, n256 hk q8, eq_true q, zf, zt, if_true, if_false, q_bb]
        rw [e]
        exact dec_pair hk hop h hf ls2
      · rw [if_neg (fun z => q ((a496 hk).mp z).2), f_isTo hk, bd_some, jn_d, decide_eq_false q8, if_neg (show ¬ zI (!false) = 0 by decide)]
        dsimp only
        rw [q_bv]
        have e : fX7_group8or12 false M = fX7_logicPair 0 M := by
          unfold fX7_group8or12
          simp only [lt_x, jn_x, hop, o_6 hk, nI3 hs, n256 hk q8, eq_false q, zf, zt, if_true, if_false, q_bb]
          rfl
        rw [e]
        exact pair_log hk hs hop h hf (Or.inl ⟨rfl, rfl⟩) (Or.inr (Or.inr ⟨by decide, q8, rfl⟩))
theorem n504 {k : Nat} (L : Nat) (hL : L < 512) (hk : k < 65536) {x : Int32} (hx : x = nI L) : (nI k &&& 504 = x) = (k % 512 / 8 * 8 = L) := by
  rw [a504 hk, hx]
  exact propext (nI_eq (by omega) (by omega))
theorem line12 {k : Nat} (hk : k < 65536) (hop : M.1 5 = nI k) (h : Ok c0 d0 B M) (hf : Fr m0 B M) : Hd c0 d0 m0 (fX2_lineTwelve (nI k) B) (fX7_group8or12 true M) := by
  have hx : k / 512 % 8 < 8 := by omega
  have hy : k % 8 < 8 := by omega
  unfold fX2_lineTwelve
  rw [f_sizeBits hk, bd_some]
  by_cases s3 : k / 64 % 4 = 3
  · rw [if_pos (show nI (k / 64 % 4) = 3 by rw [s3]; rfl), f_isTo hk, bd_some, q_bv]
    have e : fX7_group8or12 true M = fX7_multiply (!decide (k / 256 % 2 = 0)) M := by
      unfold fX7_group8or12
      rw [lt_d, hop, o_6 hk, jV (isl hk), if_pos (show nI (k / 64 % 4) = 3 by rw [s3]; rfl), if_neg (show ¬ zI true = 0 by decide), q_bb]
    rw [e]
    exact mul hk _ hop h hf
  · have hs : k / 64 % 4 < 3 := by omega
    rw [if_neg (ne3 s3)]
    have e256' := n504 256 (by decide) hk (x := 256) rfl
    have e264' := n504 264 (by decide) hk (x := 264) rfl
    have e320' := n504 320 (by decide) hk (x := 320) rfl
    have e328' := n504 328 (by decide) hk (x := 328) rfl
    have e392' := n504 392 (by decide) hk (x := 392) rfl
    have lg : fX7_group8or12 true M = fX7_logicPair 1 M → Hd c0 d0 m0 (bd (fX2_isTo (nI k) B) fun b1 S13 => (jn (fun (v1 : Int32) => (bv (fX2_combine (nI k) 1 v1 S13) fun S14 => (some S14))) fun K1 =>
    (if (zI b1) = 0 then (K1 4093)
    else (K1 508)))) (fX7_group8or12 true M) := by
      intro e
      rw [e, f_isTo hk, bd_some, jn_d]
      by_cases q8 : k / 256 % 2 = 0
      · rw [decide_eq_true q8, if_pos (show zI (!true) = 0 from rfl)]
        dsimp only
        rw [q_bv]
        exact pair_log hk hs hop h hf (Or.inr (Or.inl ⟨rfl, rfl⟩)) (Or.inr (Or.inl ⟨by decide, q8, rfl⟩))
      · rw [decide_eq_false q8, if_neg (show ¬ zI (!false) = 0 by decide)]
        dsimp only
        rw [q_bv]
        exact pair_log hk hs hop h hf (Or.inr (Or.inl ⟨rfl, rfl⟩)) (Or.inr (Or.inr ⟨by decide, q8, rfl⟩))
    by_cases q8 : k / 256 % 2 = 0
    · rw [if_neg (by rw [e256']; omega), if_neg (by rw [e264']; omega), if_neg (by rw [e320']; omega), if_neg (by rw [e328']; omega), if_neg (by rw [e392']; omega)]
      refine lg ?_
      have n0 : (nI k &&& 320 = 320) = (nI k &&& 320 = 320) := rfl
      unfold fX7_group8or12
      have f1 : (nI k &&& 504 = 320) = False := by rw [e320']; exact eq_false (by omega)
      have f2 : (nI k &&& 504 = 328) = False := by rw [e328']; exact eq_false (by omega)
      have f3 : (nI k &&& 504 = 392) = False := by rw [e392']; exact eq_false (by omega)
      simp only [lt_x, jn_x, hop, o_6 hk, nI3 hs, e256 hk q8, zf, zt, f1, f2, f3, if_true, if_false, q_bb]
      rfl
    · by_cases q : k / 16 % 16 = 0
      · have q240 : nI k &&& 240 = 0 := (a240 hk).mpr q
        have e : fX7_group8or12 true M = fX7_decimal false M := by
          unfold fX7_group8or12
          simp only [lt_x, jn_x, hop, o_6 hk, nI3 hs, n256 hk q8, eq_true q240, zf, zt, if_true, if_false, q_bb]
        by_cases q2 : k % 512 / 8 * 8 = 256
        · rw [if_pos (by rw [e256']; exact q2), q_bv, e]
          exact dec_pair hk hop h hf ls3
        · rw [if_neg (by rw [e256']; exact q2), if_pos (by rw [e264']; omega), q_bv, e]
          exact dec_pair hk hop h hf ls3
      · have q240 : ¬ nI k &&& 240 = 0 := fun z => q ((a240 hk).mp z)
        rw [if_neg (by rw [e256']; omega), if_neg (by rw [e264']; omega)]
        by_cases x1 : k % 512 / 8 * 8 = 320
        · have f1 : (nI k &&& 504 = 320) = True := by rw [e320']; exact eq_true x1
          rw [if_pos (by rw [e320']; exact x1), f_upper hk, bd_some, f_lower hk, bd_some, q_bv]
          have e : fX7_group8or12 true M = some (true, sA (sA M 1 (k / 512 % 8) (B.2.2 1 (k % 8))) 1 (k % 8) (B.2.2 1 (k / 512 % 8))) := by
            unfold fX7_group8or12
            simp only [lt_x, jn_x, hop, o_6 hk, o_9 hk, o_7 hk, nI3 hs, n256 hk q8, eq_false q240, zt, f1, if_true, if_false, gd_t (ix8 hx), gd_t (ix8 hy), cl8 hx, cl8 hy, h.gD _ hx, h.gD _ hy]
          obtain ⟨p1, p2⟩ := xg_DD hx hy h
          rw [p1, e]
          exact Hd.ok p2
        · have f1 : (nI k &&& 504 = 320) = False := by rw [e320']; exact eq_false x1
          rw [if_neg (by rw [e320']; exact x1)]
          by_cases x2 : k % 512 / 8 * 8 = 328
          · have f2 : (nI k &&& 504 = 328) = True := by rw [e328']; exact eq_true x2
            have f3 : (nI k &&& 504 = 392) = False := by rw [e392']; exact eq_false (by omega)
            rw [if_pos (by rw [e328']; exact x2), f_upper hk, bd_some, f_lower hk, bd_some, q_bv]
            have e : fX7_group8or12 true M = (bd (fX7_getA (nI (k / 512 % 8)) M) fun r1 S3 => (bd (fX7_getA (nI (k % 8)) S3) fun r2 S4 => (bv (fX7_setA (nI (k / 512 % 8)) r2 S4) fun S5 => (bv (fX7_setA (nI (k % 8)) r1 S5) fun S6 => (some (true, S6)))))) := by
              unfold fX7_group8or12
              simp only [lt_x, jn_x, hop, o_6 hk, o_9 hk, o_7 hk, nI3 hs, n256 hk q8, eq_false q240, zt, f1, f2, f3, if_true, if_false]
            rw [e]
            exact xg_AA hx hy h
          · have f2 : (nI k &&& 504 = 328) = False := by rw [e328']; exact eq_false x2
            rw [if_neg (by rw [e328']; exact x2)]
            by_cases x3 : k % 512 / 8 * 8 = 392
            · have f3 : (nI k &&& 504 = 392) = True := by rw [e392']; exact eq_true x3
              rw [if_pos (by rw [e392']; exact x3), f_upper hk, bd_some, f_lower hk, bd_some, q_bv]
              have e : fX7_group8or12 true M = (bv (fX7_setA (nI (k % 8)) (B.2.2 1 (k / 512 % 8)) (sA M 1 (k / 512 % 8) (B.2.2 1 (8 + k % 8)))) fun S20 => (some (true, S20))) := by
                unfold fX7_group8or12
                simp only [lt_x, jn_x, hop, o_6 hk, o_9 hk, o_7 hk, nI3 hs, n256 hk q8, eq_false q240, zt, f1, f3, if_true, if_false, gd_t (ix8 hx), cl8 hx, h.gA _ hy, bd_x, h.gD _ hx]
              rw [e]
              exact xg_DA hx hy h
            · have f3 : (nI k &&& 504 = 392) = False := by rw [e392']; exact eq_false x3
              rw [if_neg (by rw [e392']; exact x3)]
              refine lg ?_
              unfold fX7_group8or12
              simp only [lt_x, jn_x, hop, o_6 hk, nI3 hs, n256 hk q8, eq_false q240, zf, zt, f1, f2, f3, if_true, if_false, q_bb]
              rfl
end HP
