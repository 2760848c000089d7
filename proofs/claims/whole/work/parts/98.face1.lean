/-! ===== the face's methods in step, where nothing is thrown; and what the reference does where something is ===== -/
section FA
variable {n d a s : Nat → Int32} {sr v : Int32}
theorem Rg.uD (h : Rg n d a s sr) (k : Nat) (hk : k < 8) (v : Int32) : Rg (upd n k v) (upd d k v) a s sr := by
  obtain ⟨r1, r2, r3, r4⟩ := h
  refine ⟨fun j hj => ?_, fun j hj => ?_, ?_, ?_⟩
  · by_cases q : j = k
    · subst q; rw [pk_us, pk_us]
    · rw [pk_un q, pk_un q]; exact r1 j hj
  · rw [pk_un (by omega)]; exact r2 j hj
  · rw [pk_un (by omega), pk_un (by omega)]; exact r3
  · rw [pk_un (by omega), pk_un (by omega)]; exact r4
theorem Rg.uA (h : Rg n d a s sr) (k : Nat) (hk : k < 7) (v : Int32) : Rg (upd n (8 + k) v) d (upd a k v) s sr := by
  obtain ⟨r1, r2, r3, r4⟩ := h
  refine ⟨fun j hj => ?_, fun j hj => ?_, ?_, ?_⟩
  · rw [pk_un (by omega)]; exact r1 j hj
  · by_cases q : j = k
    · subst q; rw [pk_us, pk_us]
    · rw [pk_un q, pk_un (by omega)]; exact r2 j hj
  · rw [pk_un (by omega), pk_un (by omega)]; exact r3
  · rw [pk_un (by omega), pk_un (by omega)]; exact r4
theorem Rg.u15 (h : Rg n d a s sr) (v : Int32) : Rg (upd n 15 v) d a (upd s (if sr &&& 8192 = 0 then 0 else 1) v) sr := by
  obtain ⟨r1, r2, r3, r4⟩ := h
  refine ⟨fun j hj => ?_, fun j hj => ?_, ?_, ?_⟩
  · rw [pk_un (by omega)]; exact r1 j hj
  · rw [pk_un (by omega)]; exact r2 j hj
  · rw [pk_us, pk_un (show (16 : Nat) ≠ 15 by decide)]
    by_cases q : sr &&& 8192 = 0
    · rw [if_pos q, if_pos q, pk_us]
    · rw [if_neg q, if_neg q, pk_un (by decide)]
      rw [if_neg q] at r3; exact r3
  · rw [pk_us, pk_un (show (16 : Nat) ≠ 15 by decide)]
    by_cases q : sr &&& 8192 = 0
    · rw [if_pos q, if_pos q, pk_un (by decide)]
      rw [if_pos q] at r4; exact r4
    · rw [if_neg q, if_neg q, pk_us]
theorem Rg.u16 (h : Rg n d a s sr) (v : Int32) : Rg (upd n 16 v) d a (upd s (if sr &&& 8192 = 0 then 1 else 0) v) sr := by
  obtain ⟨r1, r2, r3, r4⟩ := h
  refine ⟨fun j hj => ?_, fun j hj => ?_, ?_, ?_⟩
  · rw [pk_un (by omega)]; exact r1 j hj
  · rw [pk_un (by omega)]; exact r2 j hj
  · rw [pk_us, pk_un (show (15 : Nat) ≠ 16 by decide)]
    by_cases q : sr &&& 8192 = 0
    · rw [if_pos q, if_pos q, pk_un (by decide)]
      rw [if_pos q] at r3; exact r3
    · rw [if_neg q, if_neg q, pk_us]
  · rw [pk_us, pk_un (show (15 : Nat) ≠ 16 by decide)]
    by_cases q : sr &&& 8192 = 0
    · rw [if_pos q, if_pos q, pk_us]
    · rw [if_neg q, if_neg q, pk_un (by decide)]
      rw [if_neg q] at r4; exact r4
end FA
section FB
variable {B M : St}
theorem nI20 {x : Int32} (h0 : ¬ x < 0) (m : Nat) (hm : m < 65536) (h : x ≤ nI m) : ∃ n, n ≤ m ∧ x = nI n := by
  rw [Int32.lt_iff_toInt_lt] at h0
  rw [Int32.le_iff_toInt_le, nI_toInt (by omega)] at h
  have a : (0 : Int32).toInt = 0 := rfl
  rw [a] at h0
  refine ⟨x.toInt.toNat, by omega, ?_⟩
  apply Int32.toInt_inj.mp
  rw [nI_toInt (by omega)]
  omega
theorem R0.th (h : R0 B M) (x : Int32) : R0 B (sI M 0 x) := h
theorem nI_sub {n k : Nat} (h : k ≤ n) (hn : n < 65536) : nI n - nI k = nI (n - k) := by
  apply Int32.toInt_inj.mp
  rw [Int32.toInt_sub, nI_toInt (by omega), nI_toInt (by omega), nI_toInt (by omega), Int.bmod_def]
  omega
/-! register -/
theorem reg_step (h : R0 B M) (n : Nat) (hn : n ≤ 19) : ∃ r M', fX6_register (nI n) B = some (r, B) ∧ fX7_register (nI n) M = some (r, M') ∧ R0 B M' ∧ M'.1 0 = 0 := by
  have a : ¬ nI n < 0 := nI_nlt (a := n) (b := 0) (by omega) (by omega)
  have b : nI n ≤ 19 := nI_le (b := 19) hn (by decide)
  have hz : (sI M 0 (zI false)).1 0 ≤ 0 := by rw [sI_at]; decide
  unfold fX6_register fX7_register
  rw [if_neg a, if_pos b, jn_d, if_neg a, if_pos b]
  dsimp only
  rw [lt_d, if_pos hz]
  obtain ⟨⟨c1, ⟨d1, d2, d3, d4⟩, c3, c4, c⟩, q⟩ := id h
  by_cases h8 : n < 8
  · rw [if_neg (nI_n n 16 (by omega) (by decide) (by omega) 16 rfl), if_neg (nI_n n 17 (by omega) (by decide) (by omega) 17 rfl), if_neg (nI_n n 18 (by omega) (by decide) (by omega) 18 rfl), if_neg (nI_n n 19 (by omega) (by decide) (by omega) 19 rfl), pX4_get, bd_some, r4_n n (by omega), if_neg (show ¬ (8 : Int32) ≤ nI n from nI_ge (a := n) (b := 8) (by omega) (by decide)), gd_t (ix8 h8), cl8 h8]
    exact ⟨_, _, rfl, by rw [← d1 n h8]; rfl, h.th 0, sI_at _ _ _⟩
  · rw [if_pos (show (8 : Int32) ≤ nI n from nI_le (a := 8) (by omega) (by omega))]
    by_cases h16 : n < 16
    · rw [if_neg (nI_n n 16 (by omega) (by decide) (by omega) 16 rfl), if_neg (nI_n n 17 (by omega) (by decide) (by omega) 17 rfl), if_neg (nI_n n 18 (by omega) (by decide) (by omega) 18 rfl), if_neg (nI_n n 19 (by omega) (by decide) (by omega) 19 rfl), pX4_get, bd_some, r4_n n (by omega), if_neg (show ¬ (16 : Int32) ≤ nI n from nI_ge (a := n) (b := 16) (by omega) (by decide)), show nI n - 8 = nI (n - 8) from nI_sub (k := 8) (by omega) (by omega), pX7_getA _ _ (by omega), bd_some]
      refine ⟨_, _, rfl, ?_, h.th 0, sI_at _ _ _⟩
      have : mA (sI M 0 (zI false)) (n - 8) = B.2.2 1 n := by
        have hA := Rg.A ⟨d1, d2, d3, d4⟩ (n - 8) (by omega)
        rw [show 8 + (n - 8) = n by omega] at hA
        unfold mA
        rw [sI_ne _ _ (by decide), c4]
        exact hA
      rw [this]; rfl
    · rw [if_pos (show (16 : Int32) ≤ nI n from nI_le (a := 16) (by omega) (by omega))]
      have hc : n = 16 ∨ n = 17 ∨ n = 18 ∨ n = 19 := by omega
      rcases hc with rfl | rfl | rfl | rfl
      · rw [if_pos (show nI 16 = 16 from rfl), if_pos (show nI 16 = 16 from rfl)]
        exact ⟨_, _, rfl, by rw [sI_ne _ _ (by decide), c3]; rfl, h.th 0, sI_at _ _ _⟩
      · rw [if_neg (show ¬ nI 17 = 16 by decide), if_neg (show ¬ nI 17 = 16 by decide), if_pos (show nI 17 = 17 from rfl), if_pos (show nI 17 = 17 from rfl)]
        exact ⟨_, _, rfl, by rw [sI_ne _ _ (by decide), c4]; rfl, h.th 0, sI_at _ _ _⟩
      · rw [if_neg (show ¬ nI 18 = 16 by decide), if_neg (show ¬ nI 18 = 16 by decide), if_neg (show ¬ nI 18 = 17 by decide), if_neg (show ¬ nI 18 = 17 by decide), if_pos (show nI 18 = 18 from rfl), gd_t (show ixo (nI 18 - 18) 2 = true by decide)]
        unfold fX4_stackOf
        rw [gd_t (by decide), gd_t (by decide), show (15 : Int32).toNatClampNeg = 15 from rfl, show (16 : Int32).toNatClampNeg = 16 from rfl, show (nI 18 - 18).toNatClampNeg = 0 by decide]
        have e : (sI M 0 (zI false)).2.2 3 0 = if (B.1 3 &&& 8192) = 0 then B.2.2 1 15 else B.2.2 1 16 := d3
        rw [e]
        by_cases z : B.1 3 &&& 8192 = 0
        · rw [if_pos z, bd_some, if_pos z]; exact ⟨_, _, rfl, rfl, h.th 0, sI_at _ _ _⟩
        · rw [if_neg z, bd_some, if_neg z]; exact ⟨_, _, rfl, rfl, h.th 0, sI_at _ _ _⟩
      · rw [if_neg (show ¬ nI 19 = 16 by decide), if_neg (show ¬ nI 19 = 16 by decide), if_neg (show ¬ nI 19 = 17 by decide), if_neg (show ¬ nI 19 = 17 by decide), if_neg (show ¬ nI 19 = 18 by decide), if_pos (show nI 19 = 19 from rfl), gd_t (show ixo (nI 19 - 18) 2 = true by decide)]
        unfold fX4_stackOf
        rw [gd_t (by decide), gd_t (by decide), show (15 : Int32).toNatClampNeg = 15 from rfl, show (16 : Int32).toNatClampNeg = 16 from rfl, show (nI 19 - 18).toNatClampNeg = 1 by decide]
        have e : (sI M 0 (zI false)).2.2 3 1 = if (B.1 3 &&& 8192) = 0 then B.2.2 1 16 else B.2.2 1 15 := d4
        rw [e]
        rcases and_bit (B.1 3) with z | z
        · rw [if_neg (by rw [z]; decide), bd_some, if_pos z]; exact ⟨_, _, rfl, rfl, h.th 0, sI_at _ _ _⟩
        · rw [if_pos z, bd_some, if_neg (by rw [z]; decide)]; exact ⟨_, _, rfl, rfl, h.th 0, sI_at _ _ _⟩
theorem reg_thr (x : Int32) (M : St) (hx : x < 0 ∨ ¬ x ≤ 19) : fX7_register x M = some (0, sI M 0 1) := by
  have hz : ¬ (sI M 0 (zI true)).1 0 ≤ 0 := by rw [sI_at]; decide
  unfold fX7_register
  rw [jn_d]
  by_cases a : x < 0
  · rw [if_pos a]
    dsimp only
    rw [lt_d, if_neg hz]; rfl
  · rw [if_neg a, if_neg (hx.resolve_left a)]
    dsimp only
    rw [lt_d, if_neg hz]; rfl
/-! put -/
theorem put_step (h : R0 B M) (n : Nat) (hn : n ≤ 19) (v : Int32) : ∃ B' M', fX6_put (nI n) v B = some B' ∧ fX7_put (nI n) v M = some M' ∧ R0 B' M' ∧ M'.1 0 = 0 := by
  have a : ¬ nI n < 0 := nI_nlt (a := n) (b := 0) (by omega) (by omega)
  have b : nI n ≤ 19 := nI_le (b := 19) hn (by decide)
  have hz : (sI M 0 (zI false)).1 0 ≤ 0 := by rw [sI_at]; decide
  unfold fX6_put fX7_put
  rw [if_neg a, if_pos b, jn_d, if_neg a, if_pos b]
  dsimp only
  rw [lt_d (sI M 0 (zI false)), if_pos hz]
  have h' := h.th (zI false)
  have h0 : (sI M 0 (zI false)).1 0 = 0 := sI_at _ _ _
  generalize sI M 0 (zI false) = M0 at h' h0
  obtain ⟨⟨c1, c2, c3, c4, c5, c6, c7, c8, c9⟩, q⟩ := id h'
  by_cases h8 : n < 8
  · rw [if_neg (nI_n n 16 (by omega) (by decide) (by omega) 16 rfl), if_neg (nI_n n 17 (by omega) (by decide) (by omega) 17 rfl), if_neg (nI_n n 18 (by omega) (by decide) (by omega) 18 rfl), if_neg (nI_n n 19 (by omega) (by decide) (by omega) 19 rfl), pX4_set, bv_some, r4_n n (by omega), if_neg (show ¬ (8 : Int32) ≤ nI n from nI_ge (a := n) (b := 8) (by omega) (by decide)), gd_t (ix8 h8), cl8 h8, lt_d]
    exact ⟨_, _, rfl, rfl, ⟨⟨c1, c2.uD n h8 v, c3, c4, c5, c6, c7, c8, c9⟩, q⟩, h0⟩
  · rw [if_pos (show (8 : Int32) ≤ nI n from nI_le (a := 8) (by omega) (by omega))]
    by_cases h16 : n < 16
    · rw [if_neg (nI_n n 16 (by omega) (by decide) (by omega) 16 rfl), if_neg (nI_n n 17 (by omega) (by decide) (by omega) 17 rfl), if_neg (nI_n n 18 (by omega) (by decide) (by omega) 18 rfl), if_neg (nI_n n 19 (by omega) (by decide) (by omega) 19 rfl), pX4_set, bv_some, r4_n n (by omega), if_neg (show ¬ (16 : Int32) ≤ nI n from nI_ge (a := n) (b := 16) (by omega) (by decide)), show nI n - 8 = nI (n - 8) from nI_sub (k := 8) (by omega) (by omega), pX7_setA _ _ _ (by omega), bv_some]
      unfold mA'
      by_cases h7 : n = 15
      · subst h7
        rw [if_pos rfl, c4]
        have := c2.u15 v
        by_cases z : B.1 3 &&& 8192 = 0
        · rw [if_pos z] at this ⊢
          exact ⟨_, _, rfl, rfl, ⟨⟨c1, this, c3, c4, c5, c6, c7, c8, c9⟩, q⟩, h0⟩
        · rw [if_neg z] at this ⊢
          exact ⟨_, _, rfl, rfl, ⟨⟨c1, this, c3, c4, c5, c6, c7, c8, c9⟩, q⟩, h0⟩
      · rw [if_neg (by omega)]
        have := c2.uA (n - 8) (by omega) v
        rw [show 8 + (n - 8) = n by omega] at this
        exact ⟨_, _, rfl, rfl, ⟨⟨c1, this, c3, c4, c5, c6, c7, c8, c9⟩, q⟩, h0⟩
    · rw [if_pos (show (16 : Int32) ≤ nI n from nI_le (a := 16) (by omega) (by omega))]
      have hc : n = 16 ∨ n = 17 ∨ n = 18 ∨ n = 19 := by omega
      rcases hc with rfl | rfl | rfl | rfl
      · rw [if_pos (show nI 16 = 16 from rfl), if_pos (show nI 16 = 16 from rfl), lt_d, lt_d]
        exact ⟨_, _, rfl, rfl, ⟨⟨c1, c2, rfl, c4, c5, c6, c7, c8, c9⟩, q⟩, h0⟩
      · rw [if_neg (show ¬ nI 17 = 16 by decide), if_neg (show ¬ nI 17 = 16 by decide), if_pos (show nI 17 = 17 from rfl), if_pos (show nI 17 = 17 from rfl), pX4_setStatus, bv_some, lt_d]
        obtain ⟨s1, s2, s3⟩ := swp_1 v B
        have e3 : (sI (swp v B) 3 (v &&& 42783)).1 3 = v &&& 42783 := sI_at _ _ _
        have ek : ∀ k, k ≠ 3 → (sI (swp v B) 3 (v &&& 42783)).1 k = B.1 k := fun k hk => by rw [sI_ne _ _ hk, s1]
        have em : ∀ k, k ≠ 2 → (sI M0 2 (v &&& 42783)).1 k = M0.1 k := fun k hk => sI_ne _ _ hk
        refine ⟨_, _, rfl, rfl, ⟨⟨?_, ?_, ?_, ?_, ?_, ?_, ?_, ?_, ?_⟩, ?_, ?_, ?_, ?_, ?_⟩, ?_⟩
        · rw [sI_2, s3 0 (by decide)]; exact c1
        · rw [e3, sI_2, swp_n]; exact c2.status v
        · rw [em 1 (by decide), ek 2 (by decide)]; exact c3
        · rw [e3, sI_at]
        · rw [e3]; exact srOK_m v
        · exact c6
        · rw [em 11 (by decide)]; exact c7
        · rw [sI_2, s3 3 (by decide)]; exact c8
        · rw [sI_2, s3 3 (by decide), em 4 (by decide)]; exact c9
        · rw [ek 6 (by decide)]; exact q.1
        · rw [ek 7 (by decide)]; exact q.2.1
        · rw [ek 0 (by decide), em 3 (by decide)]; exact q.2.2.1
        · rw [em 3 (by decide)]; exact q.2.2.2.1
        · rw [ek 1 (by decide)]; exact q.2.2.2.2
        · rw [em 0 (by decide)]; exact h0
      · rw [if_neg (show ¬ nI 18 = 16 by decide), if_neg (show ¬ nI 18 = 16 by decide), if_neg (show ¬ nI 18 = 17 by decide), if_neg (show ¬ nI 18 = 17 by decide), if_pos (show nI 18 = 18 from rfl), gd_t (show ixo (nI 18 - 18) 2 = true by decide), pX4_setStackOf, bv_some, lt_d, show (nI 18 - 18).toNatClampNeg = 0 by decide]
        by_cases z : B.1 3 &&& 8192 = 0
        · have := c2.u15 v
          rw [if_pos z] at this ⊢
          exact ⟨_, _, rfl, rfl, ⟨⟨c1, this, c3, c4, c5, c6, c7, c8, c9⟩, q⟩, h0⟩
        · have := c2.u16 v
          rw [if_neg z] at this ⊢
          exact ⟨_, _, rfl, rfl, ⟨⟨c1, this, c3, c4, c5, c6, c7, c8, c9⟩, q⟩, h0⟩
      · rw [if_neg (show ¬ nI 19 = 16 by decide), if_neg (show ¬ nI 19 = 16 by decide), if_neg (show ¬ nI 19 = 17 by decide), if_neg (show ¬ nI 19 = 17 by decide), if_neg (show ¬ nI 19 = 18 by decide), if_pos (show nI 19 = 19 from rfl), gd_t (show ixo (nI 19 - 18) 2 = true by decide), pX4_setStackOf, bv_some, lt_d, show (nI 19 - 18).toNatClampNeg = 1 by decide]
        rcases and_bit (B.1 3) with z | z
        · have := c2.u16 v
          rw [if_pos z] at this
          rw [if_neg (by rw [z]; decide)]
          exact ⟨_, _, rfl, rfl, ⟨⟨c1, this, c3, c4, c5, c6, c7, c8, c9⟩, q⟩, h0⟩
        · have := c2.u15 v
          rw [if_neg (by rw [z]; decide)] at this
          rw [if_pos z]
          exact ⟨_, _, rfl, rfl, ⟨⟨c1, this, c3, c4, c5, c6, c7, c8, c9⟩, q⟩, h0⟩
theorem put_thr (x v : Int32) (M : St) (hx : x < 0 ∨ ¬ x ≤ 19) : fX7_put x v M = some (sI M 0 1) := by
  have hz : ¬ (sI M 0 (zI true)).1 0 ≤ 0 := by rw [sI_at]; decide
  unfold fX7_put
  rw [jn_d]
  by_cases a : x < 0
  · rw [if_pos a]
    dsimp only
    rw [lt_d, if_neg hz]; rfl
  · rw [if_neg a, if_neg (hx.resolve_left a)]
    dsimp only
    rw [lt_d, if_neg hz]; rfl
/-! want, state, exceptions -/
theorem want_step (h : R0 B M) (n : Nat) (hn : n ≤ 7) : ∃ B' M', fX6_want (nI n) B = some B' ∧ fX7_want (nI n) M = some M' ∧ R0 B' M' ∧ M'.1 0 = 0 := by
  have a : ¬ nI n < 0 := nI_nlt (a := n) (b := 0) (by omega) (by omega)
  have b : nI n ≤ 7 := nI_le (b := 7) hn (by decide)
  have hz : (sI M 0 (zI false)).1 0 = 0 := sI_at _ _ _
  unfold fX6_want fX7_want
  rw [if_neg a, if_pos b, lt_d, jn_d, if_neg a, if_pos b]
  dsimp only
  rw [lt_d, if_pos hz, lt_d]
  obtain ⟨c, q1, q2, q3, q4, q5⟩ := h
  exact ⟨_, _, rfl, rfl, ⟨c, q1, q2, rfl, ⟨n, by omega, rfl⟩, q5⟩, rfl⟩
theorem want_thr (x : Int32) (M : St) (hx : x < 0 ∨ ¬ x ≤ 7) : fX7_want x M = some (sI M 0 1) := by
  have hz : ¬ (sI M 0 (zI true)).1 0 = 0 := by rw [sI_at]; decide
  unfold fX7_want
  rw [jn_d]
  by_cases a : x < 0
  · rw [if_pos a]
    dsimp only
    rw [lt_d, if_neg hz]; rfl
  · rw [if_neg a, if_neg (hx.resolve_left a)]
    dsimp only
    rw [lt_d, if_neg hz]; rfl
theorem state_step (h : R0 B M) : ∃ r M', fX6_state B = some (r, B) ∧ fX7_state M = some (r, M') ∧ R0 B M' := by
  unfold fX6_state fX7_state
  rw [lt_d, h.2.2.2.2.2]
  show ∃ r M', _ ∧ (if zI (M.2.1 1) = 0 then (if zI (M.2.1 0) = 0 then _ else _) else _) = _ ∧ _
  cases M.2.1 1 <;> cases M.2.1 0 <;> exact ⟨_, _, rfl, rfl, h.th 0⟩
theorem exn_step (h : R0 B M) (n : Nat) (hn : n < 64) : ∃ r M', fX6_exceptions (nI n) B = some (r, B) ∧ fX7_exceptions (nI n) M = some (r, M') ∧ R0 B M' ∧ M'.1 0 = 0 := by
  have a : ¬ nI n < 0 := nI_nlt (a := n) (b := 0) (by omega) (by omega)
  have b : nI n ≤ 63 := nI_le (b := 63) (by omega) (by decide)
  have b' : nI n < 64 := nI_lt (b := 64) (by omega) (by decide)
  have hz : (sI M 0 (zI false)).1 0 ≤ 0 := by rw [sI_at]; decide
  unfold fX6_exceptions fX7_exceptions
  rw [if_neg a, if_pos b', gd_t (ix64 hn), jn_d, if_neg a, if_pos b]
  dsimp only
  rw [lt_d, if_pos hz, gd_t (ix64 hn), nI_clamp (by omega)]
  by_cases q : n = 0
  · subst q
    rw [if_pos (show nI 0 = 0 from rfl)]
    exact ⟨_, _, rfl, by rw [h.1.2.2.2.2.2.2.2.2]; rfl, h.th 0, sI_at _ _ _⟩
  · rw [if_neg (nI_n n 0 (by omega) (by decide) q 0 rfl)]
    exact ⟨_, _, rfl, by rw [h.1.2.2.2.2.2.2.2.1 n (by omega) hn]; rfl, h.th 0, sI_at _ _ _⟩
theorem exn_thr (x : Int32) (M : St) (hx : x < 0 ∨ ¬ x < 64) : fX7_exceptions x M = some (0, sI M 0 1) := by
  have hz : ¬ (sI M 0 (zI true)).1 0 ≤ 0 := by rw [sI_at]; decide
  unfold fX7_exceptions
  rw [jn_d]
  by_cases a : x < 0
  · rw [if_pos a]
    dsimp only
    rw [lt_d, if_neg hz]; rfl
  · have : ¬ x ≤ 63 := by
      intro q
      apply hx.resolve_left a
      rw [Int32.le_iff_toInt_le] at q
      rw [Int32.lt_iff_toInt_lt]
      have e1 : (63 : Int32).toInt = 63 := rfl
      have e2 : (64 : Int32).toInt = 64 := rfl
      omega
    rw [if_neg a, if_neg this]
    dsimp only
    rw [lt_d, if_neg hz]; rfl
/-! write, read -/
theorem write_step (h : R0 B M) (e : Nat) (he : e < 3) (x y : Int32) : ∃ B' M', fX6_write x y (szB e) B = some B' ∧ fX7_write x y (szB e) M = some M' ∧ R0 B' M' ∧ M'.1 0 = 0 := by
  have n1 : fX7_isNumber (szB e) M = some (true, M) := by
    have : ∀ e, e < 3 → fX7_isNumber (szB e) M = some (true, M) := e3 rfl rfl rfl
    exact this e he
  have n2 : fX6_write x y (szB e) B = bv (fX3_store x y (szB e) B) fun S1 => some S1 := by
    have : ∀ e, e < 3 → fX6_write x y (szB e) B = bv (fX3_store x y (szB e) B) fun S1 => some S1 := e3 rfl rfl rfl
    exact this e he
  unfold fX7_write
  have h1 : (sI M 0 (zI false)).1 0 = 0 := sI_at _ _ _
  rw [n2, n1, bd_some, pX3_store _ _ _ e he, bv_some, jn_d, if_neg (show ¬ zI true = 0 by decide)]
  dsimp only
  rw [lt_d, if_pos h1, lt_d]
  have hc : ¬ (sI (sI M 0 (zI false)) 11 0).1 11 < 0 := by rw [sI_at]; decide
  obtain ⟨M', e1, ⟨k1, k2, k3, k4⟩, e3⟩ := pX7_store x y _ hc e he
  rw [e1, bv_some]
  obtain ⟨⟨c1, c2, c3, c4, c5, c6, c7, c8, c9⟩, q1, q2, q3, q4, q5⟩ := h
  have em : ∀ k, k ≠ 11 → k ≠ 0 → M'.1 k = M.1 k := fun k h11 h0 => by rw [k1 k h11, sI_ne _ _ h11, sI_ne _ _ h0]
  refine ⟨_, M', rfl, rfl, ⟨⟨?_, ?_, ?_, ?_, c5, ?_, k4, ?_, ?_⟩, q1, q2, ?_, ?_, ?_⟩, ?_⟩
  · rw [sR_at, e3]; exact memW c1 x y e he
  · rw [sR_ne _ _ (by decide), k3 1 (by decide) (by decide) (by decide), k3 2 (by decide) (by decide) (by decide), k3 3 (by decide) (by decide) (by decide)]; exact c2
  · rw [em 1 (by decide) (by decide)]; exact c3
  · rw [em 2 (by decide) (by decide)]; exact c4
  · unfold numOK; rw [em 12 (by decide) (by decide), em 13 (by decide) (by decide)]; exact c6
  · rw [sR_ne _ _ (by decide), k3 4 (by decide) (by decide) (by decide)]; exact c8
  · rw [sR_ne _ _ (by decide), em 4 (by decide) (by decide)]; exact c9
  · rw [em 3 (by decide) (by decide)]; exact q3
  · rw [em 3 (by decide) (by decide)]; exact q4
  · rw [k2]; exact q5
  · rw [k1 0 (by decide), sI_ne _ _ (by decide)]; exact h1
theorem num_f {x : Int32} (hx : ¬ x = 1 ∧ ¬ x = 2 ∧ ¬ x = 4) (M : St) : fX7_isNumber x M = some (false, M) := by
  unfold fX7_isNumber
  rw [if_neg hx.1, if_neg hx.2.1, if_neg hx.2.2]
theorem write_thr (x y z : Int32) (M : St) (hz : ¬ z = 1 ∧ ¬ z = 2 ∧ ¬ z = 4) : fX7_write x y z M = some (sI M 0 1) := by
  unfold fX7_write
  rw [num_f hz, bd_some, jn_d, if_pos zI_f]
  dsimp only
  rw [lt_d, if_neg (show ¬ (sI M 0 (zI true)).1 0 = 0 by rw [sI_at]; decide)]
  rfl
theorem read_step (h : R0 B M) (e : Nat) (he : e < 3) (x : Int32) : ∃ r M', fX6_read x (szB e) B = some (r, B) ∧ fX7_read x (szB e) M = some (r, M') ∧ R0 B M' ∧ M'.1 0 = 0 := by
  have n1 : fX7_isNumber (szB e) M = some (true, M) := by
    have : ∀ e, e < 3 → fX7_isNumber (szB e) M = some (true, M) := e3 rfl rfl rfl
    exact this e he
  have n2 : fX6_read x (szB e) B = bd (fX3_load x (szB e) B) fun r S1 => some (r, S1) := by
    have : ∀ e, e < 3 → fX6_read x (szB e) B = bd (fX3_load x (szB e) B) fun r S1 => some (r, S1) := e3 rfl rfl rfl
    exact this e he
  unfold fX7_read
  have h1 : (sI M 0 (zI false)).1 0 ≤ 0 := by rw [sI_at]; decide
  rw [n2, n1, bd_some, pX3_load _ _ e he, bd_some, jn_d, if_neg (show ¬ zI true = 0 by decide)]
  dsimp only
  rw [lt_d, if_pos h1, pX7_fetch _ _ e he, bd_some]
  exact ⟨_, _, rfl, congrArg (fun q => some (q, sI M 0 (zI false))) (memL h.1.1 x e), h.th 0, sI_at _ _ _⟩
theorem read_thr (x z : Int32) (M : St) (hz : ¬ z = 1 ∧ ¬ z = 2 ∧ ¬ z = 4) : fX7_read x z M = some (0, sI M 0 1) := by
  unfold fX7_read
  rw [num_f hz, bd_some, jn_d, if_pos zI_f]
  dsimp only
  rw [lt_d, if_neg (show ¬ (sI M 0 (zI true)).1 0 ≤ 0 by rw [sI_at]; decide)]
  rfl
theorem step_thr (x : Int32) (M : St) (hx : x < 0 ∨ ¬ x ≤ 3000) : ∃ r, fX7_step x M = some (r, sI M 0 1) := by
  have hz : ¬ (sI M 0 (zI true)).1 0 = 0 := by rw [sI_at]; decide
  refine ⟨0, ?_⟩
  have e : fX7_step_l1 x 3001 0 (sI M 0 (zI true)) = some (0, sI M 0 (zI true)) := by
    show fX7_step_b1 x _ 0 _ = _
    unfold fX7_step_b1
    rw [if_neg hz]
  unfold fX7_step
  rw [jn_d]
  by_cases a : x < 0
  · rw [if_pos a]
    dsimp only
    rw [lt_d, e]; rfl
  · rw [if_neg a, if_neg (hx.resolve_left a)]
    dsimp only
    rw [lt_d, e]; rfl
end FB
