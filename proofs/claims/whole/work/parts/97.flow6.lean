/-! ===== interrupts; the next step ===== -/
theorem sr_n {sr : Int32} (h : srOK sr) : ∃ n, n < 65536 ∧ sr = nI n := by
  have h1 : sr &&& 65535 = sr := by
    unfold srOK at h
    rw [← h, and_and]
    rfl
  have := pk_and sr (m := 65535) 16 (by decide)
  rw [h1] at this
  exact ⟨_, Nat.mod_lt _ (by decide), this⟩
theorem mask_B {n : Nat} (hn : n < 65536) : ush (nI n &&& 1792) 8 = nI (n / 256 % 8) := by
  have e : nI n &&& 1792 = nI (n / 256 % 8 * 256) := by
    apply b_ext
    intro i hi
    rw [b_and]
    have a : ∀ m, m < 65536 → bt (nI m) i = m.testBit i := fun m hm => by rw [← bt_tn, pk_tn (by omega)]
    rw [a n hn, a _ (by omega)]
    have c : ∀ i, i < 32 → bt 1792 i = decide (8 ≤ i ∧ i < 11) := by decide +kernel
    rw [c i hi, show (256 : Nat) = 2 ^ 8 from rfl, show (8 : Nat) = 2 ^ 3 from rfl, Nat.testBit_mul_two_pow, Nat.testBit_mod_two_pow, Nat.testBit_div_two_pow]
    by_cases q : 8 ≤ i
    · by_cases z : i < 11
      · have z' : i - 8 < 3 := by omega
        simp only [show (2 ^ 3 : Nat) = 8 from rfl, q, z, z', decide_true, Bool.and_true, Bool.true_and, and_self]
        congr 1
        omega
      · have z' : ¬ i - 8 < 3 := by omega
        simp only [show (2 ^ 3 : Nat) = 8 from rfl, q, z, z', decide_false, Bool.and_false, Bool.false_and, and_false]
    · simp only [show (2 ^ 3 : Nat) = 8 from rfl, q, decide_false, Bool.and_false, Bool.false_and, false_and]
  rw [e, ush_n (by omega) 8 (by decide) 8 (by decide)]
  congr 1
  omega
theorem mask_M {n : Nat} (hn : n < 65536) : (nI n >>> ((8 : Int32) &&& 31)) &&& 7 = nI (n / 256 % 8) := by
  rw [pk_shrN (by omega) ((8 : Int32) &&& 31) 8 (by decide), pk_andN (by omega) (m := 7) 3 (by decide)]
def ivS (sr : Int32) (w : Nat) : Int32 := (sr &&& (-1793 : Int32)) ||| (nI w <<< ((8 : Int32) &&& 31))
theorem ivS_p {sr : Int32} (h : srOK sr) (w : Nat) (hw : w < 8) : ivS sr w &&& 42783 = ivS sr w ∧ (ivS sr w ^^^ sr) &&& 8192 = 0 ∧ ivS sr w &&& 8192 = sr &&& 8192 := by
  unfold srOK at h
  have hb : ∀ i, (bt sr i && bt 42783 i) = bt sr i := fun i => by rw [← b_and, h]
  have key : ∀ w, w < 8 → ∀ i, i < 32 → ∀ b : Bool, (b && bt 42783 i) = b → (((b && bt (-1793) i) || bt (nI w <<< ((8 : Int32) &&& 31)) i) && bt 42783 i) = ((b && bt (-1793) i) || bt (nI w <<< ((8 : Int32) &&& 31)) i) ∧ ((((b && bt (-1793) i) || bt (nI w <<< ((8 : Int32) &&& 31)) i) ^^ b) && bt 8192 i) = false ∧ (((b && bt (-1793) i) || bt (nI w <<< ((8 : Int32) &&& 31)) i) && bt 8192 i) = (b && bt 8192 i) := by decide +kernel
  unfold ivS
  refine ⟨?_, ?_, ?_⟩
  · apply b_ext
    intro i hi
    simp only [b_and, b_or]
    exact (key w hw i hi _ (hb i)).1
  · apply b_ext
    intro i hi
    simp only [b_and, b_or, b_xor, b_0]
    exact (key w hw i hi _ (hb i)).2.1
  · apply b_ext
    intro i hi
    simp only [b_and, b_or]
    exact (key w hw i hi _ (hb i)).2.2
section IV
variable {B M : St}
theorem iv_R0 (h : R0 B M) (w : Nat) (hw : w < 8) : fX4_setStatus (((B.1 3) &&& (-1793 : Int32)) ||| (nI w <<< ((8 : Int32) &&& 31))) B = some (sI B 3 (ivS (B.1 3) w)) ∧ R0 (sI B 3 (ivS (B.1 3) w)) (sI M 2 (ivS (B.1 3) w)) := by
  obtain ⟨⟨c1, ⟨d1, d2, d3, d4⟩, c3, c4, c5, c6, c7, c8, c9⟩, q2, q3, q4, q5, q6⟩ := h
  obtain ⟨i1, i2, i3⟩ := ivS_p c5 w hw
  refine ⟨?_, ⟨c1, ⟨d1, d2, ?_, ?_⟩, c3, rfl, i1, c6, c7, c8, c9⟩, q2, q3, q4, q5, q6⟩
  · rw [pX4_setStatus]
    show some (sI (swp (ivS (B.1 3) w) B) 3 (ivS (B.1 3) w &&& 42783)) = _
    unfold swp
    rw [if_pos i2, i1]
  · rw [sI_at, i3]; exact d3
  · rw [sI_at, i3]; exact d4
theorem n24 (w : Nat) : (24 : Int32) + nI w = nI (24 + w) := by
  unfold nI
  rw [Int32.ofNat_add]; rfl
theorem int_step (h : R0 B M) (hh : M.2.1 1 = false) (w : Nat) (hw : w < 8) (hM : M.1 3 = nI w) : ∃ B' M', fX6_interrupt B = some B' ∧ (bd (fX7_exception (24 + nI w) false 0 (sZ (sI M 3 0) 0 false)) fun b1 S3 => (if (zI b1) = 0 then (some (true, S3))
    else (lt (sI S3 2 (((S3.1 2) &&& (-1793 : Int32)) ||| (nI w <<< ((8 : Int32) &&& 31)))) fun S4 => (some (true, S4))))) = some (true, M') ∧ R0 B' M' ∧ M'.1 0 = M.1 0 := by
  have hB : B.1 0 = nI w := h.2.2.2.1.trans hM
  have h2 : R0 (sI (sI B 0 0) 1 0) (sZ (sI M 3 0) 0 false) := by
    obtain ⟨c, q2, q3, q4, q5, q6⟩ := h
    refine ⟨c, q2, q3, ?_, ⟨0, by decide, ?_⟩, ?_⟩
    · rw [sI_ne _ _ (by decide), sI_at]
      exact (sI_at M 3 0).symm
    · exact sI_at M 3 0
    · rw [sI_at]
      show (0 : Int32) = ph (va_up M.2.1 0 false 1) (va_up M.2.1 0 false 0)
      rw [va_up_self, va_up_ne _ _ (by decide), hh]
      rfl
  have h0 : (sZ (sI M 3 0) 0 false).1 0 = M.1 0 := show (sI M 3 0).1 0 = M.1 0 from sI_ne _ _ (by decide)
  unfold fX6_interrupt
  rw [lt_d, lt_d, lt_d, hB, n24]
  have k3 : 24 + w ≠ 3 := by omega
  rcases h2.exc (24 + w) (by omega) (by omega) 0 0 (fun q => absurd q k3) with ⟨B', M', e1, e2, e3, e4, e5, e6, e7⟩ | ⟨B1, B2, B', M', e1, e2, e3, e4, e5, e6, e7, e8⟩
  · rw [decide_eq_false k3] at e2
    rw [e1, bd_some, if_pos zI_f, e2, bd_some, if_pos zI_f]
    exact ⟨B', M', rfl, rfl, e3, e5.1.trans h0⟩
  · rw [decide_eq_false k3] at e4
    rw [fault_no (24 + w) (by omega) k3] at e2
    cases e2
    obtain ⟨f1, f2⟩ := iv_R0 e5 w hw
    rw [e1, bd_some, if_neg (show ¬ zI true = 0 by decide), e3, bv_some, f1, bv_some, e4, bd_some, if_neg (show ¬ zI true = 0 by decide), lt_d, e5.1.2.2.2.1]
    exact ⟨_, _, rfl, rfl, f2, (sI_ne _ _ (by decide)).trans (e7.1.trans h0)⟩
theorem adv_step (h : R0 B M) (hh : M.2.1 1 = false) : (∃ B' M', fX6_advance B = some (true, B') ∧ fX7_interrupt M = some (true, M') ∧ R0 B' M' ∧ M'.1 0 = M.1 0) ∨
    (fX7_interrupt M = some (false, M) ∧ ((M.2.1 0 = true ∧ fX6_advance B = some (false, B)) ∨ (M.2.1 0 = false ∧ fX6_advance B = insB B))) := by
  obtain ⟨w, hw, hM⟩ := h.2.2.2.2.1
  have hB : B.1 0 = nI w := h.2.2.2.1.trans hM
  have hP : B.1 1 = ph false (M.2.1 0) := by rw [h.2.2.2.2.2, hh]
  have hP2 : ¬ B.1 1 = 2 := by rw [hP]; cases M.2.1 0 <;> decide
  obtain ⟨n, hn, en⟩ := sr_n h.1.2.2.2.2.1
  have hm : n / 256 % 8 < 8 := Nat.mod_lt _ (by decide)
  unfold fX6_advance fX7_interrupt
  rw [if_neg hP2, hB, lt_d, hM, h.1.2.2.2.1, en, mask_B hn, mask_M hn]
  obtain ⟨B', M', e1, e2, e3, e4⟩ := int_step h hh w hw hM
  by_cases w7 : w = 7
  · subst w7
    left
    rw [if_pos (show nI 7 = 7 from rfl), e1, bv_some, if_neg (show ¬ nI 7 = 0 by decide), lt_d, lt_d, lt_d, if_pos (show (7 : Int32) ≤ nI 7 by decide), ite_self]
    exact ⟨B', M', rfl, e2, e3, e4⟩
  · rw [if_neg (nI_n w 7 (by omega) (by decide) w7 7 rfl), if_neg (show ¬ (7 : Int32) ≤ nI w from nI_ge (a := w) (b := 7) (by omega) (by decide))]
    by_cases q : w ≤ n / 256 % 8
    · right
      rw [if_pos (nI_le q (by omega)), if_neg (nI_nlt q (by omega)), ite_self]
      refine ⟨rfl, ?_⟩
      rw [hP]
      cases M.2.1 0
      · right
        rw [if_neg (by decide)]
        exact ⟨rfl, rfl⟩
      · left
        rw [if_pos (by decide)]
        exact ⟨rfl, rfl⟩
    · left
      rw [if_neg (nI_ge (by omega) (by omega)), e1, bv_some, if_neg (nI_n w 0 (by omega) (by decide) (by omega) 0 rfl), if_pos (nI_lt (by omega) (by omega)), lt_d, lt_d, lt_d]
      exact ⟨B', M', rfl, e2, e3, e4⟩
/-! the loop of steps -/
theorem stp_loop (n : Nat) (hn : n ≤ 3000) (F : Nat) : ∀ m j (B M : St), j + m = n → R0 B M → M.1 0 = 0 → ∃ r B' M', fX6_step_l1 (nI n) (F + m + 1) (nI j) B = some (r, B') ∧ fX7_step_l1 (nI n) (F + m + 1) (nI j) M = some (r, M') ∧ R0 B' M' ∧ M'.1 0 = 0 := by
  intro m
  induction m with
  | zero =>
    intro j B M hj h h0
    obtain rfl : j = n := by omega
    refine ⟨nI j, B, M, ?_, ?_, h, h0⟩
    · show fX6_step_b1 (nI j) _ (nI j) B = _
      unfold fX6_step_b1
      rw [if_pos (Int32.le_refl _)]
    · show fX7_step_b1 (nI j) _ (nI j) M = _
      unfold fX7_step_b1
      rw [if_pos h0, if_pos (Int32.le_refl _)]
  | succ m ih =>
    intro j B M hj h h0
    show ∃ r B' M', fX6_step_b1 (nI n) (fX6_step_l1 (nI n) (F + m + 1)) (nI j) B = some (r, B') ∧ fX7_step_b1 (nI n) (fX7_step_l1 (nI n) (F + m + 1)) (nI j) M = some (r, M') ∧ R0 B' M' ∧ M'.1 0 = 0
    unfold fX6_step_b1 fX7_step_b1
    rw [if_pos h0, if_neg (nI_ge (show j < n by omega) (by omega)), if_neg (nI_ge (show j < n by omega) (by omega)), lt_d]
    cases hh : M.2.1 1
    · rw [if_pos zI_f]
      have h' : R0 B (sI M 11 0) := by
        obtain ⟨⟨c1, c2, c3, c4, c5, c6, c7, c8, c9⟩, q⟩ := h
        exact ⟨⟨c1, c2, c3, c4, c5, c6, by rw [sI_at]; decide, c8, c9⟩, q⟩
      have h0' : (sI M 11 0).1 0 = 0 := (sI_ne _ _ (by decide)).trans h0
      rcases adv_step h' hh with ⟨B', M', e1, e2, e3, e4⟩ | ⟨e1, e2⟩
      · rw [e1, bd_some, e2, bd_some, if_neg (show ¬ zI true = 0 by decide), if_neg (show ¬ zI true = 0 by decide), lt_d, lt_d, ← nI_succ]
        exact ih (j + 1) B' M' (by omega) e3 (e4.trans h0')
      · rw [e1, bd_some, if_pos zI_f]
        rcases e2 with ⟨z, e2⟩ | ⟨z, e2⟩
        · rw [e2, bd_some, if_pos zI_f, z, if_neg (show ¬ zI true = 0 by decide)]
          exact ⟨_, _, _, rfl, rfl, h', h0'⟩
        · obtain ⟨B', M', f1, f2, f3, f4⟩ := instr_step h' hh
          rw [e2, f1, bd_some, if_neg (show ¬ zI true = 0 by decide), lt_d, z, if_pos zI_f, f2, bv_some, lt_d, ← nI_succ]
          exact ih (j + 1) B' M' (by omega) f3 (f4.trans h0')
    · rw [if_neg (show ¬ zI true = 0 by decide)]
      have : fX6_advance B = some (false, B) := by
        unfold fX6_advance
        rw [if_pos (by rw [h.2.2.2.2.2, hh]; rfl)]
      rw [this, bd_some, if_pos zI_f]
      exact ⟨_, _, _, rfl, rfl, h, h0⟩
theorem step_step (n : Nat) (hn : n ≤ 3000) (h : R0 B M) : ∃ r B' M', fX6_step (nI n) B = some (r, B') ∧ fX7_step (nI n) M = some (r, M') ∧ R0 B' M' ∧ M'.1 0 = 0 := by
  have h' : R0 B (sI M 0 (zI false)) := h
  obtain ⟨r, B', M', e1, e2, e3, e4⟩ := stp_loop n hn (3000 - n) n 0 B _ (by omega) h' (sI_at _ _ _)
  rw [show 3000 - n + n + 1 = 3001 by omega] at e1 e2
  unfold fX6_step fX7_step
  have a : ¬ nI n < 0 := nI_nlt (a := n) (b := 0) (by omega) (by omega)
  have b : nI n ≤ 3000 := nI_le (b := 3000) hn (by decide)
  rw [if_neg a, if_pos b, jn_d, if_neg a, if_pos b]
  exact ⟨r, B', M', e1, e2, e3, e4⟩
end IV
