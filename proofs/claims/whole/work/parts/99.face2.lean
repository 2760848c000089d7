/-! ===== sum and reset in step ===== -/
section FC
variable {B M : St}
theorem sum_loop (hm : memR (B.2.2 0) (M.2.2 0)) (F : Nat) : ∀ m j v, j + m = 4096 → ∃ r, fX3_weighted_l1 (F + m + 1) (nI j) v B = some (r, B) ∧ fX7_sum_l1 (F + m + 1) (nI j) v M = some (r, M) := by
  intro m
  induction m with
  | zero =>
    intro j v h
    obtain rfl : j = 4096 := by omega
    refine ⟨v, ?_, ?_⟩
    · show fX3_weighted_b1 _ (nI 4096) v B = _
      unfold fX3_weighted_b1
      rw [if_pos (show (4096 : Int32) ≤ nI 4096 from nI_le (a := 4096) (Nat.le_refl _) (by decide))]
    · show fX7_sum_b1 _ (nI 4096) v M = _
      unfold fX7_sum_b1
      rw [if_pos (show (4096 : Int32) ≤ nI 4096 from nI_le (a := 4096) (Nat.le_refl _) (by decide))]
  | succ m ih =>
    intro j v h
    show ∃ r, fX3_weighted_b1 (fX3_weighted_l1 (F + m + 1)) (nI j) v B = some (r, B) ∧ fX7_sum_b1 (fX7_sum_l1 (F + m + 1)) (nI j) v M = some (r, M)
    unfold fX3_weighted_b1 fX7_sum_b1
    have a : ¬ (4096 : Int32) ≤ nI j := nI_ge (b := 4096) (by omega) (by decide)
    rw [if_neg a, if_neg a, gd_t (ixn (n := 4096) (by omega) (by decide)), gd_t (ixn (n := 4096) (by omega) (by decide)), nI_clamp (by omega), lt_d, lt_d, lt_d, lt_d, hm j (by omega), ← nI_succ]
    exact ih (j + 1) _ (by omega)
theorem sum_step (h : R0 B M) : ∃ r M', fX6_sum B = some (r, B) ∧ fX7_sum M = some (r, M') ∧ R0 B M' := by
  obtain ⟨r, e1, e2⟩ := sum_loop (B := B) (M := sI M 0 0) h.1.1 0 4096 0 0 rfl
  unfold fX6_sum fX3_weighted fX7_sum
  rw [lt_d]
  have e1' : fX3_weighted_l1 4097 0 0 B = some (r, B) := e1
  have e2' : fX7_sum_l1 4097 0 0 (sI M 0 0) = some (r, sI M 0 0) := e2
  rw [e1', bd_some, e2']
  exact ⟨r, _, rfl, rfl, h.th 0⟩
/-! rows filled -/
def fiT (g : Nat → Int32) (x : Int32) (j n : Nat) : Nat → Int32 := fun k => if j ≤ k ∧ k < n then x else g k
theorem fiT_s (g : Nat → Int32) (x : Int32) (j n : Nat) (h : j < n) : fiT (upd g j x) x (j + 1) n = fiT g x j n := by
  funext k
  unfold fiT
  by_cases q : k = j
  · subst q
    rw [if_neg (by omega), if_pos ⟨Nat.le_refl _, h⟩, pk_us]
  · by_cases z : j ≤ k ∧ k < n
    · rw [if_pos (by omega), if_pos z]
    · rw [if_neg (by omega), if_neg z, pk_un q]
theorem fiT_e (g : Nat → Int32) (x : Int32) (n : Nat) : fiT g x n n = g := by
  funext k
  unfold fiT
  rw [if_neg (by omega)]
theorem fiT_at (g : Nat → Int32) (x : Int32) (n k : Nat) (h : k < n) : fiT g x 0 n k = x := if_pos ⟨Nat.zero_le _, h⟩
theorem fi7 (x : Int32) (F : Nat) : ∀ m j (S : St), j + m = 17 → fJ7_fill7_l1 x (F + m + 1) (nI j) S = some (sR S 1 (fiT (S.2.2 1) x j 17)) := by
  intro m
  induction m with
  | zero =>
    intro j S h
    obtain rfl : j = 17 := by omega
    show fJ7_fill7_b1 x _ (nI 17) S = _
    unfold fJ7_fill7_b1
    rw [if_pos (by decide), fiT_e, sR_self]
  | succ m ih =>
    intro j S h
    show fJ7_fill7_b1 x (fJ7_fill7_l1 x (F + m + 1)) (nI j) S = _
    unfold fJ7_fill7_b1
    rw [if_neg (show ¬ (17 : Int32) ≤ nI j from nI_ge (a := j) (b := 17) (by omega) (by decide)), gd_t (ixn (by omega) (by decide)), nI_clamp (by omega), lt_d, lt_d, ← nI_succ, ih (j + 1) _ (by omega), sA_R, sR_R, sR_at, fiT_s _ _ _ _ (by omega)]
theorem fi9 (x : Int32) (F : Nat) : ∀ m j (S : St), j + m = 64 → fJ7_fill9_l1 x (F + m + 1) (nI j) S = some (sR S 3 (fiT (S.2.2 3) x j 64)) := by
  intro m
  induction m with
  | zero =>
    intro j S h
    obtain rfl : j = 64 := by omega
    show fJ7_fill9_b1 x _ (nI 64) S = _
    unfold fJ7_fill9_b1
    rw [if_pos (by decide), fiT_e, sR_self]
  | succ m ih =>
    intro j S h
    show fJ7_fill9_b1 x (fJ7_fill9_l1 x (F + m + 1)) (nI j) S = _
    unfold fJ7_fill9_b1
    rw [if_neg (show ¬ (64 : Int32) ≤ nI j from nI_ge (a := j) (b := 64) (by omega) (by decide)), gd_t (ixn (by omega) (by decide)), nI_clamp (by omega), lt_d, lt_d, ← nI_succ, ih (j + 1) _ (by omega), sA_R, sR_R, sR_at, fiT_s _ _ _ _ (by omega)]
def rsB (B : St) : St := sI (sI (sR (sI (sI (sA (sR B 1 (fiT (B.2.2 1) 0 0 17)) 1 15 1024) 2 1024) 3 8192) 3 (fiT (B.2.2 3) 0 0 64)) 0 0) 1 0
theorem reset_B (B : St) : fX6_reset B = some (rsB B) := by
  have e7 : fJ7_fill7_l1 0 18 0 B = _ := fi7 0 0 17 0 B rfl
  unfold fX6_reset fX4_clear fJ7_fill7
  rw [e7, bv_some, gd_t (by decide), lt_d, lt_d, lt_d, bv_some]
  unfold fJ7_fill9
  have e9 := fi9 0 0 64 0 (sI (sI (sA (sR B 1 (fiT (B.2.2 1) 0 0 17)) 1 15 1024) 2 1024) 3 8192) rfl
  rw [sI_2, sI_2, sA_ne2 _ _ _ (by decide), sR_ne _ _ (by decide)] at e9
  have e9' : fJ7_fill9_l1 0 65 0 (sI (sI (sA (sR B 1 (fiT (B.2.2 1) 0 0 17)) 1 (15 : Int32).toNatClampNeg 1024) 2 1024) 3 8192) = _ := e9
  rw [e9', bv_some, lt_d, lt_d]
  rfl
/-! the reference's -/
def clE (S : St) : St := sI (sI (sZ (sZ (sI (sI (sA (sA S 3 0 0) 3 1 1024) 1 1024) 2 8192) 0 false) 1 false) 3 0) 4 0
theorem cl1 (F : Nat) : ∀ m j (S : St), j + m = 8 → fX7_clear_l1 (F + m + 1) (nI j) S = fX7_clear_l2 65 0 (sR S 1 (fiT (S.2.2 1) 0 j 8)) := by
  intro m
  induction m with
  | zero =>
    intro j S h
    obtain rfl : j = 8 := by omega
    show fX7_clear_b1 _ (nI 8) S = _
    unfold fX7_clear_b1
    rw [if_pos (by decide), fiT_e, sR_self]
  | succ m ih =>
    intro j S h
    show fX7_clear_b1 (fX7_clear_l1 (F + m + 1)) (nI j) S = _
    unfold fX7_clear_b1
    rw [if_neg (show ¬ (8 : Int32) ≤ nI j from nI_ge (a := j) (b := 8) (by omega) (by decide)), gd_t (ixn (by omega) (by decide)), nI_clamp (by omega), lt_d, lt_d, ← nI_succ, ih (j + 1) _ (by omega), sA_R, sR_R, sR_at, fiT_s _ _ _ _ (by omega)]
theorem cl2 (F : Nat) : ∀ m j (S : St), j + m = 7 → fX7_clear_l2 (F + m + 1) (nI j) S = fX7_clear_l3 65 0 (clE (sR S 2 (fiT (S.2.2 2) 0 j 7))) := by
  intro m
  induction m with
  | zero =>
    intro j S h
    obtain rfl : j = 7 := by omega
    show fX7_clear_b2 _ (nI 7) S = _
    unfold fX7_clear_b2
    rw [if_pos (by decide), fiT_e, sR_self, gd_t (by decide), lt_d, gd_t (by decide), lt_d, lt_d, lt_d, lt_d, lt_d, lt_d, lt_d]
    rfl
  | succ m ih =>
    intro j S h
    show fX7_clear_b2 (fX7_clear_l2 (F + m + 1)) (nI j) S = _
    unfold fX7_clear_b2
    rw [if_neg (show ¬ (7 : Int32) ≤ nI j from nI_ge (a := j) (b := 7) (by omega) (by decide)), gd_t (ixn (by omega) (by decide)), nI_clamp (by omega), lt_d, lt_d, ← nI_succ, ih (j + 1) _ (by omega), sA_R, sR_R, sR_at, fiT_s _ _ _ _ (by omega)]
theorem cl3 (F : Nat) : ∀ m j (S : St), j + m = 64 → fX7_clear_l3 (F + m + 1) (nI j) S = some (sR S 4 (fiT (S.2.2 4) 0 j 64)) := by
  intro m
  induction m with
  | zero =>
    intro j S h
    obtain rfl : j = 64 := by omega
    show fX7_clear_b3 _ (nI 64) S = _
    unfold fX7_clear_b3
    rw [if_pos (by decide), fiT_e, sR_self]
  | succ m ih =>
    intro j S h
    show fX7_clear_b3 (fX7_clear_l3 (F + m + 1)) (nI j) S = _
    unfold fX7_clear_b3
    rw [if_neg (show ¬ (64 : Int32) ≤ nI j from nI_ge (a := j) (b := 64) (by omega) (by decide)), gd_t (ixn (by omega) (by decide)), nI_clamp (by omega), lt_d, lt_d, ← nI_succ, ih (j + 1) _ (by omega), sA_R, sR_R, sR_at, fiT_s _ _ _ _ (by omega)]
def clM (S : St) : St := sR (clE (sR (sR S 1 (fiT (S.2.2 1) 0 0 8)) 2 (fiT (S.2.2 2) 0 0 7))) 4 (fiT (S.2.2 4) 0 0 64)
theorem clE_2 (S : St) : (clE S).2.2 = (sA (sA S 3 0 0) 3 1 1024).2.2 := rfl
theorem clear_M (S : St) : fX7_clear S = some (clM S) := by
  unfold fX7_clear
  have e1 : fX7_clear_l1 65 0 S = _ := cl1 56 8 0 S rfl
  have e2 : fX7_clear_l2 65 0 (sR S 1 (fiT (S.2.2 1) 0 0 8)) = _ := cl2 57 7 0 _ rfl
  have e3 : fX7_clear_l3 65 0 (clE (sR (sR S 1 (fiT (S.2.2 1) 0 0 8)) 2 (fiT ((sR S 1 (fiT (S.2.2 1) 0 0 8)).2.2 2) 0 0 7))) = _ := cl3 0 64 0 _ rfl
  rw [e1, e2, e3, clE_2, sA_ne2 _ _ _ (by decide), sA_ne2 _ _ _ (by decide), sR_ne _ _ (by decide), sR_ne _ _ (by decide), sR_ne _ _ (by decide)]
  rfl
/-- what cleared states are, on both sides -/
theorem clr_R0 (hm : memR (B.2.2 0) (M.2.2 0)) (h6 : B.1 6 = 0) (h7 : B.1 7 = 0) (hn : numOK M) (h11 : ¬ M.1 11 < 0) : R0 (rsB B) (clM M) := by
  have bn : (rsB B).2.2 1 = upd (fiT (B.2.2 1) 0 0 17) 15 1024 := by
    unfold rsB
    rw [sI_2, sI_2, sR_ne _ _ (by decide), sI_2, sI_2, sA_at2, sR_at]
  have b3 : (rsB B).2.2 3 = fiT (B.2.2 3) 0 0 64 := by
    unfold rsB
    rw [sI_2, sI_2, sR_at]
  have b0 : (rsB B).2.2 0 = B.2.2 0 := by
    unfold rsB
    rw [sI_2, sI_2, sR_ne _ _ (by decide), sI_2, sI_2, sA_ne2 _ _ _ (by decide), sR_ne _ _ (by decide)]
  have b13 : (rsB B).1 3 = 8192 := rfl
  have m1 : (clM M).2.2 1 = fiT (M.2.2 1) 0 0 8 := by
    unfold clM
    rw [sR_ne _ _ (by decide), clE_2, sA_ne2 _ _ _ (by decide), sA_ne2 _ _ _ (by decide), sR_ne _ _ (by decide), sR_at]
  have m2 : (clM M).2.2 2 = fiT (M.2.2 2) 0 0 7 := by
    unfold clM
    rw [sR_ne _ _ (by decide), clE_2, sA_ne2 _ _ _ (by decide), sA_ne2 _ _ _ (by decide), sR_at]
  have m3 : (clM M).2.2 3 0 = 0 ∧ (clM M).2.2 3 1 = 1024 := by
    unfold clM
    rw [sR_ne _ _ (by decide), clE_2, sA_at2, sA_at2, pk_us, pk_un (by decide), pk_us]
    exact ⟨rfl, rfl⟩
  have m4 : (clM M).2.2 4 = fiT (M.2.2 4) 0 0 64 := by
    unfold clM
    rw [sR_at]
  have m0 : (clM M).2.2 0 = M.2.2 0 := by
    unfold clM
    rw [sR_ne _ _ (by decide), clE_2, sA_ne2 _ _ _ (by decide), sA_ne2 _ _ _ (by decide), sR_ne _ _ (by decide), sR_ne _ _ (by decide)]
  refine ⟨⟨?_, ⟨fun k hk => ?_, fun k hk => ?_, ?_, ?_⟩, rfl, rfl, ?_, hn, h11, fun j h0 hj => ?_, ?_⟩, h6, h7, rfl, ⟨0, by decide, rfl⟩, rfl⟩
  · rw [b0, m0]; exact hm
  · rw [m1, bn, fiT_at _ _ _ _ hk, pk_un (by omega), fiT_at _ _ _ _ (by omega)]
  · rw [m2, bn, fiT_at _ _ _ _ hk, pk_un (by omega), fiT_at _ _ _ _ (by omega)]
  · rw [m3.1, b13, if_neg (by decide), bn, pk_un (by decide), fiT_at _ _ _ _ (by decide)]
  · rw [m3.2, b13, if_neg (by decide), bn, pk_us]
  · rw [b13]; unfold srOK; decide
  · rw [b3, m4, fiT_at _ _ _ _ hj, fiT_at _ _ _ _ hj]
  · rw [b3, fiT_at _ _ _ _ (by decide)]; rfl
theorem reset_step (h : R0 B M) : ∃ B' M', fX6_reset B = some B' ∧ fX7_reset M = some M' ∧ R0 B' M' := by
  unfold fX7_reset
  rw [reset_B, lt_d, clear_M, bv_some]
  exact ⟨_, _, rfl, rfl, clr_R0 (M := sI M 0 0) h.1.1 h.2.1 h.2.2.1 h.1.2.2.2.2.2.1 h.1.2.2.2.2.2.2.1⟩
end FC
