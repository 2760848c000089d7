/-! ===== kept registers: keep, bringBack; remember, takeBack ===== -/
def cpT (f g : Nat → Int32) (j n : Nat) : Nat → Int32 := fun k => if j ≤ k ∧ k < n then f k else g k
theorem cpT_s (f g : Nat → Int32) (j n : Nat) (h : j < n) : cpT f (upd g j (f j)) (j + 1) n = cpT f g j n := by
  funext k
  unfold cpT
  by_cases q : k = j
  · subst q
    rw [if_neg (by omega), if_pos ⟨Nat.le_refl _, h⟩, pk_us]
  · by_cases z : j ≤ k ∧ k < n
    · rw [if_pos (by omega), if_pos z]
    · rw [if_neg (by omega), if_neg z, pk_un q]
theorem cpT_e (f g : Nat → Int32) (n : Nat) : cpT f g n n = g := by
  funext k
  unfold cpT
  rw [if_neg (by omega)]
theorem cpT_at (f g : Nat → Int32) (n k : Nat) (h : k < n) : cpT f g 0 n k = f k := if_pos ⟨Nat.zero_le _, h⟩
theorem ixn {j n : Nat} (h : j < n) (hn : n < 65536) : ixo (nI j) n = true := ixo_of (nI_pos (by omega)) (by rw [nI_clamp (by omega)]; exact h)
theorem rem1 (F : Nat) : ∀ m j (S : St), j + m = 8 → fX7_remember_l1 (F + m + 1) (nI j) S = fX7_remember_l2 9 0 (sR S 5 (cpT (S.2.2 1) (S.2.2 5) j 8)) := by
  intro m
  induction m with
  | zero =>
    intro j S h
    obtain rfl : j = 8 := by omega
    show fX7_remember_b1 _ (nI 8) S = _
    unfold fX7_remember_b1
    rw [if_pos (by decide), cpT_e, sR_self]
  | succ m ih =>
    intro j S h
    show fX7_remember_b1 (fX7_remember_l1 (F + m + 1)) (nI j) S = _
    unfold fX7_remember_b1
    rw [if_neg (show ¬ (8 : Int32) ≤ nI j from nI_ge (a := j) (b := 8) (by omega) (by decide)), gd_t (ixn (by omega) (by decide)), gd_t (ixn (by omega) (by decide)), nI_clamp (by omega), lt_d, lt_d, ← nI_succ, ih (j + 1) _ (by omega), sA_R, sR_R, sR_at, sR_ne _ _ (by decide), cpT_s _ _ _ _ (by omega)]
def remE (S : St) : St := sI (sI (sI (sA (sA S 7 0 (S.2.2 3 0)) 7 1 (S.2.2 3 1)) 9 (S.1 1)) 10 (S.1 2)) 11 0
theorem rem2 (F : Nat) : ∀ m j (S : St), j + m = 7 → fX7_remember_l2 (F + m + 1) (nI j) S = some (remE (sR S 6 (cpT (S.2.2 2) (S.2.2 6) j 7))) := by
  intro m
  induction m with
  | zero =>
    intro j S h
    obtain rfl : j = 7 := by omega
    show fX7_remember_b2 _ (nI 7) S = _
    unfold fX7_remember_b2
    rw [if_pos (by decide), cpT_e, sR_self, gd_t (by decide), gd_t (by decide), lt_d, gd_t (by decide), gd_t (by decide), lt_d, lt_d, lt_d, lt_d]
    rfl
  | succ m ih =>
    intro j S h
    show fX7_remember_b2 (fX7_remember_l2 (F + m + 1)) (nI j) S = _
    unfold fX7_remember_b2
    rw [if_neg (show ¬ (7 : Int32) ≤ nI j from nI_ge (a := j) (b := 7) (by omega) (by decide)), gd_t (ixn (by omega) (by decide)), gd_t (ixn (by omega) (by decide)), nI_clamp (by omega), lt_d, lt_d, ← nI_succ, ih (j + 1) _ (by omega), sA_R, sR_R, sR_at, sR_ne _ _ (by decide), cpT_s _ _ _ _ (by omega)]
def remM (M : St) : St := remE (sR (sR M 5 (cpT (M.2.2 1) (M.2.2 5) 0 8)) 6 (cpT (M.2.2 2) (M.2.2 6) 0 7))
theorem remember_ok (M : St) : fX7_remember M = some (remM M) := by
  unfold fX7_remember
  have := rem1 0 8 0 M rfl
  rw [show 0 + 8 + 1 = 9 from rfl, show nI 0 = 0 from rfl] at this
  rw [this]
  have := rem2 1 7 0 (sR M 5 (cpT (M.2.2 1) (M.2.2 5) 0 8)) rfl
  rw [show 1 + 7 + 1 = 9 from rfl, show nI 0 = 0 from rfl] at this
  rw [this, sR_ne _ _ (by decide), sR_ne _ _ (by decide)]
  rfl
def tkE (S : St) : St := sI (sI (sI (sA (sA S 3 0 (S.2.2 7 0)) 3 1 (S.2.2 7 1)) 1 (S.1 9)) 2 (S.1 10)) 11 0
theorem tk1 (F : Nat) : ∀ m j (S : St), j + m = 8 → fX7_takeBack_l1 (F + m + 1) (nI j) S = fX7_takeBack_l2 401 0 (sR S 1 (cpT (S.2.2 5) (S.2.2 1) j 8)) := by
  intro m
  induction m with
  | zero =>
    intro j S h
    obtain rfl : j = 8 := by omega
    show fX7_takeBack_b1 _ (nI 8) S = _
    unfold fX7_takeBack_b1
    rw [if_pos (by decide), cpT_e, sR_self]
  | succ m ih =>
    intro j S h
    show fX7_takeBack_b1 (fX7_takeBack_l1 (F + m + 1)) (nI j) S = _
    unfold fX7_takeBack_b1
    rw [if_neg (show ¬ (8 : Int32) ≤ nI j from nI_ge (a := j) (b := 8) (by omega) (by decide)), gd_t (ixn (by omega) (by decide)), gd_t (ixn (by omega) (by decide)), nI_clamp (by omega), lt_d, lt_d, ← nI_succ, ih (j + 1) _ (by omega), sA_R, sR_R, sR_at, sR_ne _ _ (by decide), cpT_s _ _ _ _ (by omega)]
theorem tk2 (F : Nat) : ∀ m j (S : St), j + m = 7 → S.1 11 = 0 → fX7_takeBack_l2 (F + m + 1) (nI j) S = some (tkE (sR S 2 (cpT (S.2.2 6) (S.2.2 2) j 7))) := by
  intro m
  induction m with
  | zero =>
    intro j S h h11
    obtain rfl : j = 7 := by omega
    show fX7_takeBack_b2 _ (nI 7) S = _
    unfold fX7_takeBack_b2
    rw [if_pos (by decide), cpT_e, sR_self, gd_t (by decide), gd_t (by decide), lt_d, gd_t (by decide), gd_t (by decide), lt_d, lt_d, lt_d, lt_d]
    show fX7_takeBack_b3 _ (S.1 11 - 1) _ = _
    rw [h11]
    unfold fX7_takeBack_b3
    rw [if_pos (by decide), lt_d]
    rfl
  | succ m ih =>
    intro j S h h11
    show fX7_takeBack_b2 (fX7_takeBack_l2 (F + m + 1)) (nI j) S = _
    unfold fX7_takeBack_b2
    rw [if_neg (show ¬ (7 : Int32) ≤ nI j from nI_ge (a := j) (b := 7) (by omega) (by decide)), gd_t (ixn (by omega) (by decide)), gd_t (ixn (by omega) (by decide)), nI_clamp (by omega), lt_d, lt_d, ← nI_succ, ih (j + 1) (sA S 2 j (S.2.2 6 j)) (by omega) h11, sA_R, sR_R, sR_at, sR_ne _ _ (by decide), cpT_s _ _ _ _ (by omega)]
def tkM (M : St) : St := tkE (sR (sR M 1 (cpT (M.2.2 5) (M.2.2 1) 0 8)) 2 (cpT (M.2.2 6) (M.2.2 2) 0 7))
theorem takeBack_ok (M : St) (h : M.1 11 = 0) : fX7_takeBack M = some (tkM M) := by
  unfold fX7_takeBack
  have := tk1 392 8 0 M rfl
  rw [show 392 + 8 + 1 = 401 from rfl, show nI 0 = 0 from rfl] at this
  rw [this]
  have := tk2 393 7 0 (sR M 1 (cpT (M.2.2 5) (M.2.2 1) 0 8)) rfl h
  rw [show 393 + 7 + 1 = 401 from rfl, show nI 0 = 0 from rfl] at this
  rw [this, sR_ne _ _ (by decide), sR_ne _ _ (by decide)]
  rfl
theorem sA_ne2 (S : St) {k i : Nat} (j : Nat) (v : Int32) (h : i ≠ k) : (sA S k j v).2.2 i = S.2.2 i := by rw [sA_R, sR_ne _ _ h]
theorem sA_at2 (S : St) (k j : Nat) (v : Int32) : (sA S k j v).2.2 k = upd (S.2.2 k) j v := by rw [sA_R, sR_at]
theorem remM_p (M : St) : (remM M).1 9 = M.1 1 ∧ (remM M).1 10 = M.1 2 ∧ (remM M).1 11 = 0 ∧ (∀ k, k ≠ 9 → k ≠ 10 → k ≠ 11 → (remM M).1 k = M.1 k) ∧ (remM M).2.1 = M.2.1 ∧ (∀ k, k < 8 → (remM M).2.2 5 k = M.2.2 1 k) ∧ (∀ k, k < 7 → (remM M).2.2 6 k = M.2.2 2 k) ∧ (remM M).2.2 7 0 = M.2.2 3 0 ∧ (remM M).2.2 7 1 = M.2.2 3 1 ∧ (∀ k, k ≠ 5 → k ≠ 6 → k ≠ 7 → (remM M).2.2 k = M.2.2 k) := by
  unfold remM remE
  refine ⟨?_, ?_, sI_at _ _ _, fun k h9 h10 h11 => ?_, rfl, fun k hk => ?_, fun k hk => ?_, ?_, ?_, fun k h5 h6 h7 => ?_⟩
  · rw [sI_ne _ _ (by decide), sI_ne _ _ (by decide), sI_at]; rfl
  · rw [sI_ne _ _ (by decide), sI_at]; rfl
  · rw [sI_ne _ _ h11, sI_ne _ _ h10, sI_ne _ _ h9]; rfl
  · rw [sI_2, sI_2, sI_2, sA_ne2 _ _ _ (by decide), sA_ne2 _ _ _ (by decide), sR_ne _ _ (by decide), sR_at]; exact cpT_at _ _ _ _ hk
  · rw [sI_2, sI_2, sI_2, sA_ne2 _ _ _ (by decide), sA_ne2 _ _ _ (by decide), sR_at]; exact cpT_at _ _ _ _ hk
  · rw [sI_2, sI_2, sI_2, sA_at2, pk_un (by decide), sA_at2, pk_us, sR_ne _ _ (by decide), sR_ne _ _ (by decide)]
  · rw [sI_2, sI_2, sI_2, sA_at2, pk_us, sR_ne _ _ (by decide), sR_ne _ _ (by decide)]
  · rw [sI_2, sI_2, sI_2, sA_ne2 _ _ _ h7, sA_ne2 _ _ _ h7, sR_ne _ _ h6, sR_ne _ _ h5]
theorem tkM_p (M : St) : (tkM M).1 1 = M.1 9 ∧ (tkM M).1 2 = M.1 10 ∧ (tkM M).1 11 = 0 ∧ (∀ k, k ≠ 1 → k ≠ 2 → k ≠ 11 → (tkM M).1 k = M.1 k) ∧ (tkM M).2.1 = M.2.1 ∧ (∀ k, k < 8 → (tkM M).2.2 1 k = M.2.2 5 k) ∧ (∀ k, k < 7 → (tkM M).2.2 2 k = M.2.2 6 k) ∧ (tkM M).2.2 3 0 = M.2.2 7 0 ∧ (tkM M).2.2 3 1 = M.2.2 7 1 ∧ (∀ k, k ≠ 1 → k ≠ 2 → k ≠ 3 → (tkM M).2.2 k = M.2.2 k) := by
  unfold tkM tkE
  refine ⟨?_, ?_, sI_at _ _ _, fun k h9 h10 h11 => ?_, rfl, fun k hk => ?_, fun k hk => ?_, ?_, ?_, fun k h5 h6 h7 => ?_⟩
  · rw [sI_ne _ _ (by decide), sI_ne _ _ (by decide), sI_at]; rfl
  · rw [sI_ne _ _ (by decide), sI_at]; rfl
  · rw [sI_ne _ _ h11, sI_ne _ _ h10, sI_ne _ _ h9]; rfl
  · rw [sI_2, sI_2, sI_2, sA_ne2 _ _ _ (by decide), sA_ne2 _ _ _ (by decide), sR_ne _ _ (by decide), sR_at]; exact cpT_at _ _ _ _ hk
  · rw [sI_2, sI_2, sI_2, sA_ne2 _ _ _ (by decide), sA_ne2 _ _ _ (by decide), sR_at]; exact cpT_at _ _ _ _ hk
  · rw [sI_2, sI_2, sI_2, sA_at2, pk_un (by decide), sA_at2, pk_us, sR_ne _ _ (by decide), sR_ne _ _ (by decide)]
  · rw [sI_2, sI_2, sI_2, sA_at2, pk_us, sR_ne _ _ (by decide), sR_ne _ _ (by decide)]
  · rw [sI_2, sI_2, sI_2, sA_ne2 _ _ _ h7, sA_ne2 _ _ _ h7, sR_ne _ _ h6, sR_ne _ _ h5]
/-! the class's -/
def kpB (B : St) : St := sI (sI (sR B 2 (va_cpy (B.2.2 1) (B.2.2 2) 0 0 17)) 4 (B.1 2)) 5 (B.1 3)
def bbB (B : St) : St := sI (sI (sR B 1 (va_cpy (B.2.2 2) (B.2.2 1) 0 0 17)) 2 (B.1 4)) 3 (B.1 5)
theorem keep_ok (B : St) : fX4_keep B = some (kpB B) := by
  unfold fX4_keep
  rw [lt_d, lt_d, lt_d]
  rfl
theorem bring_ok (B : St) : fX4_bringBack B = some (bbB B) := by
  unfold fX4_bringBack
  rw [lt_d, lt_d, lt_d]
  rfl
theorem cpy17 (f g : Nat → Int32) (k : Nat) (hk : k < 17) : va_cpy f g 0 0 17 k = f k := by
  unfold va_cpy
  rw [if_pos (by omega)]
  congr 1
  omega
theorem kpB_p (B : St) : (kpB B).1 4 = B.1 2 ∧ (kpB B).1 5 = B.1 3 ∧ (∀ k, k ≠ 4 → k ≠ 5 → (kpB B).1 k = B.1 k) ∧ (kpB B).2.1 = B.2.1 ∧ (∀ k, k < 17 → (kpB B).2.2 2 k = B.2.2 1 k) ∧ (∀ k, k ≠ 2 → (kpB B).2.2 k = B.2.2 k) := by
  unfold kpB
  refine ⟨?_, sI_at _ _ _, fun k h4 h5 => ?_, rfl, fun k hk => ?_, fun k hk => ?_⟩
  · rw [sI_ne _ _ (by decide), sI_at]
  · rw [sI_ne _ _ h5, sI_ne _ _ h4]; rfl
  · rw [sI_2, sI_2, sR_at]; exact cpy17 _ _ _ hk
  · rw [sI_2, sI_2, sR_ne _ _ hk]
theorem bbB_p (B : St) : (bbB B).1 2 = B.1 4 ∧ (bbB B).1 3 = B.1 5 ∧ (∀ k, k ≠ 2 → k ≠ 3 → (bbB B).1 k = B.1 k) ∧ (bbB B).2.1 = B.2.1 ∧ (∀ k, k < 17 → (bbB B).2.2 1 k = B.2.2 2 k) ∧ (∀ k, k ≠ 1 → (bbB B).2.2 k = B.2.2 k) := by
  unfold bbB
  refine ⟨?_, sI_at _ _ _, fun k h4 h5 => ?_, rfl, fun k hk => ?_, fun k hk => ?_⟩
  · rw [sI_ne _ _ (by decide), sI_at]
  · rw [sI_ne _ _ h5, sI_ne _ _ h4]; rfl
  · rw [sI_2, sI_2, sR_at]; exact cpy17 _ _ _ hk
  · rw [sI_2, sI_2, sR_ne _ _ hk]
