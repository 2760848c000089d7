/-! ===== pure: memory written ===== -/
def bb (v : Int32) : Int32 := (v.toInt8.toInt32).toInt8.toInt32
theorem bb_255 (v : Int32) : bb v &&& 255 = v &&& 255 := by unfold bb; rw [bp_b, bp_b]
theorem sA_R (S : St) (k j : Nat) (x : Int32) : sA S k j x = sR S k (upd (S.2.2 k) j x) := rfl
theorem sR_R (S : St) (k : Nat) (f g : Nat → Int32) : sR (sR S k f) k g = sR S k g := by
  show (S.1, S.2.1, va_up (va_up S.2.2 k f) k g) = (S.1, S.2.1, va_up S.2.2 k g)
  rw [bx_uu]
theorem sR_at (S : St) (k : Nat) (f : Nat → Int32) : (sR S k f).2.2 k = f := va_up_self _ _ _
theorem sR_ne (S : St) {k j : Nat} (f : Nat → Int32) (h : j ≠ k) : (sR S k f).2.2 j = S.2.2 j := va_up_ne _ _ h
theorem sA_A (S : St) (k j : Nat) (f : Nat → Int32) (x : Int32) : sA (sR S k f) k j x = sR S k (upd f j x) := by
  rw [sA_R, sR_at, sR_R]
def wrB (c : Nat → Int32) (a v : Int32) (e : Nat) : Nat → Int32 :=
  if e = 0 then upd c (a12 (a + 0)) (bb v)
  else if e = 1 then upd (upd c (a12 (a + 1)) (bb v)) (a12 (a + 0)) (bb (ush v 8))
  else upd (upd (upd (upd c (a12 (a + 3)) (bb v)) (a12 (a + 2)) (bb (ush v 8))) (a12 (a + 1)) (bb (ush (ush v 8) 8))) (a12 (a + 0)) (bb (ush (ush (ush v 8) 8) 8))
def wrM (c : Nat → Int32) (a v : Int32) (e : Nat) : Nat → Int32 :=
  if e = 0 then upd c (a12 (a + 0)) ((v >>> (nI 0 &&& 31)) &&& 255)
  else if e = 1 then upd (upd c (a12 (a + 0)) ((v >>> (nI 8 &&& 31)) &&& 255)) (a12 (a + 1)) ((v >>> (nI 0 &&& 31)) &&& 255)
  else upd (upd (upd (upd c (a12 (a + 0)) ((v >>> (nI 24 &&& 31)) &&& 255)) (a12 (a + 1)) ((v >>> (nI 16 &&& 31)) &&& 255)) (a12 (a + 2)) ((v >>> (nI 8 &&& 31)) &&& 255)) (a12 (a + 3)) ((v >>> (nI 0 &&& 31)) &&& 255)
theorem st_s (a : Int32) (k : Nat) (i v : Int32) (S : St) (f : Nat → Int32) (h : ¬ i < 0) : fX3_store_l1 a (k + 1) i v (sR S 0 f) = fX3_store_l1 a k (i + (-1)) (ush v 8) (sR S 0 (upd f (a12 (a + i)) (bb v))) := by
  show fX3_store_b1 a (fX3_store_l1 a k) i v (sR S 0 f) = _
  unfold fX3_store_b1
  rw [if_neg h, gd_t (ixo_12 _)]
  simp only [lt_d]
  rw [sA_A]; rfl
theorem st_e (a : Int32) (k : Nat) (i v : Int32) (S : St) (h : i < 0) : fX3_store_l1 a (k + 1) i v S = some S := by
  show fX3_store_b1 a (fX3_store_l1 a k) i v S = _
  unfold fX3_store_b1
  rw [if_pos h]
theorem sR_self (S : St) (k : Nat) : sR S k (S.2.2 k) = S := by
  show (S.1, S.2.1, va_up S.2.2 k (S.2.2 k)) = S
  have : va_up S.2.2 k (S.2.2 k) = S.2.2 := by
    funext j
    by_cases h : j = k
    · subst h; exact va_up_self _ _ _
    · exact va_up_ne _ _ h
  rw [this]
theorem pX3_store (a v : Int32) (S : St) : ∀ e, e < 3 → fX3_store a v (szB e) S = some (sR S 0 (wrB (S.2.2 0) a v e)) := by
  refine e3 ?_ ?_ ?_
  · show fX3_store_l1 a 5 (szB 0 - 1) v S = _
    rw [szB0]
    conv => lhs; rw [← sR_self S 0]
    rw [st_s _ _ _ _ _ _ (by decide), st_e _ _ _ _ _ (by decide)]; rfl
  · show fX3_store_l1 a 5 (szB 1 - 1) v S = _
    rw [szB1]
    conv => lhs; rw [← sR_self S 0]
    rw [st_s _ _ _ _ _ _ (by decide), st_s _ _ _ _ _ _ (by decide), st_e _ _ _ _ _ (by decide)]; rfl
  · show fX3_store_l1 a 5 (szB 2 - 1) v S = _
    rw [szB2]
    conv => lhs; rw [← sR_self S 0]
    rw [st_s _ _ _ _ _ _ (by decide), st_s _ _ _ _ _ _ (by decide), st_s _ _ _ _ _ _ (by decide), st_s _ _ _ _ _ _ (by decide), st_e _ _ _ _ _ (by decide)]; rfl
/-! the reference keeps a row of what it has changed -/
def Ch (M M' : St) : Prop := (∀ k, k ≠ 11 → M'.1 k = M.1 k) ∧ M'.2.1 = M.2.1 ∧ (∀ k, k ≠ 0 → k ≠ 8 → k ≠ 9 → M'.2.2 k = M.2.2 k) ∧ ¬ M'.1 11 < 0
theorem Ch.rf {M : St} (h : ¬ M.1 11 < 0) : Ch M M := ⟨fun _ _ => rfl, rfl, fun _ _ _ _ => rfl, h⟩
theorem Ch.tr {A B C : St} (h1 : Ch A B) (h2 : Ch B C) : Ch A C := ⟨fun k h => (h2.1 k h).trans (h1.1 k h), h2.2.1.trans h1.2.1, fun k a b c => (h2.2.2.1 k a b c).trans (h1.2.2.1 k a b c), h2.2.2.2⟩
theorem sI_at (S : St) (k : Nat) (v : Int32) : (sI S k v).1 k = v := pk_us
theorem sI_ne (S : St) {k j : Nat} (v : Int32) (h : j ≠ k) : (sI S k v).1 j = S.1 j := pk_un h
theorem sI_2 (S : St) (k : Nat) (v : Int32) : (sI S k v).2 = S.2 := rfl
theorem pX7_setByte (w v : Int32) (M : St) (h : ¬ M.1 11 < 0) : ∃ M', fX7_setByte w v M = some M' ∧ Ch M M' ∧ M'.2.2 0 = upd (M.2.2 0) (a12 w) (v &&& 255) := by
  unfold fX7_setByte
  by_cases hc : 400 ≤ M.1 11
  · simp only [jn, lt, gd_t (ixo_12 w), if_pos hc]
    exact ⟨_, rfl, ⟨fun _ _ => rfl, rfl, fun k a b c => va_up_ne _ _ a, h⟩, rfl⟩
  · have hi : ixo (M.1 11) 400 = true := by
      obtain ⟨j, hj, he⟩ := nI_of h
      refine ixo_of h ?_
      rw [he] at hc ⊢
      rw [nI_clamp hj]
      rcases Nat.lt_or_ge j 400 with q | q
      · exact q
      · exact absurd (nI_le q hj) hc
    have h3 : ¬ (M.1 11 + 1) < 0 := by
      obtain ⟨j, hj, he⟩ := nI_of h
      rw [he] at hc ⊢
      rw [nI_1]
      refine nI_pos ?_
      rcases Nat.lt_or_ge j 400 with q | q
      · omega
      · exact absurd (nI_le q hj) hc
    simp only [jn, lt, gd_t (ixo_12 w), if_neg hc]
    rw [gd_t hi, gd_t (show ixo ((sA M 8 (M.1 11).toNatClampNeg (w &&& 4095)).1 11) 400 = true from hi)]
    refine ⟨_, rfl, ⟨fun k a => sI_ne _ _ a, rfl, fun k a b c => ?_, ?_⟩, ?_⟩
    · show va_up (va_up (va_up M.2.2 8 _) 9 _) 0 _ k = M.2.2 k
      rw [va_up_ne _ _ a, va_up_ne _ _ c, va_up_ne _ _ b]
    · exact h3
    · rfl
theorem mst_s (a v n : Int32) (k : Nat) (i : Int32) (M : St) (h : ¬ n ≤ i) (hc : ¬ M.1 11 < 0) : ∃ M', fX7_store_l1 a v n (k + 1) i M = fX7_store_l1 a v n k (i + 1) M' ∧ Ch M M' ∧ M'.2.2 0 = upd (M.2.2 0) (a12 (a + i)) ((v >>> ((8 * ((n - 1) - i)) &&& 31)) &&& 255) := by
  obtain ⟨M', h1, h2, h3⟩ := pX7_setByte (a + i) (v >>> ((8 * ((n - 1) - i)) &&& 31)) M hc
  refine ⟨M', ?_, h2, h3⟩
  show fX7_store_b1 a v n (fX7_store_l1 a v n k) i M = _
  unfold fX7_store_b1
  rw [if_neg h, h1]; rfl
theorem mst_e (a v n : Int32) (k : Nat) (i : Int32) (M : St) (h : n ≤ i) : fX7_store_l1 a v n (k + 1) i M = some M := by
  show fX7_store_b1 a v n (fX7_store_l1 a v n k) i M = _
  unfold fX7_store_b1
  rw [if_pos h]
theorem pX7_store (a v : Int32) (M : St) (hc : ¬ M.1 11 < 0) : ∀ e, e < 3 → ∃ M', fX7_store a v (szB e) M = some M' ∧ Ch M M' ∧ M'.2.2 0 = wrM (M.2.2 0) a v e := by
  refine e3 ?_ ?_ ?_
  · unfold fX7_store
    rw [szB0]
    obtain ⟨M1, h1, c1, q1⟩ := mst_s a v 1 4 0 M (by decide) hc
    refine ⟨M1, ?_, c1, ?_⟩
    · rw [h1, mst_e _ _ _ _ _ _ (by decide)]
    · rw [q1]; rfl
  · unfold fX7_store
    rw [szB1]
    obtain ⟨M1, h1, c1, q1⟩ := mst_s a v 2 4 0 M (by decide) hc
    obtain ⟨M2, h2, c2, q2⟩ := mst_s a v 2 3 (0 + 1) M1 (by decide) c1.2.2.2
    refine ⟨M2, ?_, c1.tr c2, ?_⟩
    · rw [h1, h2, mst_e _ _ _ _ _ _ (by decide)]
    · rw [q2, q1]; rfl
  · unfold fX7_store
    rw [szB2]
    obtain ⟨M1, h1, c1, q1⟩ := mst_s a v 4 4 0 M (by decide) hc
    obtain ⟨M2, h2, c2, q2⟩ := mst_s a v 4 3 (0 + 1) M1 (by decide) c1.2.2.2
    obtain ⟨M3, h3, c3, q3⟩ := mst_s a v 4 2 (0 + 1 + 1) M2 (by decide) c2.2.2.2
    obtain ⟨M4, h4, c4, q4⟩ := mst_s a v 4 1 (0 + 1 + 1 + 1) M3 (by decide) c3.2.2.2
    refine ⟨M4, ?_, ((c1.tr c2).tr c3).tr c4, ?_⟩
    · rw [h1, h2, h3, h4, mst_e _ _ _ _ _ _ (by decide)]
    · rw [q4, q3, q2, q1]; rfl
/-! the two memories stay alike -/
theorem a12_v (x : Int32) : a12 x = x.toBitVec.toNat % 4096 := (mk_and x 4095 12 (by decide) (by decide)).1
theorem a12_add (a : Int32) (p : Nat) (hp : p < 4096) : a12 (a + nI p) = (a.toBitVec.toNat + p) % 4096 := by
  rw [a12_v, Int32.toBitVec_add, BitVec.toNat_add, pk_tn (n := p) (by omega)]
  omega
theorem a12_lt (x : Int32) : a12 x < 4096 := by rw [a12_v]; exact Nat.mod_lt _ (by decide)
theorem a12_ne (a : Int32) (p q : Nat) (hp : p < 4) (hq : q < 4) (h : p ≠ q) : a12 (a + nI p) ≠ a12 (a + nI q) := by
  rw [a12_add a p (by omega), a12_add a q (by omega)]; omega
theorem byte_sh (v : Int32) (n : Nat) (hn : n ≤ 24) (x : Int32) (hx : ∀ i, bt x i = bt v (n + i)) : bb x &&& 255 = (v >>> (nI n &&& 31)) &&& 255 := by
  rw [bb_255]
  apply b_ext
  intro i hi
  rw [b_and, b_and, b_sshr n (by omega) v hi, b_255, hx]
  by_cases h : i < 8
  · rw [if_pos (by omega)]
  · simp [h]
theorem bt_ush (x : Int32) (i : Nat) : bt (ush x 8) i = bt x (8 + i) := b_ushr 8 (by decide) x i
theorem byte_0 (v : Int32) : bb v &&& 255 = (v >>> (nI 0 &&& 31)) &&& 255 := byte_sh v 0 (by decide) v (fun i => by rw [Nat.zero_add])
theorem byte_8 (v : Int32) : bb (ush v 8) &&& 255 = (v >>> (nI 8 &&& 31)) &&& 255 := byte_sh v 8 (by decide) _ (fun i => bt_ush v i)
theorem byte_16 (v : Int32) : bb (ush (ush v 8) 8) &&& 255 = (v >>> (nI 16 &&& 31)) &&& 255 := byte_sh v 16 (by decide) _ (fun i => by rw [bt_ush, bt_ush]; congr 1; omega)
theorem byte_24 (v : Int32) : bb (ush (ush (ush v 8) 8) 8) &&& 255 = (v >>> (nI 24 &&& 31)) &&& 255 := byte_sh v 24 (by decide) _ (fun i => by rw [bt_ush, bt_ush, bt_ush]; congr 1; omega)
def memR (c m : Nat → Int32) : Prop := ∀ j, j < 4096 → m j = c j &&& 255
theorem upd_c (f : Nat → Int32) {i j : Nat} (x y : Int32) (h : i ≠ j) : upd (upd f i x) j y = upd (upd f j y) i x := by
  funext k
  unfold upd
  by_cases h1 : k = i
  · subst h1; simp [h]
  · simp [h1]
theorem memR_u {c m : Nat → Int32} (h : memR c m) {j : Nat} {x y : Int32} (hxy : x &&& 255 = y) : memR (upd c j x) (upd m j y) := by
  intro k hk
  unfold upd
  by_cases h1 : k = j
  · simp [h1, hxy]
  · simp [h1, h k hk]
theorem memW {c m : Nat → Int32} (h : memR c m) (a v : Int32) : ∀ e, e < 3 → memR (wrB c a v e) (wrM m a v e) := by
  have n01 : a12 (a + 0) ≠ a12 (a + 1) := a12_ne a 0 1 (by decide) (by decide) (by decide)
  have n02 : a12 (a + 0) ≠ a12 (a + 2) := a12_ne a 0 2 (by decide) (by decide) (by decide)
  have n03 : a12 (a + 0) ≠ a12 (a + 3) := a12_ne a 0 3 (by decide) (by decide) (by decide)
  have n12 : a12 (a + 1) ≠ a12 (a + 2) := a12_ne a 1 2 (by decide) (by decide) (by decide)
  have n13 : a12 (a + 1) ≠ a12 (a + 3) := a12_ne a 1 3 (by decide) (by decide) (by decide)
  have n23 : a12 (a + 2) ≠ a12 (a + 3) := a12_ne a 2 3 (by decide) (by decide) (by decide)
  refine e3 ?_ ?_ ?_
  · exact memR_u h (byte_0 v)
  · show memR (upd (upd c _ _) _ _) (upd (upd m _ _) _ _)
    rw [upd_c m _ _ n01]
    exact memR_u (memR_u h (byte_0 v)) (byte_8 v)
  · show memR (upd (upd (upd (upd c _ _) _ _) _ _) _ _) (upd (upd (upd (upd m _ _) _ _) _ _) _ _)
    rw [upd_c m _ _ n01, upd_c _ _ _ n02, upd_c _ _ _ n03, upd_c m _ _ n12, upd_c _ _ _ n13, upd_c m _ _ n23]
    exact memR_u (memR_u (memR_u (memR_u h (byte_0 v)) (byte_8 v)) (byte_16 v)) (byte_24 v)
theorem memL {c m : Nat → Int32} (h : memR c m) (a : Int32) (e : Nat) : ldg (fun i => m (a12 (a + i))) e = ldg (fun i => (c (a12 (a + i))) &&& 255) e := by
  congr 1
  funext i
  exact h _ (a12_lt _)
