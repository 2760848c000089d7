/-! ===== writes, in step ===== -/
theorem sh_congr (v v' : Int32) (k n : Nat) (hk : k + 8 ≤ n) (hn : n ≤ 32) (h : ∀ i, i < n → bt v i = bt v' i) : (v >>> (nI k &&& 31)) &&& 255 = (v' >>> (nI k &&& 31)) &&& 255 := by
  apply b_ext
  intro i hi
  rw [b_and, b_and, b_sshr k (by omega) v hi, b_sshr k (by omega) v' hi, b_255]
  by_cases h8 : i < 8
  · rw [if_pos (by omega), if_pos (by omega), h (k + i) (by omega)]
  · simp [h8]
theorem low_bits {v v' m : Int32} {n : Nat} (hm : ∀ i, i < 32 → bt m i = decide (i < n)) (h : v &&& m = v' &&& m) (hn : n ≤ 32) : ∀ i, i < n → bt v i = bt v' i := by
  intro i hi
  have := congrArg (fun x => bt x i) h
  simp only [b_and, hm i (by omega), hi, decide_true, Bool.and_true] at this
  exact this
theorem wrM_c (m : Nat → Int32) (a v v' : Int32) : ∀ e, e < 3 → v &&& szM e = v' &&& szM e → wrM m a v e = wrM m a v' e := by
  refine e3 ?_ ?_ ?_
  · intro h
    have g := low_bits (n := 8) (m := 255) (by decide +kernel) h (by decide)
    show upd _ _ _ = upd _ _ _
    rw [sh_congr v v' 0 8 (by decide) (by decide) g]
  · intro h
    have g := low_bits (n := 16) (m := 65535) (by decide +kernel) h (by decide)
    show upd (upd _ _ _) _ _ = upd (upd _ _ _) _ _
    rw [sh_congr v v' 0 16 (by decide) (by decide) g, sh_congr v v' 8 16 (by decide) (by decide) g]
  · intro h
    have h : v &&& (-1 : Int32) = v' &&& (-1 : Int32) := h
    rw [and_m1, and_m1] at h
    rw [h]
theorem or_z (x : Int32) : (0 : Int32) ||| x = x := by apply b_ext; intro i hi; rw [b_or, b_0, Bool.false_or]
theorem jo_c (o v v' : Int32) : ∀ e, e < 3 → v &&& szM e = v' &&& szM e → (o &&& (szM e ^^^ (-1 : Int32))) ||| (v &&& szM e) = jo e o v' := by
  refine e3 ?_ ?_ ?_
  · intro h; rw [h]; rfl
  · intro h; rw [h]; rfl
  · intro h
    have h : v &&& (-1 : Int32) = v' &&& (-1 : Int32) := h
    rw [and_m1, and_m1] at h
    show (o &&& ((-1 : Int32) ^^^ (-1 : Int32))) ||| (v &&& (-1 : Int32)) = v'
    rw [and_m1, h]
    have : o &&& ((-1 : Int32) ^^^ (-1 : Int32)) = 0 := by
      apply b_ext; intro i hi; rw [b_and, b_xor, b_m1 i hi, b_0]; simp
    rw [this, or_z]
section WR
variable {c0 : CB} {d0 : CM} {m0 : Nat → Int32} {B M : St}
theorem le0 {x : Int32} (h : x = 0) : x ≤ 0 := by rw [h]; decide
/-- a write to D or to memory: both do it, or both are in trouble -/
theorem sim_store (e : Nat) (he : e < 3) (w : Int64) (v v' : Int32) (h : Ok c0 d0 B M) (hf : Fr m0 B M) (hp : PlR e w M m0) (hs : M.1 12 = 0 ∨ M.1 12 = 2) (hv : v &&& szM e = v' &&& szM e) :
    ∃ B' M', fX0_store e w v B = some B' ∧ fX7_give v' (szB e) M = some M' ∧ (Ok c0 d0 B' M' ∨ Tr c0 d0 m0 B' M') := by
  have h6 := h.2.2.2.2.2.1
  have h7 := h.2.2.2.2.2.2.2.1
  unfold fX7_give
  rw [if_pos (le0 h7)]
  rcases hp with ⟨hs0, k, hk, hn, hw⟩ | ⟨hs1, -⟩ | ⟨hs2, hw⟩ | ⟨hs3, -⟩
  · refine ⟨_, sA M 1 k (jo e (M.2.2 1 k) v'), by rw [hw]; exact pX0_store_rg e he k (by omega) v B, ?_, Or.inl ?_⟩
    · rw [if_pos hs0, hn, gd_t (ixo_of (nI_pos (by omega)) (by rw [nI_clamp (by omega)]; exact hk)), nI_clamp (by omega), pX7_joined _ _ M e he, bd_some, gd_t (ixo_of (nI_pos (by omega)) (by rw [nI_clamp (by omega)]; exact hk))]; rfl
    · rw [jo_c _ v v' e he hv, h.gD k hk]; exact h.sD k hk _
  · rcases hs with q | q <;> rw [hs1] at q <;> exact absurd q (by decide)
  · rw [if_neg (by rw [hs2]; decide), if_neg (by rw [hs2]; decide), if_pos hs2, hw, pX0_store_at e he, pX0_storeAt0 _ v B h6 e he, bv_some]
    rcases pX7_set0 (M.1 14) v' M h7 h.2.2.2.2.2.2.2.2.2.2.2.1 e he with ⟨ho, hm⟩ | ⟨ho, M', hm, hc, hmem⟩
    · refine ⟨_, _, rfl, by rw [hm, bv_some], Or.inr ?_⟩
      rw [ho, if_pos rfl]
      exact h.tr hf 3 _ (by decide)
    · refine ⟨_, M', rfl, by rw [hm, bv_some], Or.inl ?_⟩
      rw [ho, if_neg (by decide)]
      exact h.mem (M.1 14) v e he hc (by rw [hmem]; exact (wrM_c _ _ _ _ e he hv).symm)
  · rcases hs with q | q <;> rw [hs3] at q <;> exact absurd q (by decide)
end WR
/-! ===== in trouble: nothing that counts is touched ===== -/
section INERT
variable {c : CB} {d : CM} {m : Nat → Int32} {n o : Int32} {B M : St}
theorem TB.ne (h : TB c m n o B) (hn : 0 < n) : ¬ B.1 6 = 0 := by rw [h.2.2.1]; intro q; rw [q] at hn; exact absurd hn (by decide)
theorem TM.gt (h : TM d m n o M) (hn : 0 < n) : 0 < M.1 6 := by rw [h.2.2.1]; exact hn
theorem TB.A (h : TB c m n o B) (k : Nat) (v : Int32) : TB c m n o (sA B 1 k v) := h
theorem TB.sr (h : TB c m n o B) (v : Int32) : TB c m n o (sI B 3 v) := h
theorem TB.pc (h : TB c m n o B) (v : Int32) : TB c m n o (sI B 2 v) := h
theorem TB.stop (h : TB c m n o B) (v : Bool) : TB c m n o (sZ B 0 v) := h
theorem TM.sr (h : TM d m n o M) (v : Int32) : TM d m n o (sI M 2 v) := h
theorem TM.pc (h : TM d m n o M) (v : Int32) : TM d m n o (sI M 1 v) := h
theorem TM.D (h : TM d m n o M) (k : Nat) (v : Int32) : TM d m n o (sA M 1 k v) := h
theorem TM.A (h : TM d m n o M) (k : Nat) (v : Int32) : TM d m n o (mA' M k v) := by
  unfold mA'
  split
  · split <;> exact h
  · exact h
theorem tB_load (h : TB c m n o B) (hn : 0 < n) (e : Nat) (he : e < 3) (w : Int64) : ∃ r, fX0_load e w B = some (r, B) := by
  unfold fX0_load
  rw [gd_t he]
  by_cases q : 0 ≤ lg_cmp w 0
  · rw [if_pos q, pX0_loadAt1 _ B (h.ne hn) e he, bd_some]; exact ⟨_, rfl⟩
  · rw [if_neg q, pX4_get, bd_some]; exact ⟨_, rfl⟩
theorem tB_store (h : TB c m n o B) (hn : 0 < n) (e : Nat) (he : e < 3) (w : Int64) (v : Int32) : ∃ B', fX0_store e w v B = some B' ∧ TB c m n o B' := by
  unfold fX0_store
  rw [gd_t he]
  by_cases q : 0 ≤ lg_cmp w 0
  · rw [if_pos q, pX0_storeAt1 _ _ B (h.ne hn) e he, bv_some]; exact ⟨_, rfl, h⟩
  · rw [if_neg q, lt_d, pX4_get, bd_some, pX4_set, bv_some]; exact ⟨_, rfl, h.A _ _⟩
theorem tM_take (h : TM d m n o M) (hn : 0 < n) (e : Nat) (he : e < 3) : ∃ r, fX7_take (szB e) M = some (r, M) := by
  unfold fX7_take
  rw [jn_d]
  by_cases q0 : M.1 12 = 0
  · obtain ⟨k, hk, hk2⟩ := h.2.2.2.2.2 (Or.inl q0)
    rw [if_pos q0, hk2, gd_t (ixo_of (nI_pos (by omega)) (by rw [nI_clamp (by omega)]; exact hk))]
    dsimp only
    rw [pX7_plain _ M e he, bd_some]; exact ⟨_, rfl⟩
  rw [if_neg q0]
  by_cases q1 : M.1 12 = 1
  · obtain ⟨k, hk, hk2⟩ := h.2.2.2.2.2 (Or.inr q1)
    rw [if_pos q1, hk2, pX7_getA M k hk, bd_some]
    dsimp only
    rw [pX7_plain _ M e he, bd_some]; exact ⟨_, rfl⟩
  rw [if_neg q1]
  by_cases q3 : M.1 12 = 3
  · rw [if_pos q3]
    dsimp only
    rw [pX7_plain _ M e he, bd_some]; exact ⟨_, rfl⟩
  rw [if_neg q3, pX7_get1 _ _ M (h.gt hn), bd_some]
  dsimp only
  rw [pX7_plain _ M e he, bd_some]; exact ⟨_, rfl⟩
theorem tM_give (h : TM d m n o M) (hn : 0 < n) (v x : Int32) : fX7_give v x M = some M := by
  unfold fX7_give
  have h1 : ¬ M.1 6 ≤ 0 := by have := h.gt hn; rw [Int32.le_iff_toInt_le]; rw [Int32.lt_iff_toInt_lt] at this; omega
  rw [if_neg h1]
end INERT
