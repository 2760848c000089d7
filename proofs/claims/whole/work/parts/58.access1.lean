/-! ===== reads and writes of both sides ===== -/
def ldB (c : Nat → Int32) (a : Int32) (e : Nat) : Int32 := ldg (fun i => (c (a12 (a + i))) &&& 255) e
theorem pX0_nextWord (S : St) : fX0_nextWord S = some (ldB (S.2.2 0) (S.1 2) 1, sI S 2 (S.1 2 + 2)) := by
  unfold fX0_nextWord
  rw [show (2 : Int32) = szB 1 from rfl, pX3_load (S.1 2) S 1 (by decide), bd_some]; rfl
theorem pX0_nextLong (S : St) : fX0_nextLong S = some (ldB (S.2.2 0) (S.1 2) 2, sI S 2 (S.1 2 + 4)) := by
  unfold fX0_nextLong
  rw [show (4 : Int32) = szB 2 from rfl, pX3_load (S.1 2) S 2 (by decide), bd_some]; rfl
def od (e : Nat) (a : Int32) : Bool := !decide (e = 0) && !decide (a &&& 1 = 0)
def tbB (S : St) (n a : Int32) : St := sI (sI S 6 n) 7 a
theorem bit01 (a : Int32) : a &&& 1 = 0 ∨ a &&& 1 = 1 := by
  obtain ⟨j, hj, he⟩ := pk_andE a (m := 1) 1 (by decide)
  have : j = 0 ∨ j = 1 := by omega
  rcases this with rfl | rfl
  · exact Or.inl he
  · exact Or.inr he
theorem pX0_ref0 (a : Int32) (S : St) (h : S.1 6 = 0) : ∀ e, e < 3 → fX0_refuses e a S = some (od e a, if od e a = true then tbB S 3 a else S) := by
  intro e he
  unfold fX0_refuses od
  rw [gd_t he, jn_d, if_pos h]
  by_cases h0 : e = 0
  · rw [if_pos h0, decide_eq_true h0]
    dsimp only
    rw [if_pos h]; rfl
  · rw [if_neg h0, decide_eq_false h0]
    by_cases h1 : a &&& 1 = 0
    · rw [if_pos h1, decide_eq_true h1]
      dsimp only
      rw [if_pos h]; rfl
    · rw [if_neg h1, decide_eq_false h1]; rfl
theorem pX0_ref1 (a : Int32) (S : St) (h : ¬ S.1 6 = 0) : ∀ e, e < 3 → fX0_refuses e a S = some (true, S) := by
  intro e he
  unfold fX0_refuses
  rw [gd_t he, jn_d, if_neg h]
  dsimp only
  rw [if_neg h]
theorem szB_1 : ∀ e, e < 3 → (szB e ≤ 1 ↔ e = 0) := by decide
theorem pX7_odd0 (a : Int32) (M : St) (h : M.1 6 = 0) : ∀ e, e < 3 → fX7_isOdd a (szB e) M = some (od e a, if od e a = true then tbB M 3 a else M) := by
  intro e he
  unfold fX7_isOdd od
  rw [jn_d, if_pos h]
  by_cases h0 : e = 0
  · rw [if_pos ((szB_1 e he).mpr h0), decide_eq_true h0]
    dsimp only
    rw [if_pos (by rw [h]; decide)]; rfl
  · rw [if_neg (fun q => h0 ((szB_1 e he).mp q)), decide_eq_false h0]
    rcases bit01 a with h1 | h1
    · rw [if_neg (by rw [h1]; decide), decide_eq_true h1]
      dsimp only
      rw [if_pos (by rw [h]; decide)]; rfl
    · rw [if_pos h1, decide_eq_false (by rw [h1]; decide)]
      unfold fX7_fault
      rw [if_pos h]; rfl
theorem pX7_odd1 (a : Int32) (M : St) (h : 0 < M.1 6) (n : Int32) : fX7_isOdd a n M = some (true, M) := by
  have h0 : ¬ M.1 6 = 0 := fun q => by rw [q] at h; exact absurd h (by decide)
  have h1 : ¬ M.1 6 ≤ 0 := by rw [Int32.le_iff_toInt_le]; rw [Int32.lt_iff_toInt_lt] at h; omega
  unfold fX7_isOdd
  rw [jn_d, if_neg h0]
  dsimp only
  rw [if_neg h1]
theorem pX0_loadAt0 (a : Int32) (S : St) (h : S.1 6 = 0) : ∀ e, e < 3 → fX0_loadAt e a S = some (if od e a = true then 0 else ldB (S.2.2 0) a e, if od e a = true then tbB S 3 a else S) := by
  intro e he
  unfold fX0_loadAt
  rw [gd_t he, pX0_ref0 a S h e he, bd_some]
  cases od e a
  · rw [if_pos (show zI false = 0 from rfl), if_neg (by decide), if_neg (by decide), pX3_load a S e he, bd_some]; rfl
  · rw [if_neg (show ¬ zI true = 0 by decide), if_pos rfl, if_pos rfl]
theorem pX0_loadAt1 (a : Int32) (S : St) (h : ¬ S.1 6 = 0) : ∀ e, e < 3 → fX0_loadAt e a S = some (0, S) := by
  intro e he
  unfold fX0_loadAt
  rw [gd_t he, pX0_ref1 a S h e he, bd_some, if_neg (show ¬ zI true = 0 by decide)]
theorem pX0_storeAt0 (a v : Int32) (S : St) (h : S.1 6 = 0) : ∀ e, e < 3 → fX0_storeAt e a v S = some (if od e a = true then tbB S 3 a else sR S 0 (wrB (S.2.2 0) a v e)) := by
  intro e he
  unfold fX0_storeAt
  rw [gd_t he, pX0_ref0 a S h e he, bd_some]
  cases od e a
  · rw [if_pos (show zI false = 0 from rfl), if_neg (by decide), if_neg (by decide), pX3_store a v S e he, bv_some]
  · rw [if_neg (show ¬ zI true = 0 by decide), if_pos rfl, if_pos rfl]
theorem pX0_storeAt1 (a v : Int32) (S : St) (h : ¬ S.1 6 = 0) : ∀ e, e < 3 → fX0_storeAt e a v S = some S := by
  intro e he
  unfold fX0_storeAt
  rw [gd_t he, pX0_ref1 a S h e he, bd_some, if_neg (show ¬ zI true = 0 by decide)]
theorem pX7_get0 (a : Int32) (M : St) (h : M.1 6 = 0) : ∀ e, e < 3 → fX7_get a (szB e) M = some (if od e a = true then 0 else ldg (fun i => M.2.2 0 (a12 (a + i))) e, if od e a = true then tbB M 3 a else M) := by
  intro e he
  unfold fX7_get
  rw [pX7_odd0 a M h e he, bd_some]
  cases od e a
  · rw [if_pos (show zI false = 0 from rfl), if_neg (by decide), if_neg (by decide), pX7_fetch a M e he, bd_some]
  · rw [if_neg (show ¬ zI true = 0 by decide), if_pos rfl, if_pos rfl]
theorem pX7_get1 (a n : Int32) (M : St) (h : 0 < M.1 6) : fX7_get a n M = some (0, M) := by
  unfold fX7_get
  rw [pX7_odd1 a M h n, bd_some, if_neg (show ¬ zI true = 0 by decide)]
theorem pX7_set1 (a v n : Int32) (M : St) (h : 0 < M.1 6) : fX7_set a v n M = some M := by
  unfold fX7_set
  rw [pX7_odd1 a M h n, bd_some, if_neg (show ¬ zI true = 0 by decide)]
theorem pX7_set0 (a v : Int32) (M : St) (h : M.1 6 = 0) (hc : ¬ M.1 11 < 0) : ∀ e, e < 3 → (od e a = true ∧ fX7_set a v (szB e) M = some (tbB M 3 a)) ∨ (od e a = false ∧ ∃ M', fX7_set a v (szB e) M = some M' ∧ Ch M M' ∧ M'.2.2 0 = wrM (M.2.2 0) a v e) := by
  intro e he
  unfold fX7_set
  rw [pX7_odd0 a M h e he, bd_some]
  cases od e a
  · right
    refine ⟨rfl, ?_⟩
    obtain ⟨M', h1, h2, h3⟩ := pX7_store a v M hc e he
    refine ⟨M', ?_, h2, h3⟩
    rw [if_pos (show zI false = 0 from rfl), if_neg (by decide), h1, bv_some]
  · left
    exact ⟨rfl, by rw [if_neg (show ¬ zI true = 0 by decide), if_pos rfl]⟩
/-! ===== the start of trouble ===== -/
section TRB
variable {c0 : CB} {d0 : CM} {m0 : Nat → Int32} {B M : St}
theorem Ok.tr (h : Ok c0 d0 B M) (hf : Fr m0 B M) (n a : Int32) (hn : Un n) : Tr c0 d0 m0 (tbB B n a) (tbB M n a) := by
  obtain ⟨h1, h2, h3, h4, h5, h6, h6', h7, h8, h9, h10, h11, h12, h13⟩ := h
  obtain ⟨f1, f2, f3⟩ := hf
  exact ⟨n, a, M.2.2 0, hn.1, by rw [← f1]; exact h1, ⟨h12, f1, rfl, rfl, hn⟩, ⟨h13, rfl, rfl, rfl, f2, h10⟩⟩
/-- a place that both sides have found: in D, in A, in memory, or behind the word (a number already, on the reference's side) -/
def PlR (e : Nat) (w : Int64) (M : St) (m0 : Nat → Int32) : Prop :=
  (M.1 12 = 0 ∧ ∃ k, k < 8 ∧ M.1 13 = nI k ∧ w = wRg (nI k)) ∨ (M.1 12 = 1 ∧ ∃ k, k < 8 ∧ M.1 13 = nI k ∧ w = wRg (nI (8 + k))) ∨ (M.1 12 = 2 ∧ w = wAt (M.1 14)) ∨
  (M.1 12 = 3 ∧ ∃ a, w = wAt a ∧ od e a = false ∧ M.1 13 = ldB m0 a e)
theorem pX0_load_at (e : Nat) (he : e < 3) (a : Int32) (S : St) : fX0_load e (wAt a) S = bd (fX0_loadAt e a S) fun r1 S1 => some (r1, S1) := by
  unfold fX0_load
  rw [gd_t he, if_pos (wAt_n a), wAt_i]
theorem pX0_load_rg (e : Nat) (he : e < 3) (k : Nat) (hk : k < 16) (S : St) : fX0_load e (wRg (nI k)) S = some (S.2.2 1 k &&& szM e, S) := by
  unfold fX0_load
  rw [gd_t he, if_neg (wRg_n k hk), wRg_i k hk, pX4_get, bd_some, r4_n k hk]
theorem pX0_store_at (e : Nat) (he : e < 3) (a v : Int32) (S : St) : fX0_store e (wAt a) v S = bv (fX0_storeAt e a v S) fun S1 => some S1 := by
  unfold fX0_store
  rw [gd_t he, if_pos (wAt_n a), wAt_i]
theorem pX0_store_rg (e : Nat) (he : e < 3) (k : Nat) (hk : k < 16) (v : Int32) (S : St) : fX0_store e (wRg (nI k)) v S = some (sA S 1 k ((S.2.2 1 k &&& (szM e ^^^ (-1 : Int32))) ||| (v &&& szM e))) := by
  unfold fX0_store
  rw [gd_t he, if_neg (wRg_n k hk), lt_d, wRg_i k hk, pX4_get, bd_some, pX4_set, bv_some, r4_n k hk]
theorem pl_id (v : Int32) (e : Nat) (he : e < 3) (h : v &&& szM e = v) : (pl e v).toInt32 = v := by rw [pl_i v e he, h]
theorem ldB_mask (c : Nat → Int32) (a : Int32) (e : Nat) (he : e < 3) : ldB c a e &&& szM e = ldB c a e := ldg_mask _ (fun i => byte_m _) e he
theorem mask_mask (v : Int32) : ∀ e, e < 3 → (v &&& szM e) &&& szM e = v &&& szM e := by
  intro e he
  rw [and_and]
  congr 1
  revert e
  decide
theorem z_mask : ∀ e, e < 3 → (0 : Int32) &&& szM e = 0 := by decide
theorem sim_load (e : Nat) (he : e < 3) (w : Int64) (h : Ok c0 d0 B M) (hf : Fr m0 B M) (hp : PlR e w M m0) :
    (∃ r, fX0_load e w B = some (r, B) ∧ fX7_take (szB e) M = some (r, M) ∧ r &&& szM e = r) ∨ (∃ a, fX0_load e w B = some (0, tbB B 3 a) ∧ fX7_take (szB e) M = some (0, tbB M 3 a)) := by
  unfold fX7_take
  rw [jn_d]
  rcases hp with ⟨hs, k, hk, hn, hw⟩ | ⟨hs, k, hk, hn, hw⟩ | ⟨hs, hw⟩ | ⟨hs, a, hw, ho, hn⟩
  · left
    refine ⟨B.2.2 1 k &&& szM e, ?_, ?_, mask_mask _ e he⟩
    · rw [hw]; exact pX0_load_rg e he k (by omega) B
    · rw [if_pos hs, hn, gd_t (ixo_of (nI_pos (by omega)) (by rw [nI_clamp (by omega)]; exact hk)), nI_clamp (by omega)]
      dsimp only
      rw [pX7_plain _ M e he, bd_some, pl_i _ e he, h.gD k hk]
  · left
    refine ⟨B.2.2 1 (8 + k) &&& szM e, ?_, ?_, mask_mask _ e he⟩
    · rw [hw]; exact pX0_load_rg e he (8 + k) (by omega) B
    · rw [if_neg (by rw [hs]; decide), if_pos hs, hn, h.gA k hk, bd_some]
      dsimp only
      rw [pX7_plain _ M e he, bd_some, pl_i _ e he]
  · rw [if_neg (by rw [hs]; decide), if_neg (by rw [hs]; decide), if_neg (by rw [hs]; decide), pX7_get0 (M.1 14) M h.2.2.2.2.2.2.2.1 e he, bd_some, hw, pX0_load_at e he, pX0_loadAt0 _ B h.2.2.2.2.2.1 e he, bd_some]
    cases ho : od e (M.1 14)
    · left
      refine ⟨ldB (B.2.2 0) (M.1 14) e, by rw [if_neg (by decide), if_neg (by decide)], ?_, ldB_mask _ _ e he⟩
      rw [if_neg (by decide), if_neg (by decide)]
      dsimp only
      rw [pX7_plain _ M e he, bd_some, memL h.1]
      show some ((pl e (ldB (B.2.2 0) (M.1 14) e)).toInt32, M) = _
      rw [pl_id _ e he (ldB_mask _ _ e he)]
    · right
      refine ⟨M.1 14, by rw [if_pos rfl, if_pos rfl], ?_⟩
      rw [if_pos rfl, if_pos rfl]
      dsimp only
      rw [pX7_plain _ _ e he, bd_some, pl_id 0 e he (z_mask e he)]
  · left
    refine ⟨ldB m0 a e, ?_, ?_, ldB_mask _ _ e he⟩
    · rw [hw, pX0_load_at e he, pX0_loadAt0 _ B h.2.2.2.2.2.1 e he, bd_some, ho, if_neg (by decide), if_neg (by decide), hf.1]
    · rw [if_neg (by rw [hs]; decide), if_neg (by rw [hs]; decide), if_pos hs]
      dsimp only
      rw [pX7_plain _ M e he, bd_some, hn, pl_id _ e he (ldB_mask _ _ e he)]
end TRB
