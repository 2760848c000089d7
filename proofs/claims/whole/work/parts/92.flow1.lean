/-! ===== the relation between instructions, without the phase ===== -/
def Co (B M : St) : Prop := memR (B.2.2 0) (M.2.2 0) ∧ Rg (B.2.2 1) (M.2.2 1) (M.2.2 2) (M.2.2 3) (B.1 3) ∧ M.1 1 = B.1 2 ∧ M.1 2 = B.1 3 ∧ srOK (B.1 3) ∧ numOK M ∧ ¬ M.1 11 < 0 ∧ (∀ j, 0 < j → j < 64 → B.2.2 3 j = M.2.2 4 j) ∧ B.2.2 3 0 = M.1 4
def FB (B B' : St) : Prop := B'.1 0 = B.1 0 ∧ B'.1 6 = B.1 6 ∧ B'.1 7 = B.1 7 ∧ B'.2.1 0 = B.2.1 0
def FM (M M' : St) : Prop := M'.1 0 = M.1 0 ∧ M'.1 3 = M.1 3 ∧ M'.2.1 0 = M.2.1 0 ∧ M'.2.1 2 = M.2.1 2
theorem cnt_j (f g : Nat → Int32) (n : Nat) (h0 : 0 < n) (hn : n < 64) (h : ∀ j, 0 < j → j < 64 → f j = g j) : ∀ j, 0 < j → j < 64 → cnt f n j = upd g n (g n + 1) j := by
  intro j hj h6
  unfold cnt
  rw [pk_un (by omega)]
  by_cases q : j = n
  · subst q; rw [pk_us, pk_us, h j hj h6]
  · rw [pk_un q, pk_un q, h j hj h6]
theorem cnt_0 (f : Nat → Int32) (n : Nat) (h0 : 0 < n) : cnt f n 0 = f 0 + 1 := by
  unfold cnt
  rw [pk_us, pk_un (by omega)]
theorem leave_ok (x : Int32) (B : St) : fX6_leaveFor x B = some (sI B 2 (ldg (fun i => (B.2.2 0 (a12 (4 * x + i))) &&& 255) 2)) := by
  unfold fX6_leaveFor
  have := pX3_load (4 * x) B 2 (by decide)
  rw [szB2] at this
  rw [this, bd_some, lt_d]
theorem fault_no (n : Nat) (hn : n < 64) (h : n ≠ 3) (w x : Int32) (B : St) : fX6_pushFault (nI n) w x B = some B := by
  unfold fX6_pushFault
  rw [if_neg (nI_n n 3 (by omega) (by decide) h 3 rfl)]
theorem fault_3 (w x : Int32) (B : St) (h6 : B.1 6 = 0) (hp : B.2.2 1 15 &&& 1 = 0) : fX6_pushFault (nI 3) w x B = some (puS (puS (puS B 1 w) 2 x) 1 0) := by
  obtain ⟨p1, q1⟩ := puS_ev (B := B) h6 1 (Or.inl rfl) w hp
  obtain ⟨p2, q2⟩ := puS_ev (B := puS B 1 w) (by rw [puS_1]; exact h6) 2 (Or.inr rfl) x q1
  obtain ⟨p3, q3⟩ := puS_ev (B := puS (puS B 1 w) 2 x) (by rw [puS_1, puS_1]; exact h6) 1 (Or.inl rfl) 0 q2
  unfold fX6_pushFault
  rw [if_pos (show nI 3 = 3 from rfl), p1, bv_some, p2, bv_some, p3, bv_some]
section EN
variable {B M : St}
theorem enB_p (B : St) (n : Nat) : (enB B n).1 = (enS B).1 ∧ (enB B n).2.1 = B.2.1 ∧ (enB B n).2.2 0 = wrB (wrB (B.2.2 0) ((enS B).2.2 1 15 - 4) (B.1 2) 2) ((enS B).2.2 1 15 - 6) (B.1 3) 1 ∧ (enB B n).2.2 1 15 = (enS B).2.2 1 15 - 6 ∧ (∀ j, j ≠ 15 → (enB B n).2.2 1 j = (enS B).2.2 1 j) ∧ (enB B n).2.2 3 = cnt (B.2.2 3) n := by
  obtain ⟨t1, -⟩ := sb ((enS B).2.2 1 15)
  unfold enB
  refine ⟨rfl, (enS_z B), ?_, ?_, fun j hj => ?_, sR_at _ _ _⟩
  · rw [sR_ne _ _ (by decide), puS_0, puS_0, puS_15, szB2, szB1, t1, enS_r _ 0 (by decide)]
  · rw [sR_ne _ _ (by decide), puS_15, puS_15, szB2, szB1, t1]
  · rw [sR_ne _ _ (by decide), puS_j _ _ _ _ hj, puS_j _ _ _ _ hj]
theorem exc_step (n : Nat) (h0 : 0 < n) (hn : n < 64) (h : Co B M) (h6 : B.1 6 = 0) (w x : Int32) (hw : n = 3 → M.1 5 = w) :
    (∃ B' M', fX6_enter (nI n) B = some (false, B') ∧ fX7_exception (nI n) (decide (n = 3)) x M = some (false, M') ∧ Co B' M' ∧ FB B B' ∧ FM M M' ∧ B'.1 1 = 2 ∧ M'.2.1 1 = true ∧ (∀ m, fX6_enter (nI m) B' = some (false, B'))) ∨
    (∃ B1 B2 B' M', fX6_enter (nI n) B = some (true, B1) ∧ fX6_pushFault (nI n) w x B1 = some B2 ∧ fX6_leaveFor (nI n) B2 = some B' ∧ fX7_exception (nI n) (decide (n = 3)) x M = some (true, M') ∧ Co B' M' ∧ FB B B' ∧ FM M M' ∧ B'.1 1 = B.1 1 ∧ M'.2.1 1 = M.2.1 1) := by
  obtain ⟨c1, c2, c3, c4, c5, c6, c7, c8, c9⟩ := h
  have hR : Rg ((enS B).2.2 1) (M.2.2 1) (M.2.2 2) (M.2.2 3) (inS (B.1 3) &&& 42783) := by rw [enS_n]; exact c2.status _
  have hS := inS_S (B.1 3)
  have hp : M.2.2 3 1 = (enS B).2.2 1 15 := by
    have := hR.2.2.2
    rw [if_neg hS] at this
    exact this
  have hsr : srOK (M.1 2) := by rw [c4]; exact c5
  rcases bit01 ((enS B).2.2 1 15) with q | q
  · right
    obtain ⟨M', e0, e1, e2, e3, e4, e5, e6, e7, e8, e9, e10, e11⟩ := exc_ok M n x (decide (n = 3)) hsr hn (by rw [hp]; exact q) c7
    obtain ⟨g1, g2, g3, g4, g5, g6⟩ := enB_p B n
    have m1 : memR ((enB B n).2.2 0) (wrM (wrM (M.2.2 0) (M.2.2 3 1 - 4) (M.1 1) 2) (M.2.2 3 1 - 6) (M.1 2) 1) := by
      rw [g3, hp, c3, c4]
      exact memW (memW c1 _ _ 2 (by decide)) _ _ 1 (by decide)
    have fin : ∀ B2 : St, B2.1 = (enB B n).1 → B2.2.1 = (enB B n).2.1 → (∀ j, j ≠ 15 → B2.2.2 1 j = (enB B n).2.2 1 j) → B2.2.2 3 = (enB B n).2.2 3 → memR (B2.2.2 0) (M'.2.2 0) → M'.2.2 3 = upd (M.2.2 3) 1 (B2.2.2 1 15) →
        Co (sI B2 2 (ldg (fun i => (B2.2.2 0 (a12 (4 * nI n + i))) &&& 255) 2)) M' ∧ FB B (sI B2 2 (ldg (fun i => (B2.2.2 0 (a12 (4 * nI n + i))) &&& 255) 2)) ∧ (sI B2 2 (ldg (fun i => (B2.2.2 0 (a12 (4 * nI n + i))) &&& 255) 2)).1 1 = B.1 1 := by
      intro B2 f1 f2 f3 f4 f5 f6
      have s3 : B2.1 3 = inS (B.1 3) &&& 42783 := by rw [f1, g1, enS_3]
      have ke : ∀ k, k ≠ 3 → B2.1 k = B.1 k := fun k hk => by rw [f1, g1, enS_k _ _ hk]
      refine ⟨⟨f5, ?_, ?_, ?_, ?_, ?_, e11, ?_, ?_⟩, ⟨?_, ?_, ?_, ?_⟩, ?_⟩
      · rw [sI_2, sI_ne _ _ (by decide), s3, e2, e3, f6]
        exact hR.top hS rfl (fun j hj => by rw [f3 j hj, g5 j hj])
      · rw [sI_at, e6, ← e1]; exact memL f5 _ _
      · rw [sI_ne _ _ (by decide), s3, e7, c4]
      · rw [sI_ne _ _ (by decide), s3]; exact srOK_m _
      · unfold numOK
        rw [e9 12 (by decide) (by decide) (by decide) (by decide), e9 13 (by decide) (by decide) (by decide) (by decide)]
        exact c6
      · rw [sI_2, f4, g6, e5]
        exact cnt_j _ _ n h0 hn c8
      · rw [sI_2, f4, g6, e8, cnt_0 _ _ h0, c9]
      · rw [sI_ne _ _ (by decide), ke 0 (by decide)]
      · rw [sI_ne _ _ (by decide), ke 6 (by decide)]
      · rw [sI_ne _ _ (by decide), ke 7 (by decide)]
      · rw [sI_2, f2, g2]
      · rw [sI_ne _ _ (by decide), ke 1 (by decide)]
    have fm : FM M M' := ⟨e9 0 (by decide) (by decide) (by decide) (by decide), e9 3 (by decide) (by decide) (by decide) (by decide), by rw [e10], by rw [e10]⟩
    by_cases h3 : n = 3
    · subst h3
      have q15 : (enB B 3).2.2 1 15 &&& 1 = 0 := by
        rw [g4]
        have := (par_sub ((enS B).2.2 1 15 - 4) 1 (Or.inl rfl)).1
        rw [szB1, (sb _).1] at this
        rw [this]
        have := (par_sub ((enS B).2.2 1 15) 2 (Or.inr rfl)).1
        rw [szB2] at this
        rw [this]; exact q
      have f3' := fault_3 w x (enB B 3) (by rw [g1, enS_k _ _ (by decide)]; exact h6) q15
      obtain ⟨t1, t2, t3, t4, t5, t6⟩ := sb ((enS B).2.2 1 15)
      rw [decide_eq_true rfl, if_pos rfl] at e1 e4
      obtain ⟨r1, r2, r3⟩ := fin (puS (puS (puS (enB B 3) 1 w) 2 x) 1 0) rfl rfl (fun j hj => by rw [puS_j _ _ _ _ hj, puS_j _ _ _ _ hj, puS_j _ _ _ _ hj]) (by rw [puS_r _ _ _ 3 (by decide) (by decide), puS_r _ _ _ 3 (by decide) (by decide), puS_r _ _ _ 3 (by decide) (by decide)]) (by
        rw [e1, puS_0, puS_0, puS_0, puS_15, puS_15, puS_15, g4, szB1, szB2, t2, t3, t4, hw rfl]
        rw [hp] at m1 ⊢
        exact memW (memW (memW m1 _ _ 1 (by decide)) _ _ 2 (by decide)) _ _ 1 (by decide)) (by
        rw [e4, puS_15, puS_15, puS_15, g4, szB1, szB2, t2, t3, t4, hp])
      exact ⟨_, _, _, M', enter_ok B 3 (by decide) h6 q, f3', leave_ok _ _, e0, r1, r2, fm, r3, by rw [e10]⟩
    · rw [decide_eq_false h3, if_neg (by decide)] at e1 e4
      obtain ⟨r1, r2, r3⟩ := fin (enB B n) rfl rfl (fun j hj => rfl) rfl (by rw [e1]; exact m1) (by rw [e4, g4, hp])
      exact ⟨_, _, _, M', enter_ok B n hn h6 q, fault_no n hn h3 w x _, leave_ok _ _, e0, r1, r2, fm, r3, by rw [e10]⟩
  · left
    have hq : ¬ (enS B).2.2 1 15 &&& 1 = 0 := by rw [q]; decide
    have eo := exc_odd M (nI n) x (decide (n = 3)) hsr (by rw [hp]; exact q)
    have B'1 : (sI (enS B) 1 2).1 3 = inS (B.1 3) &&& 42783 := by rw [sI_ne _ _ (by decide), enS_3]
    refine ⟨_, _, enter_odd B n hq, eo, ⟨?_, ?_, ?_, ?_, ?_, ?_, ?_, ?_, ?_⟩, ⟨?_, ?_, ?_, ?_⟩, ⟨rfl, rfl, rfl, rfl⟩, sI_at _ _ _, rfl, ?_⟩
    · show memR ((enS B).2.2 0) (M.2.2 0)
      rw [enS_r _ 0 (by decide)]; exact c1
    · rw [B'1]; exact hR
    · rw [sI_ne _ _ (by decide), enS_k _ _ (by decide)]
      exact c3
    · rw [B'1, ← c4]
      exact sI_at (sI M 2 (fl (M.1 2) 8192 true)) 2 (inS (M.1 2) &&& 42783)
    · rw [B'1]; exact srOK_m _
    · exact c6
    · exact c7
    · rw [sI_2, enS_r _ 3 (by decide)]; exact c8
    · rw [sI_2, enS_r _ 3 (by decide)]; exact c9
    · rw [sI_ne _ _ (by decide), enS_k _ _ (by decide)]
    · rw [sI_ne _ _ (by decide), enS_k _ _ (by decide)]
    · rw [sI_ne _ _ (by decide), enS_k _ _ (by decide)]
    · rw [sI_2, enS_z]
    · intro m
      have e1 : enS (sI (enS B) 1 2) = sI (enS B) 1 2 := by
        obtain ⟨i1, i2⟩ := inS_in (B.1 3)
        unfold enS
        change sI (swp (inS ((sI (enS B) 1 2).1 3)) (sI (enS B) 1 2)) 3 (inS ((sI (enS B) 1 2).1 3) &&& 42783) = sI (enS B) 1 2
        rw [B'1, i1]
        have : swp (inS (inS (B.1 3) &&& 42783)) (sI (enS B) 1 2) = sI (enS B) 1 2 := by
          unfold swp
          rw [B'1, if_pos i2]
        rw [this, ← B'1, sI_self]
      have := enter_odd (sI (enS B) 1 2) m (by rw [e1]; exact hq)
      rw [this, e1, sI_I]
end EN
