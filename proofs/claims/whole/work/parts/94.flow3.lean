/-! ===== an instruction in step, from its first word to its end ===== -/
def ph (h w : Bool) : Int32 := if h = true then 2 else if w = true then 1 else 0
/-- the relation between instructions and between calls -/
def R0 (B M : St) : Prop := Co B M ∧ B.1 6 = 0 ∧ B.1 7 = 0 ∧ B.1 0 = M.1 3 ∧ (∃ w, w < 8 ∧ M.1 3 = nI w) ∧ B.1 1 = ph (M.2.1 1) (M.2.1 0)
section FL
variable {B M : St}
theorem R0.exc (h : R0 B M) (n : Nat) (h0 : 0 < n) (hn : n < 64) (w x : Int32) (hw : n = 3 → M.1 5 = w) :
    (∃ B' M', fX6_enter (nI n) B = some (false, B') ∧ fX7_exception (nI n) (decide (n = 3)) x M = some (false, M') ∧ R0 B' M' ∧ FB B B' ∧ FM M M' ∧ M'.2.1 1 = true ∧ (∀ m, fX6_enter (nI m) B' = some (false, B'))) ∨
    (∃ B1 B2 B' M', fX6_enter (nI n) B = some (true, B1) ∧ fX6_pushFault (nI n) w x B1 = some B2 ∧ fX6_leaveFor (nI n) B2 = some B' ∧ fX7_exception (nI n) (decide (n = 3)) x M = some (true, M') ∧ R0 B' M' ∧ FB B B' ∧ FM M M' ∧ M'.2.1 1 = M.2.1 1) := by
  obtain ⟨r1, r2, r3, r4, r5, r6⟩ := h
  rcases exc_step n h0 hn r1 r2 w x hw with ⟨B', M', e1, e2, e3, e4, e5, e6, e7, e8⟩ | ⟨B1, B2, B', M', e1, e2, e3, e4, e5, e6, e7, e8, e9⟩
  · refine Or.inl ⟨B', M', e1, e2, ⟨e3, ?_, ?_, ?_, ?_, ?_⟩, e4, e5, e7, e8⟩
    · rw [e4.2.1]; exact r2
    · rw [e4.2.2.1]; exact r3
    · rw [e4.1, e5.2.1]; exact r4
    · rw [e5.2.1]; exact r5
    · rw [e6, e7]; rfl
  · refine Or.inr ⟨B1, B2, B', M', e1, e2, e3, e4, ⟨e5, ?_, ?_, ?_, ?_, ?_⟩, e6, e7, e9⟩
    · rw [e6.2.1]; exact r2
    · rw [e6.2.2.1]; exact r3
    · rw [e6.1, e7.2.1]; exact r4
    · rw [e7.2.1]; exact r5
    · rw [e8, e9, e7.2.2.1]; exact r6
/-- where the instruction ends: the trace, or the stop -/
def endB (t : Bool) (S3 : St) : Option St := (if (zI t) = 0 then (bd (fX2_stops S3) fun b2 S4 => (if (zI b2) = 0 then (some S4)
    else (lt (sI S4 1 1) fun S5 => (some S5))))
    else (bd (fX6_enter 9 S3) fun b3 S6 => (if (zI b3) = 0 then (some S6)
    else (bv (fX6_leaveFor 9 S6) fun S7 => (some S7)))))
def endM (t b2 : Bool) (S10 : St) : Option St := (if (zI t) = 0 then (if (zI (S10.2.1 2)) = 0 then (some S10)
    else (lt (sZ S10 0 true) fun S11 => (some S11)))
    else (if (zI b2) = 0 then (if (zI (S10.2.1 2)) = 0 then (some S10)
    else (lt (sZ S10 0 true) fun S12 => (some S12)))
    else (bd (fX7_exception 9 false 0 S10) fun b3 S13 => (some S13))))
theorem end_step (t : Bool) (h : R0 B M) (hs : B.2.1 0 = M.2.1 2) (hh : M.2.1 1 = false) : ∃ B' M', endB t B = some B' ∧ endM t true M = some M' ∧ R0 B' M' ∧ M'.1 0 = M.1 0 := by
  unfold endB endM
  cases t with
  | false =>
    rw [if_pos zI_f, if_pos zI_f]
    unfold fX2_stops
    rw [bd_some, hs]
    cases hz : M.2.1 2
    · rw [if_pos zI_f, if_pos zI_f]
      exact ⟨B, M, rfl, rfl, h, rfl⟩
    · rw [if_neg (show ¬ zI true = 0 by decide), if_neg (show ¬ zI true = 0 by decide), lt_d, lt_d]
      obtain ⟨r1, r2, r3, r4, r5, r6⟩ := h
      refine ⟨_, _, rfl, rfl, ⟨r1, ?_, ?_, ?_, r5, ?_⟩, rfl⟩
      · rw [sI_ne _ _ (by decide)]; exact r2
      · rw [sI_ne _ _ (by decide)]; exact r3
      · rw [sI_ne _ _ (by decide)]; exact r4
      · rw [sI_at]
        show (1 : Int32) = ph (va_up M.2.1 0 true 1) (va_up M.2.1 0 true 0)
        rw [va_up_ne _ _ (by decide), va_up_self, hh]; rfl
  | true =>
    rw [if_neg (show ¬ zI true = 0 by decide), if_neg (show ¬ zI true = 0 by decide), if_neg (show ¬ zI true = 0 by decide)]
    rcases h.exc 9 (by decide) (by decide) 0 0 (fun q => absurd q (by decide)) with ⟨B', M', e1, e2, e3, e4, e5, e6, e7⟩ | ⟨B1, B2, B', M', e1, e2, e3, e4, e5, e6, e7, e8⟩
    · rw [decide_eq_false (by decide)] at e2
      rw [show (9 : Int32) = nI 9 from rfl, e1, bd_some, e2, bd_some, if_pos zI_f]
      exact ⟨B', M', rfl, rfl, e3, e5.1⟩
    · rw [decide_eq_false (by decide)] at e4
      rw [fault_no 9 (by decide) (by decide)] at e2
      cases e2
      rw [show (9 : Int32) = nI 9 from rfl, e1, bd_some, e4, bd_some, if_neg (show ¬ zI true = 0 by decide), e3, bv_some]
      exact ⟨B', M', rfl, rfl, e5, e7.1⟩
/-- .. behind an exception that halted -/
theorem end_halt (t : Bool) (hs : B.2.1 0 = false) (hz : M.2.1 2 = false) (he : ∀ m, fX6_enter (nI m) B = some (false, B)) : endB t B = some B ∧ endM t false M = some M := by
  unfold endB endM
  unfold fX2_stops
  rw [hz]
  cases t with
  | false =>
    rw [if_pos zI_f, if_pos zI_f, bd_some, hs, if_pos zI_f, if_pos zI_f]
    exact ⟨rfl, rfl⟩
  | true =>
    rw [if_neg (show ¬ zI true = 0 by decide), if_neg (show ¬ zI true = 0 by decide), if_pos zI_f, if_pos zI_f, show (9 : Int32) = nI 9 from rfl, he 9, bd_some, if_pos zI_f]
    exact ⟨rfl, rfl⟩
theorem finish_d (x1 : Int32) (t : Bool) (S : St) : fX6_finish x1 t S = (bd (fX6_undoes (S.1 6) (sI (sI S 6 0) 7 0)) fun b1 S2 => (if (zI b1) = 0 then (if S.1 6 = 0 then endB t S2
    else (bd (fX6_enter (S.1 6) S2) fun b4 S8 => (if (zI b4) = 0 then endB t S8
    else (bv (fX6_leaveFor (S.1 6) S8) fun S9 => endB t S9))))
    else (bv (fX4_bringBack S2) fun S10 => (bd (fX6_enter (S.1 6) S10) fun b5 S11 => (if (zI b5) = 0 then (some S11)
    else (bv (fX6_pushFault (S.1 6) x1 (S.1 7) S11) fun S12 => (bv (fX6_leaveFor (S.1 6) S12) fun S13 => (some S13)))))))) := by
  unfold fX6_finish fX0_forget
  rw [lt_d, lt_d, lt_d, lt_d, bv_some]
  refine bd_c (fun b1 S2 => ?_)
  unfold endB
  rw [jn_d]
def tailM (t : Bool) (S9 : St) : Option St := (if (S9.1 6) ≤ 0 then (if (S9.1 8) = 0 then endM t true S9
    else (bd (fX7_exception (S9.1 8) false 0 S9) fun b4 S14 => (if (zI b4) = 0 then endM t false S14
    else endM t true S14)))
    else (bv (fX7_takeBack S9) fun S15 => (if S9.1 6 = 3 then (bd (fX7_exception (S9.1 6) true (S9.1 7) S15) fun b6 S16 => (some S16)) else (bd (fX7_exception (S9.1 6) false (S9.1 7) S15) fun b6 S16 => (some S16)))))
theorem instr_d (S : St) : fX7_instruction S = (bv (fX7_remember S) fun S1 => (bd (fX7_has 32768 (sI (sZ (sI (sI S1 6 0) 8 0) 2 false) 5 0)) fun b1 S6 => (bd (fX7_extension S6) fun r1 S7 => (if ((sI S7 5 r1).1 6) = 0 then (bd (fX7_act (sI S7 5 r1)) fun b7 S17 => (if (zI b7) = 0 then (bv (fX7_fault 4 0 S17) fun S18 => tailM b1 S18)
    else tailM b1 S17))
    else tailM b1 (sI S7 5 r1))))) := by
  unfold fX7_instruction
  refine bv_c (fun S1 => ?_)
  rw [lt_d, lt_d, lt_d, lt_d]
  refine bd_c (fun b1 S6 => ?_)
  refine bd_c (fun r1 S7 => ?_)
  unfold tailM endM
  simp only [lt_x, jn_x]
end FL
