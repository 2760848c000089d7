/-! ===== an instruction, an interrupt, a step ===== -/
def insB (S : St) : Option (Bool × St) := (bd (fX4_has 32768 S) fun b1 S2 => (bv (fX4_keep S2) fun S3 => (bd (fX0_firstWord S3) fun r1 S4 => (jn (fun (S5 : St) => (bv (fX6_finish r1 b1 S5) fun S6 => (some (true, S6)))) fun K1 =>
    (if (S4.1 6) = 0 then (bv (fX2_obey r1 S4) fun S7 => (K1 S7))
    else (K1 S4))))))
def sttM (M : St) : St := sI (sZ (sI (sI (remM M) 6 0) 8 0) 2 false) 5 0
theorem sttM_p (M : St) : (∀ k, k ≠ 5 → k ≠ 6 → k ≠ 8 → (sttM M).1 k = (remM M).1 k) ∧ (sttM M).1 5 = 0 ∧ (sttM M).1 6 = 0 ∧ (sttM M).1 8 = 0 ∧ (sttM M).2.1 2 = false ∧ (sttM M).2.1 0 = M.2.1 0 ∧ (sttM M).2.1 1 = M.2.1 1 ∧ (sttM M).2.2 = (remM M).2.2 := by
  unfold sttM
  refine ⟨fun k h5 h6 h8 => ?_, sI_at _ _ _, ?_, ?_, ?_, ?_, ?_, rfl⟩
  · rw [sI_ne _ _ h5]
    show (sI (sI (remM M) 6 0) 8 0).1 k = _
    rw [sI_ne _ _ h8, sI_ne _ _ h6]
  · rw [sI_ne _ _ (by decide)]
    show (sI (sI (remM M) 6 0) 8 0).1 6 = _
    rw [sI_ne _ _ (by decide), sI_at]
  · rw [sI_ne _ _ (by decide)]
    show (sI (sI (remM M) 6 0) 8 0).1 8 = _
    rw [sI_at]
  · show va_up (remM M).2.1 2 false 2 = false
    rw [va_up_self]
  · show va_up (remM M).2.1 2 false 0 = _
    rw [va_up_ne _ _ (by decide), (remM_p M).2.2.2.2.1]
  · show va_up (remM M).2.1 2 false 1 = _
    rw [va_up_ne _ _ (by decide), (remM_p M).2.2.2.2.1]
section IS
variable {B M : St}
/-- what the start keeps, whatever is done to pc, op and the troubles -/
theorem kp_st (M M8 : St) (h1 : ∀ k, k ≠ 1 → k ≠ 5 → k ≠ 6 → k ≠ 7 → M8.1 k = (sttM M).1 k) (h2 : M8.2 = (sttM M).2) : KpM M M8 := by
  obtain ⟨s1, s5, s6, s8, z2, z0, z1, sr⟩ := sttM_p M
  obtain ⟨r9, r10, r11, rk, rz, rd, ra, r0, r1, rr⟩ := remM_p M
  refine ⟨?_, ?_, ?_, ?_, ?_, ?_, ?_, ?_, fun k hk => ?_, fun k hk => ?_, ?_, ?_⟩
  · rw [h1 0 (by decide) (by decide) (by decide) (by decide), s1 0 (by decide) (by decide) (by decide), rk 0 (by decide) (by decide) (by decide)]
  · rw [h1 3 (by decide) (by decide) (by decide) (by decide), s1 3 (by decide) (by decide) (by decide), rk 3 (by decide) (by decide) (by decide)]
  · rw [h1 4 (by decide) (by decide) (by decide) (by decide), s1 4 (by decide) (by decide) (by decide), rk 4 (by decide) (by decide) (by decide)]
  · rw [h1 9 (by decide) (by decide) (by decide) (by decide), s1 9 (by decide) (by decide) (by decide), r9]
  · rw [h1 10 (by decide) (by decide) (by decide) (by decide), s1 10 (by decide) (by decide) (by decide), r10]
  · rw [h2, z0]
  · rw [h2, z1]
  · rw [h2, sr, rr 4 (by decide) (by decide) (by decide)]
  · rw [h2, sr, rd k hk]
  · rw [h2, sr, ra k hk]
  · rw [h2, sr, r0]
  · rw [h2, sr, r1]
theorem st_ok (h : R0 B M) : memR ((kpB B).2.2 0) ((sttM M).2.2 0) ∧ Rg ((kpB B).2.2 1) ((sttM M).2.2 1) ((sttM M).2.2 2) ((sttM M).2.2 3) ((kpB B).1 3) ∧ (sttM M).1 1 = (kpB B).1 2 ∧ (sttM M).1 2 = (kpB B).1 3 ∧ srOK ((kpB B).1 3) ∧ (kpB B).1 6 = 0 ∧ (kpB B).1 7 = 0 ∧ numOK (sttM M) ∧ (sttM M).1 11 = 0 := by
  obtain ⟨s1, s5, s6, s8, z2, z0, z1, sr⟩ := sttM_p M
  obtain ⟨r9, r10, r11, rk, rz, rd, ra, r0, r1, rr⟩ := remM_p M
  obtain ⟨t4, t5, tk, tz, t2, tr⟩ := kpB_p B
  obtain ⟨⟨c1, c2, c3, c4, c5, c6, c7, c8, c9⟩, q2, q3, q4, q5, q6⟩ := h
  refine ⟨?_, ?_, ?_, ?_, ?_, ?_, ?_, ?_, ?_⟩
  · rw [tr 0 (by decide), sr, rr 0 (by decide) (by decide) (by decide)]; exact c1
  · rw [tr 1 (by decide), sr, rr 1 (by decide) (by decide) (by decide), rr 2 (by decide) (by decide) (by decide), rr 3 (by decide) (by decide) (by decide), tk 3 (by decide) (by decide)]; exact c2
  · rw [s1 1 (by decide) (by decide) (by decide), rk 1 (by decide) (by decide) (by decide), tk 2 (by decide) (by decide)]; exact c3
  · rw [s1 2 (by decide) (by decide) (by decide), rk 2 (by decide) (by decide) (by decide), tk 3 (by decide) (by decide)]; exact c4
  · rw [tk 3 (by decide) (by decide)]; exact c5
  · rw [tk 6 (by decide) (by decide)]; exact q2
  · rw [tk 7 (by decide) (by decide)]; exact q3
  · unfold numOK
    rw [s1 12 (by decide) (by decide) (by decide), rk 12 (by decide) (by decide) (by decide), s1 13 (by decide) (by decide) (by decide), rk 13 (by decide) (by decide) (by decide)]
    exact c6
  · rw [s1 11 (by decide) (by decide) (by decide), r11]
theorem cM_s5 (S : St) : (sI S 1 0).1 5 = S.1 5 := sI_ne _ _ (by decide)
theorem instr_step (h : R0 B M) (hh : M.2.1 1 = false) : ∃ B' M', insB B = some (true, B') ∧ fX7_instruction M = some M' ∧ R0 B' M' ∧ M'.1 0 = M.1 0 := by
  obtain ⟨o1, o2, o3, o4, o5, o6, o7, o8, o9⟩ := st_ok h
  obtain ⟨s1, s5, s6, s8, z2, z0, z1, sr⟩ := sttM_p M
  obtain ⟨t4, t5, tk, tz, t2, tr⟩ := kpB_p B
  have hm0 : (kpB B).2.2 0 = B.2.2 0 := tr 0 (by decide)
  unfold insB
  rw [pX4_has, bd_some, keep_ok, bv_some, instr_d, remember_ok, bv_some]
  show ∃ B' M', _ = some (true, B') ∧ (bd (fX7_has 32768 (sttM M)) fun b1 S6 => _) = some M' ∧ _
  rw [pX7_has, bd_some, o4, tk 3 (by decide) (by decide)]
  generalize (!decide (B.1 3 &&& 32768 = 0)) = t
  unfold fX0_firstWord
  rw [pX0_ref0 _ _ o6 1 (by decide), bd_some]
  unfold fX7_extension
  rw [show (2 : Int32) = szB 1 from rfl, pX7_get0 _ (sttM M) s6 1 (by decide), o3]
  cases ho : od 1 ((kpB B).1 2)
  · -- an even place
    rw [if_neg (show ¬ (false = true) by decide), if_neg (show ¬ (false = true) by decide), if_neg (show ¬ (false = true) by decide), bd_some, lt_d, if_pos zI_f, szB1, pX0_nextWord, bd_some, bd_some, o3, memL o1, jn_d]
    have hpc : (kpB B).1 2 &&& 1 = 0 := by
      unfold od at ho
      simpa using ho
    obtain ⟨k, hk, ek⟩ := ldB_k ((kpB B).2.2 0) ((kpB B).1 2)
    have ek' : ldg (fun i => ((kpB B).2.2 0 (a12 ((kpB B).1 2 + i))) &&& 255) 1 = nI k := ek
    rw [ek, ek', bd_some, if_pos (show (sI (kpB B) 2 ((kpB B).1 2 + 2)).1 6 = 0 from (sI_ne _ _ (by decide)).trans o6), if_pos (show (sI (sI (sttM M) 1 ((kpB B).1 2 + 2)) 5 (nI k)).1 6 = 0 by rw [sI_ne _ _ (by decide), sI_ne _ _ (by decide)]; exact s6)]
    dsimp only
    have hK : KpM M (sI (sI (sttM M) 1 ((kpB B).1 2 + 2)) 5 (nI k)) := kp_st M _ (fun j j1 j5 _ _ => by rw [sI_ne _ _ j5, sI_ne _ _ j1]) rfl
    have h5 : (sI (sI (sttM M) 1 ((kpB B).1 2 + 2)) 5 (nI k)).1 5 = nI k := sI_at _ _ _
    have hO : Ok (cB (kpB B)) (cM (sI (sI (sttM M) 1 ((kpB B).1 2 + 2)) 5 (nI k))) (sZ (sI (kpB B) 2 ((kpB B).1 2 + 2)) 0 false) (sI (sI (sttM M) 1 ((kpB B).1 2 + 2)) 5 (nI k)) := by
      refine ⟨o1, ?_, ?_, ?_, ?_, ?_, ?_, ?_, ?_, ?_, ?_, ?_, rfl, rfl⟩
      · show Rg _ _ _ _ ((sI (kpB B) 2 ((kpB B).1 2 + 2)).1 3)
        rw [sI_ne _ _ (by decide)]; exact o2
      · show (sI (sI (sttM M) 1 ((kpB B).1 2 + 2)) 5 (nI k)).1 1 = (sI (kpB B) 2 ((kpB B).1 2 + 2)).1 2
        rw [sI_ne _ _ (by decide), sI_at, sI_at]
      · show (sI (sI (sttM M) 1 ((kpB B).1 2 + 2)) 5 (nI k)).1 2 = (sI (kpB B) 2 ((kpB B).1 2 + 2)).1 3
        rw [sI_ne _ _ (by decide), sI_ne _ _ (by decide), sI_ne _ _ (by decide)]; exact o4
      · show srOK ((sI (kpB B) 2 ((kpB B).1 2 + 2)).1 3)
        rw [sI_ne _ _ (by decide)]; exact o5
      · show (sI (kpB B) 2 ((kpB B).1 2 + 2)).1 6 = 0
        rw [sI_ne _ _ (by decide)]; exact o6
      · show (sI (kpB B) 2 ((kpB B).1 2 + 2)).1 7 = 0
        rw [sI_ne _ _ (by decide)]; exact o7
      · rw [sI_ne _ _ (by decide), sI_ne _ _ (by decide)]; exact s6
      · rw [sI_ne _ _ (by decide), sI_ne _ _ (by decide)]; exact s8
      · show va_up (kpB B).2.1 0 false 0 = (sttM M).2.1 2
        rw [va_up_self, z2]
      · exact o8
      · rw [sI_ne _ _ (by decide), sI_ne _ _ (by decide), o9]; decide
    have hF : Fr (B.2.2 0) (sZ (sI (kpB B) 2 ((kpB B).1 2 + 2)) 0 false) (sI (sI (sttM M) 1 ((kpB B).1 2 + 2)) 5 (nI k)) := by
      refine ⟨hm0, ?_, ?_, ?_⟩
      · rw [sI_ne _ _ (by decide), sI_ne _ _ (by decide)]; exact o9
      · show (sI (kpB B) 2 ((kpB B).1 2 + 2)).1 2 &&& 1 = 0
        rw [sI_at]
        exact (ev_add _ 2 (by decide) (by decide)).trans hpc
      · show va_up (kpB B).2.1 0 false 0 = false
        rw [va_up_self]
    obtain ⟨B', b, M', e1, e2, e3⟩ := obey_step (B := sI (kpB B) 2 ((kpB B).1 2 + 2)) hk h5 hO hF
    rw [e1, bv_some, e2, bd_some]
    rcases e3 with ⟨rfl, q⟩ | ⟨rfl, B1, q1, q2, rfl⟩
    · rw [if_neg (show ¬ zI true = 0 by decide)]
      rcases q with (q | ⟨n, B1, M1, q1, q2, q3, q4, q5, rfl, rfl⟩) | q
      · obtain ⟨B5, M5, f1, f2, f3, f4⟩ := ok_end h hK t hh (nI k) q
        rw [f1, bv_some]
        exact ⟨B5, M5, rfl, f2, f3, f4⟩
      · obtain ⟨B5, M5, f1, f2, f3, f4⟩ := fo_end h hK t hh (nI k) q1 q2 q3 q4 q5
        rw [f1, bv_some]
        exact ⟨B5, M5, rfl, f2, f3, f4⟩
      · obtain ⟨B5, M5, f1, f2, f3, f4⟩ := tr_end h hK t q
        rw [h5] at f1
        rw [f1, bv_some]
        exact ⟨B5, M5, rfl, f2, f3, f4⟩
    · rw [if_pos zI_f, pX7_fault, bv_some]
      unfold ft7
      rw [if_pos q1.2.2.2.2.2.2.2.1]
      have hT := q1.rsT q2 4 (by decide)
      rw [rs_0 q1] at hT
      obtain ⟨B5, M5, f1, f2, f3, f4⟩ := tr_end h hK t hT
      rw [h5] at f1
      rw [f1, bv_some]
      exact ⟨B5, M5, rfl, f2, f3, f4⟩
  · -- an odd place
    rw [if_pos rfl, if_pos rfl, if_pos rfl, bd_some, lt_d, if_neg (show ¬ zI true = 0 by decide), szB1, bd_some, bd_some]
    generalize (kpB B).1 2 = a
    have e1 : ∀ (S : St) (x : Int32), (tbB S 3 x).1 6 = 3 := fun S x => (sI_ne _ _ (by decide)).trans (sI_at _ _ _)
    rw [jn_d, if_neg (show ¬ (tbB (kpB B) 3 a).1 6 = 0 by rw [e1]; decide), if_neg (show ¬ (sI (sI (tbB (sttM M) 3 a) 1 ((tbB (sttM M) 3 a).1 1 + 2)) 5 0).1 6 = 0 by rw [sI_ne _ _ (by decide), sI_ne _ _ (by decide), e1]; decide)]
    dsimp only
    generalize ((tbB (sttM M) 3 a).1 1 + 2) = p
    have hK : KpM M (sI (sI (tbB (sttM M) 3 a) 1 p) 5 0) := kp_st M _ (fun j j1 j5 j6 j7 => by
      unfold tbB
      rw [sI_ne _ _ j5, sI_ne _ _ j1, sI_ne _ _ j7, sI_ne _ _ j6]) rfl
    have hT : Tr (cB (kpB B)) (cM (sI (sI (tbB (sttM M) 3 a) 1 p) 5 0)) (B.2.2 0) (tbB (kpB B) 3 a) (sI (sI (tbB (sttM M) 3 a) 1 p) 5 0) := by
      refine ⟨3, a, (sttM M).2.2 0, by decide, by rw [← hm0]; exact o1, ⟨rfl, hm0, e1 _ _, sI_at _ _ _, by decide⟩, ⟨rfl, rfl, ?_, ?_, ?_, ?_⟩⟩
      · rw [sI_ne _ _ (by decide), sI_ne _ _ (by decide), e1]
      · rw [sI_ne _ _ (by decide), sI_ne _ _ (by decide)]; exact sI_at _ _ _
      · unfold tbB
        rw [sI_ne _ _ (by decide), sI_ne _ _ (by decide), sI_ne _ _ (by decide), sI_ne _ _ (by decide)]; exact o9
      · exact o8
    obtain ⟨B5, M5, f1, f2, f3, f4⟩ := tr_end h hK t hT
    rw [sI_at] at f1
    rw [f1, bv_some]
    exact ⟨B5, M5, rfl, f2, f3, f4⟩
end IS
