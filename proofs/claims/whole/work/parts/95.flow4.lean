/-! ===== an instruction in step ===== -/
/-- what the start of an instruction keeps on the reference's side -/
def KpM (M M8 : St) : Prop := M8.1 0 = M.1 0 ∧ M8.1 3 = M.1 3 ∧ M8.1 4 = M.1 4 ∧ M8.1 9 = M.1 1 ∧ M8.1 10 = M.1 2 ∧ M8.2.1 0 = M.2.1 0 ∧ M8.2.1 1 = M.2.1 1 ∧ M8.2.2 4 = M.2.2 4 ∧ (∀ k, k < 8 → M8.2.2 5 k = M.2.2 1 k) ∧ (∀ k, k < 7 → M8.2.2 6 k = M.2.2 2 k) ∧ M8.2.2 7 0 = M.2.2 3 0 ∧ M8.2.2 7 1 = M.2.2 3 1
section FM
variable {B M M8 B3 M9 : St}
theorem cMp {A C : St} (h : cM A = cM C) : A.1 0 = C.1 0 ∧ A.1 3 = C.1 3 ∧ A.1 4 = C.1 4 ∧ A.1 5 = C.1 5 ∧ A.1 9 = C.1 9 ∧ A.1 10 = C.1 10 ∧ A.2.1 0 = C.2.1 0 ∧ A.2.1 1 = C.2.1 1 ∧ A.2.2 4 = C.2.2 4 ∧ A.2.2 5 = C.2.2 5 ∧ A.2.2 6 = C.2.2 6 ∧ A.2.2 7 = C.2.2 7 :=
  ⟨congrArg (fun q : CM => q.1.1) h, congrArg (fun q : CM => q.1.2.1) h, congrArg (fun q : CM => q.1.2.2.1) h, congrArg (fun q : CM => q.1.2.2.2.1) h, congrArg (fun q : CM => q.1.2.2.2.2.1) h, congrArg (fun q : CM => q.1.2.2.2.2.2) h, congrArg (fun q : CM => q.2.1.1) h, congrArg (fun q : CM => q.2.1.2) h, congrArg (fun q : CM => q.2.2.1) h, congrArg (fun q : CM => q.2.2.2.1) h, congrArg (fun q : CM => q.2.2.2.2.1) h, congrArg (fun q : CM => q.2.2.2.2.2) h⟩
theorem cBp {A C : St} (h : cB A = cB C) : A.1 0 = C.1 0 ∧ A.1 1 = C.1 1 ∧ A.1 4 = C.1 4 ∧ A.1 5 = C.1 5 ∧ A.2.2 2 = C.2.2 2 ∧ A.2.2 3 = C.2.2 3 :=
  ⟨congrArg (fun q : CB => q.1) h, congrArg (fun q : CB => q.2.1) h, congrArg (fun q : CB => q.2.2.1) h, congrArg (fun q : CB => q.2.2.2.1) h, congrArg (fun q : CB => q.2.2.2.2.1) h, congrArg (fun q : CB => q.2.2.2.2.2) h⟩
theorem ok_R0 (h : R0 B M) (hk : KpM M M8) (ho : Ok (cB (kpB B)) (cM M8) B3 M9) : R0 B3 M9 ∧ M9.1 0 = M.1 0 ∧ M9.2.1 1 = M.2.1 1 ∧ M9.2.1 0 = M.2.1 0 := by
  obtain ⟨o1, o2, o3, o4, o5, o6, o7, o8, o9, o10, o11, o12, o13, o14⟩ := ho
  obtain ⟨⟨c1, c2, c3, c4, c5, c6, c7, c8, c9⟩, r2, r3, r4, r5, r6⟩ := h
  obtain ⟨k0, k3, k4, k9, k10, z0, z1, kc, -⟩ := hk
  obtain ⟨p0, p3, p4, p5, p9, p10, q0, q1, pc, -⟩ := cMp o14
  obtain ⟨b0, b1, b4, b5, b2', b3'⟩ := cBp o13
  obtain ⟨t4, t5, tk, tz, t2, tr⟩ := kpB_p B
  refine ⟨⟨⟨o1, o2, o3, o4, o5, o11, o12, ?_, ?_⟩, o6, o7, ?_, ?_, ?_⟩, p0.trans k0, q1.trans z1, q0.trans z0⟩
  · rw [b3', tr 3 (by decide), pc, kc]; exact c8
  · rw [b3', tr 3 (by decide), p4, k4]; exact c9
  · rw [b0, tk 0 (by decide) (by decide), p3, k3]; exact r4
  · rw [p3, k3]; exact r5
  · rw [b1, tk 1 (by decide) (by decide), q1, z1, q0, z0]; exact r6
theorem tr_R0 (h : R0 B M) (hk : KpM M M8) {n o : Int32} {m1 : Nat → Int32} (hm : memR (B.2.2 0) m1) (hB : TB (cB (kpB B)) (B.2.2 0) n o B3) (hM : TM (cM M8) m1 n o M9) : R0 (bbB (sI (sI B3 6 0) 7 0)) (tkM M9) ∧ (tkM M9).1 0 = M.1 0 ∧ (tkM M9).1 5 = M8.1 5 := by
  obtain ⟨⟨c1, c2, c3, c4, c5, c6, c7, c8, c9⟩, r2, r3, r4, r5, r6⟩ := h
  obtain ⟨k0, k3, k4, k9, k10, z0, z1, kc, kd, ka, ks0, ks1⟩ := hk
  obtain ⟨u1, u2, u3, u4, -⟩ := hB
  obtain ⟨v1, v2, v3, v4, v5, v6⟩ := hM
  obtain ⟨p0, p3, p4, p5, p9, p10, q0, q1, pc, pd, pa, ps⟩ := cMp v1
  obtain ⟨b0, b1, b4, b5, b2', b3'⟩ := cBp u1
  obtain ⟨t4, t5, tk, tz, t2, tr⟩ := kpB_p B
  obtain ⟨x2, x3, xk, xz, x1, xr⟩ := bbB_p (sI (sI B3 6 0) 7 0)
  obtain ⟨y1, y2, y11, yk, yz, yd, ya, ys0, ys1, yr⟩ := tkM_p M9
  have f2 : (bbB (sI (sI B3 6 0) 7 0)).1 2 = B.1 2 := by rw [x2, sI_ne _ _ (by decide), sI_ne _ _ (by decide), b4, t4]
  have f3 : (bbB (sI (sI B3 6 0) 7 0)).1 3 = B.1 3 := by rw [x3, sI_ne _ _ (by decide), sI_ne _ _ (by decide), b5, t5]
  have f1 : ∀ k, k < 17 → (bbB (sI (sI B3 6 0) 7 0)).2.2 1 k = B.2.2 1 k := fun k hk => by rw [x1 k hk, sI_2, sI_2, b2', t2 k hk]
  refine ⟨⟨⟨?_, ⟨fun k hk => ?_, fun k hk => ?_, ?_, ?_⟩, ?_, ?_, ?_, ?_, ?_, ?_, ?_⟩, ?_, ?_, ?_, ?_, ?_⟩, ?_, ?_⟩
  · rw [xr 0 (by decide), sI_2, sI_2, u2, yr 0 (by decide) (by decide) (by decide), v2]; exact hm
  · rw [yd k hk, pd, kd k hk, f1 k (by omega)]; exact c2.1 k hk
  · rw [ya k hk, pa, ka k hk, f1 (8 + k) (by omega)]; exact c2.2.1 k hk
  · rw [ys0, ps, ks0, f3, f1 15 (by decide), f1 16 (by decide)]; exact c2.2.2.1
  · rw [ys1, ps, ks1, f3, f1 15 (by decide), f1 16 (by decide)]; exact c2.2.2.2
  · rw [y1, p9, k9, f2]; exact c3
  · rw [y2, p10, k10, f3]; exact c4
  · rw [f3]; exact c5
  · unfold numOK
    rw [yk 12 (by decide) (by decide) (by decide), yk 13 (by decide) (by decide) (by decide)]
    exact v6
  · rw [y11]; decide
  · rw [xr 3 (by decide), sI_2, sI_2, b3', tr 3 (by decide), yr 4 (by decide) (by decide) (by decide), pc, kc]; exact c8
  · rw [xr 3 (by decide), sI_2, sI_2, b3', tr 3 (by decide), yk 4 (by decide) (by decide) (by decide), p4, k4]; exact c9
  · rw [xk 6 (by decide) (by decide), sI_ne _ _ (by decide), sI_at]
  · rw [xk 7 (by decide) (by decide), sI_at]
  · rw [xk 0 (by decide) (by decide), sI_ne _ _ (by decide), sI_ne _ _ (by decide), b0, tk 0 (by decide) (by decide), yk 3 (by decide) (by decide) (by decide), p3, k3]; exact r4
  · rw [yk 3 (by decide) (by decide) (by decide), p3, k3]; exact r5
  · rw [xk 1 (by decide) (by decide), sI_ne _ _ (by decide), sI_ne _ _ (by decide), b1, tk 1 (by decide) (by decide), yz, q1, z1, q0, z0]; exact r6
  · rw [yk 0 (by decide) (by decide) (by decide), p0, k0]
  · rw [yk 5 (by decide) (by decide) (by decide), p5]
theorem und_t {n : Int32} (h : Un n) (S : St) : fX6_undoes n S = some (true, S) := by
  unfold fX6_undoes
  rcases h.2 with rfl | rfl | rfl | rfl | rfl <;> rfl
theorem und_f {n : Int32} (h : ¬ (n = 3 ∨ n = 4 ∨ n = 8 ∨ n = 10 ∨ n = 11)) (S : St) : fX6_undoes n S = some (false, S) := by
  unfold fX6_undoes
  rw [if_neg (fun q => h (Or.inl q)), if_neg (fun q => h (Or.inr (Or.inl q))), if_neg (fun q => h (Or.inr (Or.inr (Or.inl q)))), if_neg (fun q => h (Or.inr (Or.inr (Or.inr (Or.inl q))))), if_neg (fun q => h (Or.inr (Or.inr (Or.inr (Or.inr q)))))]
theorem Un.n {n : Int32} (h : Un n) : ∃ k, 0 < k ∧ k < 64 ∧ n = nI k := by
  rcases h.2 with rfl | rfl | rfl | rfl | rfl
  · exact ⟨3, by decide, by decide, rfl⟩
  · exact ⟨4, by decide, by decide, rfl⟩
  · exact ⟨8, by decide, by decide, rfl⟩
  · exact ⟨10, by decide, by decide, rfl⟩
  · exact ⟨11, by decide, by decide, rfl⟩
/-- the end of an instruction in trouble -/
theorem tr_end (h : R0 B M) (hk : KpM M M8) (t : Bool) (hT : Tr (cB (kpB B)) (cM M8) (B.2.2 0) B3 M9) : ∃ B' M', fX6_finish (M8.1 5) t B3 = some B' ∧ tailM t M9 = some M' ∧ R0 B' M' ∧ M'.1 0 = M.1 0 := by
  obtain ⟨n, o, m1, hn, hm, hB, hM⟩ := hT
  obtain ⟨g1, g2, g3⟩ := tr_R0 h hk hm hB hM
  have hu : Un n := hB.2.2.2.2
  obtain ⟨k, k0, k6, kn⟩ := hu.n
  rw [finish_d, hB.2.2.1, hB.2.2.2.1, und_t hu, bd_some, if_neg (show ¬ zI true = 0 by decide), bring_ok, bv_some]
  unfold tailM
  rw [hM.2.2.1, hM.2.2.2.1, if_neg (by intro q; exact absurd (Int32.lt_of_lt_of_le hn q) (by decide)), takeBack_ok _ hM.2.2.2.2.1, bv_some]
  subst kn
  have hx : (if nI k = 3 then (bd (fX7_exception (nI k) true o (tkM M9)) fun b6 S16 => (some S16)) else (bd (fX7_exception (nI k) false o (tkM M9)) fun b6 S16 => (some S16))) = (bd (fX7_exception (nI k) (decide (k = 3)) o (tkM M9)) fun b6 S16 => (some S16)) := by
    by_cases q : k = 3
    · subst q
      rw [if_pos (show nI 3 = 3 from rfl), decide_eq_true rfl]
    · rw [if_neg (nI_n k 3 (by omega) (by decide) q 3 rfl), decide_eq_false q]
  rw [hx]
  rcases g1.exc k k0 k6 (M8.1 5) o (fun _ => g3) with ⟨B', M', e1, e2, e3, e4, e5, e6, e7⟩ | ⟨B1, B2, B', M', e1, e2, e3, e4, e5, e6, e7, e8⟩
  · rw [e1, bd_some, if_pos zI_f, e2, bd_some]
    exact ⟨B', M', rfl, rfl, e3, e5.1.trans g2⟩
  · rw [e1, bd_some, if_neg (show ¬ zI true = 0 by decide), e2, bv_some, e3, bv_some, e4, bd_some]
    exact ⟨B', M', rfl, rfl, e5, e7.1.trans g2⟩
theorem fg0 {S : St} (h6 : S.1 6 = 0) (h7 : S.1 7 = 0) : sI (sI S 6 0) 7 0 = S := by
  have : sI S 6 0 = S := by rw [← h6]; exact sI_self S 6
  rw [this, ← h7]; exact sI_self S 7
/-- .. without -/
theorem ok_end (h : R0 B M) (hk : KpM M M8) (t : Bool) (hh : M.2.1 1 = false) (w : Int32) (hO : Ok (cB (kpB B)) (cM M8) B3 M9) : ∃ B' M', fX6_finish w t B3 = some B' ∧ tailM t M9 = some M' ∧ R0 B' M' ∧ M'.1 0 = M.1 0 := by
  obtain ⟨g1, g2, g3, g4⟩ := ok_R0 h hk hO
  rw [finish_d, g1.2.1, fg0 g1.2.1 g1.2.2.1, und_f (by decide), bd_some, if_pos zI_f, if_pos rfl]
  unfold tailM
  rw [hO.2.2.2.2.2.2.2.1, if_pos (by decide), hO.2.2.2.2.2.2.2.2.1, if_pos rfl]
  obtain ⟨B', M', e1, e2, e3, e4⟩ := end_step t g1 hO.2.2.2.2.2.2.2.2.2.1 (g3.trans hh)
  exact ⟨B', M', e1, e2, e3, e4.trans g2⟩
theorem nI_o64 {n : Int32} (h0 : 0 < n) (h : n < 64) : ∃ k, 0 < k ∧ k < 64 ∧ n = nI k := by
  rw [Int32.lt_iff_toInt_lt] at h0 h
  have a : (0 : Int32).toInt = 0 := rfl
  have b : (64 : Int32).toInt = 64 := rfl
  rw [a] at h0
  rw [b] at h
  refine ⟨n.toInt.toNat, by omega, by omega, ?_⟩
  apply Int32.toInt_inj.mp
  rw [nI_toInt (by omega)]
  omega
/-- .. with an exception that follows -/
theorem fo_end (h : R0 B M) (hk : KpM M M8) (t : Bool) (hh : M.2.1 1 = false) (w : Int32) {n : Int32} (hO : Ok (cB (kpB B)) (cM M8) B3 M9) (hs : B3.2.1 0 = false) (h0 : 0 < n) (hn : n < 64) (hu : ¬ (n = 3 ∨ n = 4 ∨ n = 8 ∨ n = 10 ∨ n = 11)) : ∃ B' M', fX6_finish w t (sI B3 6 n) = some B' ∧ tailM t (sI M9 8 n) = some M' ∧ R0 B' M' ∧ M'.1 0 = M.1 0 := by
  obtain ⟨g1, g2, g3, g4⟩ := ok_R0 h hk hO
  obtain ⟨k, k0, k6, rfl⟩ := nI_o64 h0 hn
  have k3 : k ≠ 3 := fun q => hu (Or.inl (by rw [q]; rfl))
  have kz : ¬ nI k = 0 := nI_n k 0 (by omega) (by decide) (by omega) 0 rfl
  have g1' : R0 B3 (sI M9 8 (nI k)) := g1
  rw [finish_d, sI_at, sI_I, fg0 g1.2.1 g1.2.2.1, und_f hu, bd_some, if_pos zI_f, if_neg kz]
  unfold tailM
  rw [sI_ne _ _ (by decide), hO.2.2.2.2.2.2.2.1, if_pos (by decide), sI_at, if_neg kz]
  rcases g1'.exc k k0 k6 0 0 (fun q => absurd q k3) with ⟨B', M', e1, e2, e3, e4, e5, e6, e7⟩ | ⟨B1, B2, B', M', e1, e2, e3, e4, e5, e6, e7, e8⟩
  · rw [decide_eq_false k3] at e2
    rw [e1, bd_some, if_pos zI_f, e2, bd_some, if_pos zI_f]
    obtain ⟨f1, f2⟩ := end_halt (B := B') (M := M') t (by rw [e4.2.2.2]; exact hs) (by rw [e5.2.2.2]; exact (hO.2.2.2.2.2.2.2.2.2.1.symm.trans hs)) e7
    exact ⟨B', M', f1, f2, e3, e5.1.trans g2⟩
  · rw [decide_eq_false k3] at e4
    rw [fault_no k k6 k3] at e2
    cases e2
    rw [e1, bd_some, if_neg (show ¬ zI true = 0 by decide), e3, bv_some, e4, bd_some, if_neg (show ¬ zI true = 0 by decide)]
    obtain ⟨B5, M5, f1, f2, f3, f4⟩ := end_step t e5 (by rw [e6.2.2.2, e7.2.2.2]; exact hO.2.2.2.2.2.2.2.2.2.1) (by rw [e8]; exact g3.trans hh)
    exact ⟨B5, M5, f1, f2, f3, f4.trans (e7.1.trans g2)⟩
end FM
