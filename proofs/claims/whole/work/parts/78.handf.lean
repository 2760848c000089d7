/-! ===== links, the user's stack, traps, returns ===== -/
theorem u_3 {k : Nat} (hk : k < 65536) : (ush (nI k) 3) &&& 7 = nI (k / 8 % 8) := by
  rw [ush_n hk 3 (by decide) 3 (by decide), pk_andN (by omega) (m := 7) 3 (by decide)]
theorem o_15 {k : Nat} (hk : k < 65536) : nI k &&& 15 = nI (k % 16) := pk_andN (by omega) (m := 15) 4 (by decide)
theorem n32 : ∀ y, y < 16 → 0 < 32 + nI y ∧ 32 + nI y < 64 ∧ ¬ (32 + nI y = 3 ∨ 32 + nI y = 4 ∨ 32 + nI y = 8 ∨ 32 + nI y = 10 ∨ 32 + nI y = 11) := by decide +kernel
theorem q_bb (x : Option (Bool × St)) : (bd x fun b S => some (b, S)) = x := by cases x <;> rfl
theorem q_bz (x : Option (Bool × St)) : (bd x fun b S => (if zI b = 0 then some (false, S) else some (true, S))) = x := by
  cases x with
  | none => rfl
  | some p =>
    obtain ⟨b, S⟩ := p
    cases b <;> rfl
section HF
variable {c0 : CB} {d0 : CM} {m0 : Nat → Int32} {B M : St}
theorem sA_ne (S : St) {k i j : Nat} (x : Int32) (h : i ≠ j) : (sA S k j x).2.2 k i = S.2.2 k i := by
  rw [sA_R, sR_at]; exact pk_un h
theorem sA_nk (S : St) {k l j : Nat} (x : Int32) (h : l ≠ k) : (sA S k j x).2.2 l = S.2.2 l := by
  rw [sA_R]; exact sR_ne S _ h
theorem Ok.usp (h : Ok c0 d0 B M) (hs : ¬ B.1 3 &&& 8192 = 0) (v : Int32) : Ok c0 d0 (sA B 1 16 v) (sA M 3 0 v) := by
  obtain ⟨a1, ⟨r1, r2, r3, r4⟩, a3, a4, a5, a6, a7, a8, a9, a10, a11, a12, a13, a14⟩ := h
  refine ⟨?_, ⟨?_, ?_, ?_, ?_⟩, a3, a4, a5, a6, a7, a8, a9, a10, a11, a12, a13, ?_⟩
  · rw [sA_nk B v (by decide), sA_nk M v (by decide)]; exact a1
  · intro k hk
    rw [sA_nk M v (by decide), sA_ne B v (by omega)]; exact r1 k hk
  · intro k hk
    rw [sA_nk M v (by decide), sA_ne B v (by omega)]; exact r2 k hk
  · rw [sA_at, if_neg (show ¬ (sA B 1 16 v).1 3 &&& 8192 = 0 from hs), sA_at]
  · rw [sA_ne M v (by decide), if_neg (show ¬ (sA B 1 16 v).1 3 &&& 8192 = 0 from hs), sA_ne B v (by decide), r4, if_neg hs]
  · exact a14
theorem Ok.us (h : Ok c0 d0 B M) (hs : ¬ B.1 3 &&& 8192 = 0) : M.2.2 3 0 = B.2.2 1 16 := by
  have := h.2.1.2.2.1
  rw [if_neg hs] at this
  exact this
theorem Ok.stop (h : Ok c0 d0 B M) : Ok c0 d0 (sZ B 0 true) (sZ M 2 true) := by
  obtain ⟨a1, a2, a3, a4, a5, a6, a7, a8, a9, a10, a11, a12, a13, a14⟩ := h
  exact ⟨a1, a2, a3, a4, a5, a6, a7, a8, a9, rfl, a11, a12, a13, a14⟩
theorem sim_link {y : Nat} (hy : y < 8) (h : Ok c0 d0 B M) (hf : Fr m0 B M) : ∃ B' M', fX2_link (8 + nI y) B = some B' ∧ fX7_link (nI y) M = some M' ∧ Fin1 c0 d0 m0 B' M' := by
  obtain ⟨a1, a2, a3, a4⟩ := sim_ext h hf
  unfold fX2_link fX7_link
  rw [a1, bd_some, a2, bd_some, lt_d, lt_d, pX4_get, bd_some, r4_8 _ hy, a3.gA _ hy, bd_some]
  obtain ⟨B1, M1, p1, p2, p3⟩ := sim_push 2 (by decide) ((sI B 2 (B.1 2 + 2)).2.2 1 (8 + y)) a3 a4
  rw [szB2] at p2
  rw [p1, bv_some, p2, bv_some, pX4_get, bd_some, r4_15, pX4_set, bv_some, r4_8 _ hy, pX4_get, bd_some, r4_15, pX4_set, bv_some, r4_15]
  rcases p3 with ⟨hO, -⟩ | hT
  · obtain ⟨q1, q2⟩ := hO.sA_ _ hy (B1.2.2 1 15)
    rw [hO.gA7, bd_some, q1, bv_some, q2.gA7, bd_some]
    obtain ⟨q3, q4⟩ := q2.sA7 ((sA B1 1 (8 + y) (B1.2.2 1 15)).2.2 1 15 + ((ldB m0 (B.1 2) 1).toInt16.toInt32))
    rw [q3, bv_some]
    exact ⟨_, _, rfl, rfl, Or.inl q4⟩
  · rw [gA7, bd_some, pX7_setA _ _ _ hy, bv_some, gA7, bd_some, sA7, bv_some]
    exact ⟨_, _, rfl, rfl, Or.inr ((((hT.B_ _ _).B_ _ _).MA _ _).MA _ _)⟩
theorem unlk {y : Nat} (hy : y < 8) (h : Ok c0 d0 B M) (hf : Fr m0 B M) : Hd c0 d0 m0 (fX2_unlink (8 + nI y) B) (bd (fX7_getA (nI y) M) fun r5 S27 => (bv (fX7_setA 7 r5 S27) fun S28 => (bd (fX7_pop 4 S28) fun r6 S29 => (bv (fX7_setA (nI y) r6 S29) fun S30 => (some (true, S30)))))) := by
  obtain ⟨q1, q2⟩ := h.sA7 (B.2.2 1 (8 + y))
  have hf1 : Fr m0 (sA B 1 15 (B.2.2 1 (8 + y))) (mA' M 7 (B.2.2 1 (8 + y))) := hf.A _ _ _ (by rw [mA'_1])
  unfold fX2_unlink
  rw [pX4_get, bd_some, r4_8 _ hy, pX4_set, bv_some, r4_15, h.gA _ hy, bd_some, q1, bv_some]
  refine Hd.pp (e := 2) (by decide) q2 hf1 ?_ ?_
  · intro r B1 M1 hO hF _ _
    obtain ⟨q3, q4⟩ := hO.sA_ _ hy r
    rw [pX4_set, bv_some, r4_8 _ hy, q3, bv_some]
    exact Hd.ok q4
  · intro r B1 M1 hT
    rw [pX4_set, bv_some, r4_8 _ hy, pX7_setA _ _ _ hy, bv_some]
    exact Hd.t (hT.AA _ _ _ _)
/-- the second pop of RTR, with the flags already there on one side -/
theorem sim_pop2 (s : Int32) (h : Ok c0 d0 B M) (hf : Fr m0 B M) : ∃ r B' M', fX0_pop 2 (sI B 3 s) = some (r, B') ∧ fX7_pop 4 M = some (r, M') ∧ ((∃ B0, B' = sI B0 3 s ∧ Ok c0 d0 B0 M' ∧ B0.1 3 = B.1 3) ∨ Tr c0 d0 m0 B' M') := by
  obtain ⟨q1, q2⟩ := h.sA7 (B.2.2 1 15 + szB 2)
  rw [pX0_pop0 2 (by decide) (show (sI B 3 s).1 6 = 0 from h.2.2.2.2.2.1)]
  unfold fX7_pop
  rw [h.gA7, bd_some, ← szB2, pX7_get0 _ _ h.2.2.2.2.2.2.2.1 2 (by decide), bd_some]
  show ∃ r B' M', some (if od 2 (B.2.2 1 15) = true then 0 else ldB (B.2.2 0) (B.2.2 1 15) 2, if od 2 (B.2.2 1 15) = true then tbB (sA (sI B 3 s) 1 15 (B.2.2 1 15 + szB 2)) 3 (B.2.2 1 15) else sA (sI B 3 s) 1 15 (B.2.2 1 15 + szB 2)) = some (r, B') ∧ _
  cases hod : od 2 (B.2.2 1 15)
  · rw [if_neg (show ¬ (false = true) by decide), if_neg (show ¬ (false = true) by decide), if_neg (show ¬ (false = true) by decide), if_neg (show ¬ (false = true) by decide), h.gA7, bd_some, q1, bv_some]
    refine ⟨_, _, _, rfl, ?_, Or.inl ⟨sA B 1 15 (B.2.2 1 15 + szB 2), rfl, q2, rfl⟩⟩
    rw [memL h.1]
    rfl
  · rw [if_pos rfl, if_pos rfl, if_pos rfl, if_pos rfl]
    obtain ⟨nn, oo, m1, hn, hm, hB, hM⟩ := h.tr hf 3 (B.2.2 1 15) (by decide)
    rw [gA7, bd_some, sA7, bv_some]
    exact ⟨_, _, _, rfl, rfl, Or.inr ⟨nn, oo, m1, hn, hm, (hB.A 15 (B.2.2 1 15 + szB 2)).sr s, hM.A 7 _⟩⟩
theorem bk_0 (how v : Int32) (h : ¬ how = 5) : fX7_back how M = (bd (fX7_pop 2 M) fun r2 S1 => (bd (fX7_pop 4 S1) fun r1 S2 => (if (S2.1 6) = 0 then (if how = 3 then (some (sI (sI S2 1 r1) 2 (r2 &&& 42783))) else (if how = 7 then (some (sI (sI S2 1 r1) 2 (((S2.1 2) &&& (-256 : Int32)) ||| (r2 &&& 31)))) else (some (sI S2 1 r1)))) else (some S2)))) := by
  unfold fX7_back
  rw [jn_d, if_neg h]
  refine bd_c (fun r2 S1 => ?_)
  refine bd_c (fun r1 S2 => ?_)
  by_cases z : S2.1 6 = 0
  · rw [if_pos z, if_pos z, lt_d]
    by_cases h3 : how = 3
    · rw [if_pos h3, if_pos h3, lt_d]
    · rw [if_neg h3, if_neg h3]
      by_cases h7 : how = 7
      · rw [if_pos h7, if_pos h7, lt_d, sI_ne _ _ (by decide)]
      · rw [if_neg h7, if_neg h7, lt_d, sI_self]
  · rw [if_neg z, if_neg z]
theorem bk_5 : fX7_back 5 M = (bd (fX7_pop 4 M) fun r1 S2 => (if (S2.1 6) = 0 then (some (sI S2 1 r1)) else (some S2))) := by
  unfold fX7_back
  rw [jn_d, if_pos rfl]
  refine bd_c (fun r1 S2 => ?_)
  by_cases z : S2.1 6 = 0
  · rw [if_pos z, if_pos z, lt_d, if_neg (by decide), if_neg (by decide), lt_d, sI_self]
  · rw [if_neg z, if_neg z]
theorem bv_bd {α : Type} {x : Option (α × St)} {f : α → St → Option St} {β : Type} {g : St → Option β} : bv (bd x f) g = bd x (fun r S => bv (f r S) g) := by
  cases x with
  | none => rfl
  | some p => rfl
theorem aln {y : Nat} (hy : y < 8) (h : Ok c0 d0 B M) (hf : Fr m0 B M) : Hd c0 d0 m0 (fX2_alone (nI y) B) (fX7_single (nI y) M) := by
  have hq : y = 0 ∨ y = 1 ∨ y = 2 ∨ y = 3 ∨ y = 4 ∨ y = 5 ∨ y = 6 ∨ y = 7 := by omega
  unfold fX2_alone fX7_single
  rcases hq with rfl | rfl | rfl | rfl | rfl | rfl | rfl | rfl
  · rw [if_pos (show nI 0 = 0 from rfl), if_neg (show ¬ nI 0 = 4 by decide), if_pos (show nI 0 = 0 from rfl)]
    refine Hd.pm h hf ?_ ?_
    · intro _
      simp (decide := true) only [zf, if_true, if_false]
      exact Hd.ok h
    · intro B1 M1 hT
      simp only [zt, if_false]
      exact Hd.t hT
  · simp (decide := true) only [if_true, if_false]
    exact Hd.ok h
  · rw [if_neg (show ¬ nI 2 = 0 by decide), if_neg (show ¬ nI 2 = 1 by decide), if_pos (show nI 2 = 2 from rfl), if_neg (show ¬ nI 2 = 4 by decide), if_neg (show ¬ nI 2 = 0 by decide), if_pos (show nI 2 = 2 from rfl)]
    refine Hd.pm h hf ?_ ?_
    · intro _
      rw [if_neg (show ¬ zI true = 0 by decide), if_pos zI_f, if_pos (show nI 2 = 2 from rfl)]
      refine Hd.ex h hf ?_
      intro j hj hO hF
      rw [pX4_setStatus, bv_some, lt_d, pX7_putSr0 _ hO.2.2.2.2.2.2.2.1, bv_some, lt_d]
      exact Hd.ok (hO.status _).stop
    · intro B1 M1 hT
      rw [if_pos zI_f, if_neg (show ¬ zI true = 0 by decide)]
      exact Hd.t hT
  · rw [if_neg (show ¬ nI 3 = 0 by decide), if_neg (show ¬ nI 3 = 1 by decide), if_neg (show ¬ nI 3 = 2 by decide), if_pos (show nI 3 = 3 from rfl), if_neg (show ¬ nI 3 = 4 by decide), if_neg (show ¬ nI 3 = 0 by decide), if_neg (show ¬ nI 3 = 2 by decide), if_pos (show nI 3 = 3 from rfl)]
    refine Hd.pm h hf ?_ ?_
    · intro _
      rw [if_neg (show ¬ zI true = 0 by decide), if_pos zI_f, if_neg (show ¬ nI 3 = 2 by decide), if_pos (show nI 3 = 3 from rfl), bk_0 _ 0 (by decide), bv_bd]
      refine Hd.pp (e := 1) (by decide) h hf ?_ ?_
      · intro r B1 M1 hO hF _ _
        rw [bv_bd]
        refine Hd.pp (e := 2) (by decide) hO hF ?_ ?_
        · intro r2 B2 M2 hO2 _ _ _
          rw [if_pos hO2.2.2.2.2.2.2.2.1, if_pos (show nI 3 = 3 from rfl), bv_some, lt_d, pX4_setStatus, bv_some]
          exact Hd.ok ((hO2.pc _).status _)
        · intro r2 B2 M2 hT
          rw [if_neg hT.ne, bv_some, lt_d, pX4_setStatus, bv_some]
          obtain ⟨nn, o, m1, hn, hm, hB, hM⟩ := hT
          exact Hd.t ⟨nn, o, m1, hn, hm, ((hB.pc _).sw_ _).sr _, hM⟩
      · intro r B1 M1 hT
        obtain ⟨nn, o, m1, hn, hm, hB, hM⟩ := hT
        obtain ⟨r1, B2, p1, p2⟩ := tB_pop hB hn 2 (by decide)
        obtain ⟨r2, M2, p3, p4⟩ := tM_pop hM hn 4
        have hT2 : Tr c0 d0 m0 B2 M2 := ⟨nn, o, m1, hn, hm, p2, p4⟩
        rw [bv_bd, p1, bd_some, p3, bd_some, if_neg hT2.ne, bv_some, lt_d, pX4_setStatus, bv_some]
        exact Hd.t ⟨nn, o, m1, hn, hm, ((p2.pc _).sw_ _).sr _, p4⟩
    · intro B1 M1 hT
      rw [if_pos zI_f, if_neg (show ¬ zI true = 0 by decide)]
      exact Hd.t hT
  · simp (decide := true) only [if_true, if_false]
    rw [pX2_illegal, bv_some]
    exact Hd.ill h hf rfl rfl
  · simp (decide := true) only [if_true, if_false]
    rw [show nI 5 = 5 from rfl, bk_5, bv_bd]
    refine Hd.pp (e := 2) (by decide) h hf ?_ ?_
    · intro r B1 M1 hO hF _ _
      rw [if_pos hO.2.2.2.2.2.2.2.1, bv_some, lt_d]
      exact Hd.ok (hO.pc _)
    · intro r B1 M1 hT
      rw [if_neg hT.ne, bv_some, lt_d]
      obtain ⟨nn, o, m1, hn, hm, hB, hM⟩ := hT
      exact Hd.t ⟨nn, o, m1, hn, hm, hB.pc _, hM⟩
  · simp (decide := true) only [if_true, if_false]
    rw [pX4_has, bd_some, pX7_has, bd_some, ok_sr h]
    cases hb : (!decide (B.1 3 &&& 2 = 0))
    · rw [if_pos zI_f, if_pos zI_f]
      exact Hd.ok h
    · rw [if_neg (show ¬ zI true = 0 by decide), if_neg (show ¬ zI true = 0 by decide), lt_d, pX0_raise, bv_some]
      exact Hd.fo h hf.2.2.2 (by decide) (by decide) (by decide)
  · simp (decide := true) only [if_true, if_false]
    rw [bk_0 _ 0 (by decide), bv_bd]
    refine Hd.pp (e := 1) (by decide) h hf ?_ ?_
    · intro r B1 M1 hO hF _ _
      obtain ⟨r1, B2, M2, p1, p2, p3⟩ := sim_pop2 ((B1.1 3 &&& (-32 : Int32)) ||| (r &&& 31)) hO hF
      rw [pX4_setFlags, bv_some, p1, bd_some, bv_bd, p2, bd_some, lt_d]
      rcases p3 with ⟨B0, e1, hO2, e3⟩ | hT
      · have e0 := ok_sr hO2
        rw [if_pos hO2.2.2.2.2.2.2.2.1, if_neg (show ¬ nI 7 = 3 by decide), if_pos (show nI 7 = 7 from rfl), bv_some, e1, e0, ← fb_2 hO2.2.2.2.2.1, ← e3]
        have := (hO2.fl (fb_ok (B0.1 3) r)).pc r1
        refine Hd.fin rfl rfl (Or.inl ?_)
        have c1 : ∀ (S : St) (x y : Int32), sI (sI S 1 x) 2 y = sI (sI S 2 y) 1 x := by
          intro S x y
          show (upd (upd S.1 1 x) 2 y, S.2.1, S.2.2) = (upd (upd S.1 2 y) 1 x, S.2.1, S.2.2)
          rw [upd_c _ _ _ (by decide)]
        rw [c1]
        exact this
      · rw [if_neg hT.ne, bv_some]
        obtain ⟨nn, o, m1, hn, hm, hB, hM⟩ := hT
        exact Hd.t ⟨nn, o, m1, hn, hm, hB.pc _, hM⟩
    · intro r B1 M1 hT
      obtain ⟨nn, o, m1, hn, hm, hB, hM⟩ := hT
      obtain ⟨r1, B2, p1, p2⟩ := tB_pop (hB.sr ((B1.1 3 &&& (-32 : Int32)) ||| (r &&& 31))) hn 2 (by decide)
      obtain ⟨r2, M2, p3, p4⟩ := tM_pop hM hn 4
      have hT2 : Tr c0 d0 m0 B2 M2 := ⟨nn, o, m1, hn, hm, p2, p4⟩
      rw [pX4_setFlags, bv_some, p1, bd_some, bv_bd, p3, bd_some, if_neg hT2.ne, bv_some, lt_d]
      exact Hd.t ⟨nn, o, m1, hn, hm, p2.pc _, p4⟩
end HF
