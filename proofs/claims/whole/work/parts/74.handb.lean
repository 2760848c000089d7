/-! ===== the stack, in step ===== -/
section HB
variable {c0 : CB} {d0 : CM} {m0 m : Nat → Int32} {B M : St} {n o : Int32} {c : CB} {d : CM}
theorem r4_15 : r4 15 = 15 := by decide +kernel
theorem Ok.gA7 (h : Ok c0 d0 B M) : fX7_getA 7 M = some (B.2.2 1 15, M) := h.gA 7 (by decide)
theorem Ok.sA7 (h : Ok c0 d0 B M) (v : Int32) : fX7_setA 7 v M = some (mA' M 7 v) ∧ Ok c0 d0 (sA B 1 15 v) (mA' M 7 v) := h.sA_ 7 (by decide) v
theorem sA_at (S : St) (k j : Nat) (x : Int32) : (sA S k j x).2.2 k j = x := by
  rw [sA_R, sR_at]; exact pk_us
theorem pX0_push0 (e : Nat) (he : e < 3) (v : Int32) (h : B.1 6 = 0) : fX0_push e v B = some (if od e (B.2.2 1 15 - szB e) = true then tbB (sA B 1 15 (B.2.2 1 15 - szB e)) 3 (B.2.2 1 15 - szB e) else sR (sA B 1 15 (B.2.2 1 15 - szB e)) 0 (wrB (B.2.2 0) (B.2.2 1 15 - szB e) v e)) := by
  unfold fX0_push
  have h6 : (sA B 1 15 (B.2.2 1 15 - szB e)).1 6 = 0 := h
  rw [gd_t he, pX4_get, bd_some, r4_15, lt_d, pX4_set, bv_some, r4_15, pX0_ref0 _ _ h6 e he, bd_some]
  cases hod : od e (B.2.2 1 15 - szB e)
  · rw [if_pos zI_f, if_neg (show ¬ (false = true) by decide), if_neg (show ¬ (false = true) by decide), pX3_store _ _ _ e he, bv_some]
    rfl
  · rw [if_neg (show ¬ zI true = 0 by decide), if_pos rfl, if_pos rfl]
theorem pX0_pop0 (e : Nat) (he : e < 3) (h : B.1 6 = 0) : fX0_pop e B = some (if od e (B.2.2 1 15) = true then 0 else ldB (B.2.2 0) (B.2.2 1 15) e, if od e (B.2.2 1 15) = true then tbB (sA B 1 15 (B.2.2 1 15 + szB e)) 3 (B.2.2 1 15) else sA B 1 15 (B.2.2 1 15 + szB e)) := by
  unfold fX0_pop
  have h6 : (sA B 1 15 (B.2.2 1 15 + szB e)).1 6 = 0 := h
  rw [gd_t he, pX4_get, bd_some, r4_15, pX4_set, bv_some, r4_15, pX0_ref0 _ _ h6 e he, bd_some]
  cases hod : od e (B.2.2 1 15)
  · rw [if_pos zI_f, if_neg (show ¬ (false = true) by decide), if_neg (show ¬ (false = true) by decide), pX3_load _ _ e he, bd_some]
    rfl
  · rw [if_neg (show ¬ zI true = 0 by decide), if_pos rfl, if_pos rfl]
theorem tB_push (h : TB c m n o B) (hn : 0 < n) (e : Nat) (he : e < 3) (v : Int32) : ∃ B', fX0_push e v B = some B' ∧ TB c m n o B' := by
  unfold fX0_push
  have h6 : ¬ (sA B 1 15 (B.2.2 1 15 - szB e)).1 6 = 0 := h.ne hn
  rw [gd_t he, pX4_get, bd_some, r4_15, lt_d, pX4_set, bv_some, r4_15, pX0_ref1 _ _ h6 e he, bd_some, if_neg (show ¬ zI true = 0 by decide)]
  exact ⟨_, rfl, h.A _ _⟩
theorem tB_pop (h : TB c m n o B) (hn : 0 < n) (e : Nat) (he : e < 3) : ∃ r B', fX0_pop e B = some (r, B') ∧ TB c m n o B' := by
  unfold fX0_pop
  have h6 : ¬ (sA B 1 15 (B.2.2 1 15 + szB e)).1 6 = 0 := h.ne hn
  rw [gd_t he, pX4_get, bd_some, r4_15, pX4_set, bv_some, r4_15, pX0_ref1 _ _ h6 e he, bd_some, if_neg (show ¬ zI true = 0 by decide)]
  exact ⟨_, _, rfl, h.A _ _⟩
theorem gA7 (M : St) : fX7_getA 7 M = some (mA M 7, M) := pX7_getA M 7 (by decide)
theorem sA7 (M : St) (v : Int32) : fX7_setA 7 v M = some (mA' M 7 v) := pX7_setA M v 7 (by decide)
theorem tM_push (h : TM d m n o M) (hn : 0 < n) (v x : Int32) : ∃ M', fX7_push v x M = some M' ∧ TM d m n o M' := by
  unfold fX7_push
  have ht := h.A 7 (mA M 7 - x)
  rw [gA7, bd_some, sA7, bv_some, gA7, bd_some, pX7_set1 _ _ _ _ (ht.gt hn), bv_some]
  exact ⟨_, rfl, ht⟩
theorem tM_pop (h : TM d m n o M) (hn : 0 < n) (x : Int32) : ∃ r M', fX7_pop x M = some (r, M') ∧ TM d m n o M' := by
  unfold fX7_pop
  rw [gA7, bd_some, pX7_get1 _ _ _ (h.gt hn), bd_some, gA7, bd_some, sA7, bv_some]
  exact ⟨_, _, rfl, h.A _ _⟩
/-- a push: done, or in trouble -/
theorem sim_push (e : Nat) (he : e < 3) (v : Int32) (h : Ok c0 d0 B M) (hf : Fr m0 B M) : ∃ B' M', fX0_push e v B = some B' ∧ fX7_push v (szB e) M = some M' ∧ ((Ok c0 d0 B' M' ∧ M'.1 14 = M.1 14 ∧ B'.1 2 = B.1 2 ∧ B'.1 3 = B.1 3) ∨ Tr c0 d0 m0 B' M') := by
  obtain ⟨q1, q2⟩ := h.sA7 (B.2.2 1 15 - szB e)
  have hf1 : Fr m0 (sA B 1 15 (B.2.2 1 15 - szB e)) (mA' M 7 (B.2.2 1 15 - szB e)) := hf.A _ _ _ (by rw [mA'_1])
  have g2 := q2.gA7
  rw [sA_at] at g2
  rw [pX0_push0 e he v h.2.2.2.2.2.1]
  unfold fX7_push
  rw [h.gA7, bd_some, q1, bv_some, g2, bd_some]
  rcases pX7_set0 (B.2.2 1 15 - szB e) v (mA' M 7 (B.2.2 1 15 - szB e)) q2.2.2.2.2.2.2.2.1 q2.2.2.2.2.2.2.2.2.2.2.2.1 e he with ⟨a1, a2⟩ | ⟨a1, M', a2, a3, a4⟩
  · rw [a2, bv_some, if_pos a1]
    exact ⟨_, _, rfl, rfl, Or.inr (q2.tr hf1 3 _ (by decide))⟩
  · rw [a2, bv_some, a1, if_neg (show ¬ (false = true) by decide)]
    exact ⟨_, _, rfl, rfl, Or.inl ⟨q2.mem _ v e he a3 a4, by rw [a3.1 14 (by decide), mA'_1], rfl, rfl⟩⟩
theorem sim_pop (e : Nat) (he : e < 3) (h : Ok c0 d0 B M) (hf : Fr m0 B M) : ∃ r B' M', fX0_pop e B = some (r, B') ∧ fX7_pop (szB e) M = some (r, M') ∧ ((Ok c0 d0 B' M' ∧ Fr m0 B' M' ∧ B'.1 3 = B.1 3) ∨ Tr c0 d0 m0 B' M') := by
  obtain ⟨q1, q2⟩ := h.sA7 (B.2.2 1 15 + szB e)
  have hf1 : Fr m0 (sA B 1 15 (B.2.2 1 15 + szB e)) (mA' M 7 (B.2.2 1 15 + szB e)) := hf.A _ _ _ (by rw [mA'_1])
  rw [pX0_pop0 e he h.2.2.2.2.2.1]
  unfold fX7_pop
  rw [h.gA7, bd_some, pX7_get0 _ _ h.2.2.2.2.2.2.2.1 e he, bd_some]
  cases hod : od e (B.2.2 1 15)
  · rw [if_neg (show ¬ (false = true) by decide), if_neg (show ¬ (false = true) by decide), if_neg (show ¬ (false = true) by decide), if_neg (show ¬ (false = true) by decide), h.gA7, bd_some, q1, bv_some]
    refine ⟨_, _, _, rfl, ?_, Or.inl ⟨q2, hf1, rfl⟩⟩
    rw [memL h.1]
    rfl
  · rw [if_pos rfl, if_pos rfl, if_pos rfl, if_pos rfl]
    obtain ⟨nn, oo, m1, hn, hm, hB, hM⟩ := h.tr hf 3 (B.2.2 1 15) (by decide)
    rw [gA7, bd_some, sA7, bv_some]
    exact ⟨_, _, _, rfl, rfl, Or.inr ⟨nn, oo, m1, hn, hm, hB.A 15 (B.2.2 1 15 + szB e), hM.A 7 _⟩⟩
theorem Tr.pc (h : Tr c0 d0 m0 B M) (v v' : Int32) : Tr c0 d0 m0 (sI B 2 v) (sI M 1 v') := by
  obtain ⟨nn, o, m1, hn, hm, hB, hM⟩ := h
  exact ⟨nn, o, m1, hn, hm, hB.pc v, hM.pc v'⟩
theorem Tr.MA (h : Tr c0 d0 m0 B M) (k : Nat) (v' : Int32) : Tr c0 d0 m0 B (mA' M k v') := by
  obtain ⟨nn, o, m1, hn, hm, hB, hM⟩ := h
  exact ⟨nn, o, m1, hn, hm, hB, hM.A k v'⟩
theorem Tr.MD (h : Tr c0 d0 m0 B M) (k : Nat) (v' : Int32) : Tr c0 d0 m0 B (sA M 1 k v') := by
  obtain ⟨nn, o, m1, hn, hm, hB, hM⟩ := h
  exact ⟨nn, o, m1, hn, hm, hB, hM.D k v'⟩
theorem Tr.rz (h : Tr c0 d0 m0 B M) (n : Int32) : Tr c0 d0 m0 (rs B n) M := by
  obtain ⟨nn, o, m1, hn, hm, hB, hM⟩ := h
  unfold rs
  rw [if_neg (hB.ne hn)]
  exact ⟨nn, o, m1, hn, hm, hB, hM⟩
theorem Hd.ps {e : Nat} {v : Int32} (he : e < 3) (h : Ok c0 d0 B M) (hf : Fr m0 B M) {f : St → Option St} {g : St → Option (Bool × St)}
    (H1 : ∀ B1 M1, Ok c0 d0 B1 M1 → M1.1 5 = M.1 5 → M1.1 14 = M.1 14 → B1.1 3 = B.1 3 → Hd c0 d0 m0 (f B1) (g M1)) (H2 : ∀ B1 M1, Tr c0 d0 m0 B1 M1 → Hd c0 d0 m0 (f B1) (g M1)) : Hd c0 d0 m0 (bv (fX0_push e v B) f) (bv (fX7_push v (szB e) M) g) := by
  obtain ⟨B', M', a1, a2, a3⟩ := sim_push e he v h hf
  rw [a1, bv_some, a2, bv_some]
  rcases a3 with ⟨hO, h14, -, h3⟩ | hT
  · exact H1 B' M' hO (h.op hO) h14 h3
  · exact H2 B' M' hT
theorem Hd.pp {e : Nat} (he : e < 3) (h : Ok c0 d0 B M) (hf : Fr m0 B M) {f : Int32 → St → Option St} {g : Int32 → St → Option (Bool × St)}
    (H1 : ∀ r B1 M1, Ok c0 d0 B1 M1 → Fr m0 B1 M1 → M1.1 5 = M.1 5 → B1.1 3 = B.1 3 → Hd c0 d0 m0 (f r B1) (g r M1)) (H2 : ∀ r B1 M1, Tr c0 d0 m0 B1 M1 → Hd c0 d0 m0 (f r B1) (g r M1)) : Hd c0 d0 m0 (bd (fX0_pop e B) f) (bd (fX7_pop (szB e) M) g) := by
  obtain ⟨r, B', M', a1, a2, a3⟩ := sim_pop e he h hf
  rw [a1, bd_some, a2, bd_some]
  rcases a3 with ⟨hO, hF, h3⟩ | hT
  · exact H1 r B' M' hO hF (h.op hO) h3
  · exact H2 r B' M' hT
theorem Hd.ex (h : Ok c0 d0 B M) (hf : Fr m0 B M) {f : Int32 → St → Option St} {g : Int32 → St → Option (Bool × St)}
    (H : ∀ j, j < 65536 → Ok c0 d0 (sI B 2 (B.1 2 + 2)) (sI M 1 (B.1 2 + 2)) → Fr m0 (sI B 2 (B.1 2 + 2)) (sI M 1 (B.1 2 + 2)) → Hd c0 d0 m0 (f (nI j) (sI B 2 (B.1 2 + 2))) (g (nI j) (sI M 1 (B.1 2 + 2)))) : Hd c0 d0 m0 (bd (fX0_nextWord B) f) (bd (fX7_extension M) g) := by
  obtain ⟨a1, a2, a3, a4⟩ := sim_ext h hf
  obtain ⟨j, hj, e⟩ := ldB_k m0 (B.1 2)
  rw [a1, bd_some, a2, bd_some, e]
  exact H j hj a3 a4
/-- an exception that follows on the instruction -/
theorem Hd.fo {n : Int32} (h : Ok c0 d0 B M) (h0 : B.2.1 0 = false) (h1 : 0 < n) (h2 : n < 64) (h3 : ¬ (n = 3 ∨ n = 4 ∨ n = 8 ∨ n = 10 ∨ n = 11)) : Hd c0 d0 m0 (some (rs B n)) (some (true, sI M 8 n)) :=
  ⟨rs B n, true, sI M 8 n, rfl, rfl, Or.inl ⟨rfl, Or.inl (Or.inr ⟨n, B, M, h, h0, h1, h2, h3, rs_0 h n, rfl⟩)⟩⟩
/-- what S alone may do -/
theorem Ok.rsT (h : Ok c0 d0 B M) (hf : Fr m0 B M) (n : Int32) (hn : Un n) : Tr c0 d0 m0 (rs B n) (tbB M n 0) := by
  rw [rs_0 h n]
  obtain ⟨nn, o, m1, q1, hm, hB, hM⟩ := h.tr hf n 0 hn
  have e1 : nn = n := hB.2.2.1.symm
  have e2 : o = 0 := hB.2.2.2.1.symm
  exact ⟨nn, o, m1, q1, hm, ⟨hB.1, hB.2.1, e1.symm, by rw [e2]; exact h.2.2.2.2.2.2.1, hB.2.2.2.2⟩, hM⟩
theorem Hd.pm {f : Bool → St → Option St} {g : Bool → St → Option (Bool × St)} (h : Ok c0 d0 B M) (hf : Fr m0 B M) (H1 : ¬ B.1 3 &&& 8192 = 0 → Hd c0 d0 m0 (f true B) (g false M)) (H2 : ∀ B1 M1, Tr c0 d0 m0 B1 M1 → Hd c0 d0 m0 (f false B1) (g true M1)) : Hd c0 d0 m0 (bd (fX2_permitted B) f) (bd (fX7_isUser M) g) := by
  rw [pX2_permitted, bd_some, pX7_isUser0 _ h.2.2.2.2.2.2.2.1, bd_some, ok_sr h]
  by_cases q : B.1 3 &&& 8192 = 0
  · rw [decide_eq_true q, if_pos q, if_pos q]
    exact H2 _ _ (h.rsT hf 8 (by decide))
  · rw [decide_eq_false q, if_neg q, if_neg q]
    exact H1 q
theorem loc_sr (k : Nat) (hk : k < 64) (e : Nat) (he : e < 3) (B : St) : ∀ w B', fX0_locate e (nI k) B = some (w, B') → B'.1 3 = B.1 3 := by
  obtain ⟨-, k2, -⟩ := k3s k hk
  have key : ∃ w B', fX0_locate e (nI k) B = some (w, B') ∧ B'.1 3 = B.1 3 := by
    unfold fX0_locate
    rw [gd_t he, lt_d, k2, pX4_get, bd_some, lt_d, pX0_kind k hk, bd_some]
    generalize (if 7 ≤ nI (k / 8) then 7 + nI (k % 8) else nI (k / 8)) = r2
    simp only [pX0_inRegister, pX0_at, pX0_stride _ _ e he, pX4_set, pX0_nextWord, pX0_nextLong, bd_some, bv_some]
    have ix : ∀ b w : Int32, ∀ S : St, ∃ r, fX0_indexed b w S = some (r, S) := by
      intro b w S
      unfold fX0_indexed
      rw [pX4_get, bd_some]
      split <;> exact ⟨_, rfl⟩
    by_cases q0 : r2 = 0
    · rw [if_pos q0]; exact ⟨_, _, rfl, rfl⟩
    rw [if_neg q0]
    by_cases q1 : r2 = 1
    · rw [if_pos q1]; exact ⟨_, _, rfl, rfl⟩
    rw [if_neg q1]
    by_cases q2 : r2 = 2
    · rw [if_pos q2]; exact ⟨_, _, rfl, rfl⟩
    rw [if_neg q2]
    by_cases q3 : r2 = 3
    · rw [if_pos q3]; exact ⟨_, _, rfl, rfl⟩
    rw [if_neg q3]
    by_cases q4 : r2 = 4
    · rw [if_pos q4]; exact ⟨_, _, rfl, rfl⟩
    rw [if_neg q4]
    by_cases q5 : r2 = 5
    · rw [if_pos q5]; exact ⟨_, _, rfl, rfl⟩
    rw [if_neg q5]
    by_cases q6 : r2 = 6
    · rw [if_pos q6]
      obtain ⟨r, hr⟩ := ix (B.2.2 1 (r4 (8 + nI (k % 8)))) (ldB (B.2.2 0) (B.1 2) 1) (sI B 2 (B.1 2 + 2))
      rw [hr, bd_some]; exact ⟨_, _, rfl, rfl⟩
    rw [if_neg q6]
    by_cases q7 : r2 = 7
    · rw [if_pos q7]; exact ⟨_, _, rfl, rfl⟩
    rw [if_neg q7]
    by_cases q8 : r2 = 8
    · rw [if_pos q8]; exact ⟨_, _, rfl, rfl⟩
    rw [if_neg q8]
    by_cases q9 : r2 = 9
    · rw [if_pos q9]; exact ⟨_, _, rfl, rfl⟩
    rw [if_neg q9]
    by_cases q10 : r2 = 10
    · rw [if_pos q10]
      obtain ⟨r, hr⟩ := ix (B.1 2) (ldB (B.2.2 0) (B.1 2) 1) (sI B 2 (B.1 2 + 2))
      rw [hr, bd_some]; exact ⟨_, _, rfl, rfl⟩
    rw [if_neg q10]
    simp only [jn, lt]
    split <;> split <;> exact ⟨_, _, rfl, rfl⟩
  intro w B' hw
  obtain ⟨w2, B2, e1, e2⟩ := key
  rw [e1] at hw
  injection hw with hw
  injection hw with hw1 hw2
  rw [← hw2]; exact e2
/-- control operands are found alike for all sizes -/
theorem kd_CO : ∀ k, k < 64 → mf 2020 k = false → kd k = 2 ∨ kd k = 5 ∨ kd k = 6 ∨ kd k = 7 ∨ kd k = 8 ∨ kd k = 9 ∨ kd k = 10 := by decide +kernel
theorem loc_ctl (k : Nat) (hk : k < 64) (hm : mf 2020 k = false) (B : St) : fX0_locate 2 (nI k) B = fX0_locate 1 (nI k) B := by
  have hk' : ∀ S, fX0_kind (nI k) S = some (kd k, S) := pX0_kind k hk
  unfold fX0_locate
  rw [gd_t (by decide), gd_t (by decide), lt_d, lt_d, pX4_get, bd_some, bd_some, lt_d, lt_d, hk', bd_some, bd_some]
  rcases kd_CO k hk hm with e | e | e | e | e | e | e <;> simp (decide := true) only [e, if_true, if_false]
end HB
