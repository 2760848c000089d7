/-! ===== the reference's reckoning, and that both agree ===== -/
theorem sg_lo (n : Nat) : ∀ e, e < 3 → n < Nn e → -2147483648 ≤ sg e n ∧ sg e n ≤ 2147483647 := by
  refine e3 ?_ ?_ ?_
  · intro h
    have h : n < 256 := h
    show _ ≤ (if n < 128 then (n : Int) else (n : Int) - 256) ∧ (if n < 128 then (n : Int) else (n : Int) - 256) ≤ _
    split <;> omega
  · intro h
    have h : n < 65536 := h
    show _ ≤ (if n < 32768 then (n : Int) else (n : Int) - 65536) ∧ (if n < 32768 then (n : Int) else (n : Int) - 65536) ≤ _
    split <;> omega
  · intro h
    have h : n < 4294967296 := h
    show _ ≤ (if n < 2147483648 then (n : Int) else (n : Int) - 4294967296) ∧ (if n < 2147483648 then (n : Int) else (n : Int) - 4294967296) ≤ _
    split <;> omega
theorem sg_mod (n : Nat) : ∀ e, e < 3 → ∃ k : Int, sg e n = n + (Nn e : Nat) * k := by
  intro e he
  unfold sg
  split
  · exact ⟨0, by omega⟩
  · exact ⟨-1, by omega⟩
theorem ext64 (v : Int32) : ∀ e, e < 3 → ((ext e v).toInt64).toInt = sg e (u e v) := by
  intro e he
  rw [Int32.toInt_toInt64, ext_sg v e he]
/-- what the reference's flags come to -/
def rk (sr : Int32) (n z v c ex kz : Bool) : Int32 :=
  let s1 := fl (fl sr 8 n) 4 z
  let s2 := if kz = true then fl s1 4 ((!decide (sr &&& 4 = 0)) && z) else s1
  let s4 := fl (fl s2 2 v) 1 c
  if ex = true then fl s4 16 (!decide (s4 &&& 1 = 0)) else s4
theorem reck_t (v1 : Int32) (w1 w2 : Int64) (ex kz : Bool) (V C : Bool) (M : St) (e : Nat) (he : e < 3) (hV : V = !decide (lg_cmp w1 ((ext e v1).toInt64) = 0)) (hC : C = !decide (lg_cmp w2 (pl e v1) = 0)) :
    (bd (fX7_has 4 M) fun b1 S4 => (bv (fX7_signs v1 (szB e) S4) fun S5 => (jn (fun (S6 : St) => (bd (fX7_extended v1 (szB e) S6) fun r1 S7 => (jn (fun (b2 : Bool) => (bv (fX7_flag 2 b2 S7) fun S8 => (bd (fX7_plain v1 (szB e) S8) fun w4 S9 => (jn (fun (b3 : Bool) => (bv (fX7_flag 1 b3 S9) fun S10 => (if (zI ex) = 0 then (some (v1, S10))
    else (bd (fX7_has 1 S10) fun b4 S11 => (bv (fX7_flag 16 b4 S11) fun S12 => (some (v1, S12))))))) fun K5 =>
    (if (lg_cmp w2 w4) = 0 then (K5 false)
    else (K5 true)))))) fun K4 =>
    (if (lg_cmp w1 (r1.toInt64)) = 0 then (K4 false)
    else (K4 true))))) fun K3 =>
    (if (zI kz) = 0 then (K3 S5)
    else (jn (fun (b5 : Bool) (S13 : St) => (bv (fX7_flag 4 b5 S13) fun S14 => (K3 S14))) fun K6 =>
    (if (zI b1) = 0 then (K6 false S5)
    else (bd (fX7_plain v1 (szB e) S5) fun w5 S15 => (if (lg_cmp w5 0) = 0 then (K6 true S15)
    else (K6 false S15))))))))) = some (v1, sI M 2 (rk (M.1 2) (cn e v1) (cz e v1) V C ex kz)) := by
  rw [pX7_has, bd_some, pX7_signs v1 M e he, bv_some]
  have key : ∀ S6 : St, ((bd (fX7_extended v1 (szB e) S6) fun r1 S7 => (jn (fun (b2 : Bool) => (bv (fX7_flag 2 b2 S7) fun S8 => (bd (fX7_plain v1 (szB e) S8) fun w4 S9 => (jn (fun (b3 : Bool) => (bv (fX7_flag 1 b3 S9) fun S10 => (if (zI ex) = 0 then (some (v1, S10))
    else (bd (fX7_has 1 S10) fun b4 S11 => (bv (fX7_flag 16 b4 S11) fun S12 => (some (v1, S12))))))) fun K5 =>
    (if (lg_cmp w2 w4) = 0 then (K5 false)
    else (K5 true)))))) fun K4 =>
    (if (lg_cmp w1 (r1.toInt64)) = 0 then (K4 false)
    else (K4 true)))) : Option (Int32 × St)) = some (v1, sI S6 2 (if ex = true then fl (fl (fl (S6.1 2) 2 V) 1 C) 16 (!decide (fl (fl (S6.1 2) 2 V) 1 C &&& 1 = 0)) else fl (fl (S6.1 2) 2 V) 1 C)) := by
    intro S6
    rw [pX7_extended v1 S6 e he, bd_some, jV hV, pX7_flag, bv_some, pX7_plain v1 _ e he, bd_some, jV hC, pX7_flag, bv_some]
    cases ex
    · rw [if_pos (show zI false = 0 from rfl), if_neg (by decide)]
      show some (v1, sI (sI S6 2 _) 2 _) = _
      rw [sI_I]; rfl
    · rw [if_neg (show ¬ zI true = 0 by decide), if_pos rfl, pX7_has, bd_some, pX7_flag, bv_some]
      show some (v1, sI (sI (sI S6 2 _) 2 _) 2 _) = _
      rw [sI_I, sI_I]; rfl
  cases kz
  · rw [jn_d, if_pos (show zI false = 0 from rfl)]
    dsimp only
    rw [key, sI_I]; rfl
  · rw [jn_d, if_neg (show ¬ zI true = 0 by decide)]
    have fin : ∀ b5 : Bool, b5 = ((!decide (M.1 2 &&& 4 = 0)) && cz e v1) → (bv (fX7_flag 4 b5 (sI M 2 (fl (fl (M.1 2) 8 (cn e v1)) 4 (cz e v1)))) fun S14 => some (v1, sI S14 2 (if ex = true then fl (fl (fl (S14.1 2) 2 V) 1 C) 16 (!decide (fl (fl (S14.1 2) 2 V) 1 C &&& 1 = 0)) else fl (fl (S14.1 2) 2 V) 1 C))) = some (v1, sI M 2 (rk (M.1 2) (cn e v1) (cz e v1) V C ex true)) := by
      intro b5 hb
      rw [pX7_flag, bv_some, hb]
      show some (v1, sI (sI (sI M 2 _) 2 _) 2 _) = _
      rw [sI_I, sI_I]; rfl
    simp only [key]
    have hz := cz_pl v1 e he
    by_cases hb : M.1 2 &&& 4 = 0
    · rw [decide_eq_true hb, jn_d, if_pos (show zI (!true) = 0 from rfl)]
      exact fin false (by rw [decide_eq_true hb]; rfl)
    · rw [decide_eq_false hb, jn_d, if_neg (show ¬ zI (!false) = 0 by decide), pX7_plain v1 _ e he, bd_some]
      by_cases hq : v1 &&& szM e = 0
      · rw [if_pos (hz.mpr hq)]
        exact fin true (by rw [decide_eq_false hb]; unfold cz; rw [decide_eq_true hq]; rfl)
      · rw [if_neg (fun q => hq (hz.mp q))]
        exact fin false (by rw [decide_eq_false hb]; unfold cz; rw [decide_eq_false hq]; rfl)
theorem pX7_reckonA (a b : Int32) (m : Nat) (hm : m < 2) (ex kz : Bool) (M : St) : ∀ e, e < 3 → fX7_reckon a b (nI m) false (szB e) ex kz M = some (nI (tN e (u e a) (u e b) m), sI M 2 (rk (M.1 2) (cn e (nI (tN e (u e a) (u e b) m))) (cz e (nI (tN e (u e a) (u e b) m))) (aV e (u e a) (u e b) m) (aC e (u e a) (u e b) m) ex kz)) := by
  intro e he
  have hA := u_lt a e he
  have hB := u_lt b e he
  have hN := N32 e he
  have ht := tN_or hA hB hm
  have hp := Nn_pos e he
  have hRlt : tN e (u e a) (u e b) m < Nn e := Nat.mod_lt _ hp
  have sA := sg_lo _ e he hA
  have sB := sg_lo _ e he hB
  have e1 := ext64 a e he
  have e2 := ext64 b e he
  have e3 : (lN m).toInt = (m : Int) := lN_t (by omega)
  have hw : (((ext e a).toInt64 + (ext e b).toInt64) + lN m).toInt = sg e (u e a) + sg e (u e b) + m := by
    have e4 := add64 (ext e a).toInt64 (ext e b).toInt64 (by omega) (by omega) (by omega) (by omega)
    rw [add64 _ _ (by omega) (by omega) (by omega) (by omega)]
    omega
  have hu : u e (((ext e a).toInt64 + (ext e b).toInt64) + lN m).toInt32 = tN e (u e a) (u e b) m := by
    have h := u_64 (((ext e a).toInt64 + (ext e b).toInt64) + lN m) e he
    rw [hw] at h
    obtain ⟨k1, q1⟩ := sg_mod (u e a) e he
    obtain ⟨k2, q2⟩ := sg_mod (u e b) e he
    have h3 : (sg e (u e a) + sg e (u e b) + m) % (Nn e : Nat) = (tN e (u e a) (u e b) m : Nat) := by
      rw [q1, q2, show ((u e a : Nat) : Int) + (Nn e : Nat) * k1 + ((u e b : Nat) + (Nn e : Nat) * k2) + m = ((u e a + u e b + m : Nat) : Int) + (Nn e : Nat) * (k1 + k2) by rw [Int.mul_add]; omega, Int.add_mul_emod_self_left]
      rfl
    rw [h3] at h
    exact Int.ofNat.inj h
  unfold fX7_reckon
  rw [jn_d, if_pos (show zI false = 0 from rfl), pX7_extended a M e he, bd_some, pX7_extended b M e he, bd_some]
  dsimp only
  rw [jn_d, if_pos (show zI false = 0 from rfl), pX7_plain a M e he, bd_some, pX7_plain b M e he, bd_some]
  dsimp only
  rw [nI_lN hm, pX7_plain _ M e he, bd_some, lt_d, pl_i _ e he, u_and _ e he, hu]
  refine reck_t _ _ _ ex kz _ _ M e he ?_ ?_
  · unfold aV
    congr 1
    apply decide_eq_decide.mpr
    rw [lg_cmp_eq, ← Int64.toInt_inj, hw, ext64 _ e he, u_nI _ e he, Nat.mod_eq_of_lt hRlt]
  · unfold aC
    rw [pl_N a e he, pl_N b e he, pl_N _ e he, lN_add, lN_add, u_nI _ e he, Nat.mod_eq_of_lt hRlt]
    have hq : lg_cmp (lN (u e a + u e b + m)) (lN (tN e (u e a) (u e b) m)) = 0 ↔ ¬ Nn e ≤ u e a + u e b + m := by
      rw [lg_cmp_eq, pk_lEQ (by omega) (by omega)]; omega
    by_cases q : Nn e ≤ u e a + u e b + m
    · rw [decide_eq_true q, decide_eq_false (fun z => hq.mp z q)]; rfl
    · rw [decide_eq_false q, decide_eq_true (hq.mpr q)]; rfl
theorem pX7_reckonD (a b : Int32) (m : Nat) (hm : m < 2) (ex kz : Bool) (M : St) : ∀ e, e < 3 → fX7_reckon a b (nI m) true (szB e) ex kz M = some (nI (dN e (u e a) (u e b) m), sI M 2 (rk (M.1 2) (cn e (nI (dN e (u e a) (u e b) m))) (cz e (nI (dN e (u e a) (u e b) m))) (dV e (u e a) (u e b) m) (dC (u e a) (u e b) m) ex kz)) := by
  intro e he
  have hA := u_lt a e he
  have hB := u_lt b e he
  have hN := N32 e he
  have ht := dN_or hA hB hm
  have hp := Nn_pos e he
  have hRlt : dN e (u e a) (u e b) m < Nn e := Nat.mod_lt _ hp
  have sA := sg_lo _ e he hA
  have sB := sg_lo _ e he hB
  have e1 := ext64 a e he
  have e2 := ext64 b e he
  have e3 : (lN m).toInt = (m : Int) := lN_t (by omega)
  have hw : (((ext e a).toInt64 - (ext e b).toInt64) - lN m).toInt = sg e (u e a) - sg e (u e b) - m := by
    have e4 := sub64 (ext e a).toInt64 (ext e b).toInt64 (by omega) (by omega) (by omega) (by omega)
    rw [sub64 _ _ (by omega) (by omega) (by omega) (by omega)]
    omega
  have hu : u e (((ext e a).toInt64 - (ext e b).toInt64) - lN m).toInt32 = dN e (u e a) (u e b) m := by
    have h := u_64 (((ext e a).toInt64 - (ext e b).toInt64) - lN m) e he
    rw [hw] at h
    obtain ⟨k1, q1⟩ := sg_mod (u e a) e he
    obtain ⟨k2, q2⟩ := sg_mod (u e b) e he
    have h3 : (sg e (u e a) - sg e (u e b) - m) % (Nn e : Nat) = (dN e (u e a) (u e b) m : Nat) := by
      rcases ht with ⟨q, -⟩ | ⟨q, -⟩
      · rw [q1, q2, show ((u e a : Nat) : Int) + (Nn e : Nat) * k1 - ((u e b : Nat) + (Nn e : Nat) * k2) - m = (dN e (u e a) (u e b) m : Nat) + (Nn e : Nat) * (k1 - k2) by rw [Int.mul_sub]; omega, Int.add_mul_emod_self_left]
        exact Int.emod_eq_of_lt (by omega) (by omega)
      · rw [q1, q2, show ((u e a : Nat) : Int) + (Nn e : Nat) * k1 - ((u e b : Nat) + (Nn e : Nat) * k2) - m = (dN e (u e a) (u e b) m : Nat) + (Nn e : Nat) * (k1 - k2 - 1) by rw [Int.mul_sub, Int.mul_sub]; omega, Int.add_mul_emod_self_left]
        exact Int.emod_eq_of_lt (by omega) (by omega)
    rw [h3] at h
    exact Int.ofNat.inj h
  unfold fX7_reckon
  rw [jn_d, if_neg (show ¬ zI true = 0 by decide), pX7_extended a M e he, bd_some, pX7_extended b M e he, bd_some]
  dsimp only
  rw [jn_d, if_neg (show ¬ zI true = 0 by decide), pX7_plain a M e he, bd_some, pX7_plain b M e he, bd_some]
  dsimp only
  rw [nI_lN hm, pX7_plain _ M e he, bd_some, lt_d, pl_i _ e he, u_and _ e he, hu]
  refine reck_t _ _ _ ex kz _ _ M e he ?_ ?_
  · unfold dV
    congr 1
    apply decide_eq_decide.mpr
    rw [lg_cmp_eq, ← Int64.toInt_inj, hw, ext64 _ e he, u_nI _ e he, Nat.mod_eq_of_lt hRlt]
  · unfold dC
    rw [pl_N a e he, pl_N b e he, pl_N _ e he, u_nI _ e he, Nat.mod_eq_of_lt hRlt]
    have e5 := lN_t (n := u e a) (by omega)
    have e6 := lN_t (n := u e b) (by omega)
    have e7 := lN_t (n := dN e (u e a) (u e b) m) (by omega)
    have hq : lg_cmp (lN (u e a) - lN (u e b) - lN m) (lN (dN e (u e a) (u e b) m)) = 0 ↔ ¬ u e a < u e b + m := by
      have e4 := sub64 (lN (u e a)) (lN (u e b)) (by omega) (by omega) (by omega) (by omega)
      rw [lg_cmp_eq, ← Int64.toInt_inj, sub64 _ _ (by omega) (by omega) (by omega) (by omega)]
      omega
    by_cases q : u e a < u e b + m
    · rw [decide_eq_true q, decide_eq_false (fun z => hq.mp z q)]; rfl
    · rw [decide_eq_false q, decide_eq_true (hq.mpr q)]; rfl
