/-! ===== decimals ===== -/
theorem fl_has (s b : Int32) (j : Nat) (hj : j < 32) (hb : ∀ i, i < 32 → bt b i = decide (i = j)) : fl s b (!decide (s &&& b = 0)) = s := by
  have nb : ∀ i, i < 32 → bt (b ^^^ (-1)) i = !decide (i = j) := fun i hi => by rw [b_xor, hb i hi, b_m1 i hi, Bool.xor_true]
  by_cases h : s &&& b = 0
  · have hz := (top_b s j b hj hb).mp h
    rw [decide_eq_true h]
    show s &&& (b ^^^ (-1)) = s
    apply b_ext
    intro i hi
    rw [b_and, nb i hi]
    by_cases q : i = j
    · rw [q, hz]; rfl
    · rw [decide_eq_false q]; exact Bool.and_true _
  · have hz : bt s j = true := by
      cases q : bt s j
      · exact absurd ((top_b s j b hj hb).mpr q) h
      · rfl
    rw [decide_eq_false h]
    show s ||| b = s
    apply b_ext
    intro i hi
    rw [b_or, hb i hi]
    by_cases q : i = j
    · rw [q, hz]; rfl
    · rw [decide_eq_false q]; exact Bool.or_false _
def dz (sr v : Int32) (c : Bool) : Int32 := if v &&& 255 = 0 then fl (fl sr 1 c) 16 c else fl (fl (fl sr 1 c) 16 c) 4 false
theorem dz_ok (sr v : Int32) (c : Bool) : fOK sr (dz sr v c) := by
  have a := ((fOK.rf sr).fl 1 c rfl rfl).fl 16 c rfl rfl
  unfold dz
  split
  · exact a
  · exact a.fl 4 false rfl rfl
theorem pX1_decimal (v : Int32) (c : Bool) (S : St) : fX1_decimal v c S = some (v &&& 255, sI S 3 (dz (S.1 3) v c)) := by
  unfold fX1_decimal dz
  rw [lt_d, pX4_mark, bv_some, pX4_mark, bv_some, sI_at, sI_I]
  by_cases q : v &&& 255 = 0
  · rw [if_pos q, if_pos q]
  · rw [if_neg q, if_neg q, pX4_mark, bv_some, sI_at, sI_I]
theorem pX7_dtail (v : Int32) (c : Bool) (M : St) : (bv (fX7_flag 1 c M) fun S2 => (bv (fX7_flag 16 c S2) fun S3 => (bd (fX7_has 4 S3) fun b2 S4 => (jn (fun (b3 : Bool) => (bv (fX7_flag 4 b3 S4) fun S5 => (some ((v &&& 255), S5)))) fun K4 =>
    (if (zI b2) = 0 then (K4 false)
    else (if (v &&& 255) = 0 then (K4 true)
    else (K4 false))))))) = some (v &&& 255, sI M 2 (dz (M.1 2) v c)) := by
  rw [pX7_flag, bv_some, pX7_flag, bv_some, sI_at, sI_I, pX7_has, bd_some, sI_at, jn_d]
  have hh := fl_has (fl (fl (M.1 2) 1 c) 16 c) 4 2 (by decide) (by decide +kernel)
  unfold dz
  by_cases q : v &&& 255 = 0
  · rw [if_pos q, if_pos q]
    cases hb : (!decide (fl (fl (M.1 2) 1 c) 16 c &&& 4 = 0))
    · rw [hb] at hh
      rw [if_pos zI_f]
      dsimp only
      rw [pX7_flag, bv_some, sI_at, sI_I, hh]
    · rw [hb] at hh
      rw [if_neg (show ¬ zI true = 0 by decide)]
      dsimp only
      rw [pX7_flag, bv_some, sI_at, sI_I, hh]
  · rw [if_neg q, if_neg q]
    have : (if zI (!decide (fl (fl (M.1 2) 1 c) 16 c &&& 4 = 0)) = 0 then (bv (fX7_flag 4 false (sI M 2 (fl (fl (M.1 2) 1 c) 16 c))) fun S5 => (some ((v &&& 255), S5))) else (bv (fX7_flag 4 false (sI M 2 (fl (fl (M.1 2) 1 c) 16 c))) fun S5 => (some ((v &&& 255), S5)))) = (bv (fX7_flag 4 false (sI M 2 (fl (fl (M.1 2) 1 c) 16 c))) fun S5 => (some ((v &&& 255), S5))) := by split <;> rfl
    dsimp only
    rw [this, pX7_flag, bv_some, sI_at, sI_I]
def dpv (a b : Int32) (x : Nat) : Int32 := (if ((a &&& 15) + (b &&& 15)) + nI x ≤ 9 then ((a &&& 15) + (b &&& 15)) + nI x else ((a &&& 15) + (b &&& 15)) + nI x + 6) + ((a &&& 240) + (b &&& 240))
def dmv (a b : Int32) (x : Nat) : Int32 := (if 0 ≤ ((a &&& 15) - (b &&& 15)) - nI x then ((a &&& 15) - (b &&& 15)) - nI x else ((a &&& 15) - (b &&& 15)) - nI x - 6) + ((a &&& 240) - (b &&& 240))
def dpr (v : Int32) : Int32 := if v ≤ 159 then v else v + 96
def dmr (v : Int32) : Int32 := if 0 ≤ v then v else v - 96
def dcV (less : Bool) (a b : Int32) (x : Nat) : Int32 := if less = true then dmr (dmv a b x) else dpr (dpv a b x)
def dcC (less : Bool) (a b : Int32) (x : Nat) : Bool := if less = true then !decide (0 ≤ dmv a b x) else !decide (dpv a b x ≤ 159)
theorem dcV_t (a b : Int32) (x : Nat) : dcV true a b x = dmr (dmv a b x) := if_pos rfl
theorem dcV_f (a b : Int32) (x : Nat) : dcV false a b x = dpr (dpv a b x) := if_neg (by decide)
theorem dcC_t (a b : Int32) (x : Nat) : dcC true a b x = !decide (0 ≤ dmv a b x) := if_pos rfl
theorem dcC_f (a b : Int32) (x : Nat) : dcC false a b x = !decide (dpv a b x ≤ 159) := if_neg (by decide)
theorem dp1 (v3 : Int32) (S : St) : (jn (fun (b1 : Bool) => (jn (fun (v4 : Int32) => (bd (fX1_decimal v4 b1 S) fun r2 S2 => (some (r2, S2)))) fun K3 => (if (zI b1) = 0 then (K3 v3) else (K3 (v3 + 96))))) fun K2 => (if v3 ≤ 159 then (K2 false) else (K2 true))) = some (dpr v3 &&& 255, sI S 3 (dz (S.1 3) (dpr v3) (!decide (v3 ≤ 159)))) := by
  unfold dpr
  rw [jn_d]
  by_cases p : v3 ≤ 159
  · rw [if_pos p, if_pos p, decide_eq_true p]
    dsimp only
    rw [jn_d, if_pos zI_f]
    dsimp only
    rw [pX1_decimal, bd_some, Bool.not_true]
  · rw [if_neg p, if_neg p, decide_eq_false p]
    dsimp only
    rw [jn_d, if_neg (show ¬ zI true = 0 by decide)]
    dsimp only
    rw [pX1_decimal, bd_some, Bool.not_false]
theorem dm1 (v3 : Int32) (S : St) : (jn (fun (b1 : Bool) => (jn (fun (v4 : Int32) => (bd (fX1_decimal v4 b1 S) fun r2 S2 => (some (r2, S2)))) fun K3 => (if (zI b1) = 0 then (K3 v3) else (K3 (v3 - 96))))) fun K2 => (if 0 ≤ v3 then (K2 false) else (K2 true))) = some (dmr v3 &&& 255, sI S 3 (dz (S.1 3) (dmr v3) (!decide (0 ≤ v3)))) := by
  unfold dmr
  rw [jn_d]
  by_cases p : 0 ≤ v3
  · rw [if_pos p, if_pos p, decide_eq_true p]
    dsimp only
    rw [jn_d, if_pos zI_f]
    dsimp only
    rw [pX1_decimal, bd_some, Bool.not_true]
  · rw [if_neg p, if_neg p, decide_eq_false p]
    dsimp only
    rw [jn_d, if_neg (show ¬ zI true = 0 by decide)]
    dsimp only
    rw [pX1_decimal, bd_some, Bool.not_false]
theorem dp7 (v3 : Int32) (S1 : St) : (jn (fun (b1 : Bool) => (jn (fun (v4 : Int32) => (bv (fX7_flag 1 b1 S1) fun S2 => (bv (fX7_flag 16 b1 S2) fun S3 => (bd (fX7_has 4 S3) fun b2 S4 => (jn (fun (b3 : Bool) => (bv (fX7_flag 4 b3 S4) fun S5 => (some ((v4 &&& 255), S5)))) fun K4 => (if (zI b2) = 0 then (K4 false) else (if (v4 &&& 255) = 0 then (K4 true) else (K4 false)))))))) fun K3 => (if (zI b1) = 0 then (K3 v3) else (K3 (v3 + 96))))) fun K2 => (if v3 ≤ 159 then (K2 false) else (K2 true))) = some (dpr v3 &&& 255, sI S1 2 (dz (S1.1 2) (dpr v3) (!decide (v3 ≤ 159)))) := by
  unfold dpr
  rw [jn_d]
  by_cases p : v3 ≤ 159
  · rw [if_pos p, if_pos p, decide_eq_true p]
    dsimp only
    rw [jn_d, if_pos zI_f]
    dsimp only
    rw [pX7_dtail, Bool.not_true]
  · rw [if_neg p, if_neg p, decide_eq_false p]
    dsimp only
    rw [jn_d, if_neg (show ¬ zI true = 0 by decide)]
    dsimp only
    rw [pX7_dtail, Bool.not_false]
theorem dm7 (v3 : Int32) (S1 : St) : (jn (fun (b1 : Bool) => (jn (fun (v4 : Int32) => (bv (fX7_flag 1 b1 S1) fun S2 => (bv (fX7_flag 16 b1 S2) fun S3 => (bd (fX7_has 4 S3) fun b2 S4 => (jn (fun (b3 : Bool) => (bv (fX7_flag 4 b3 S4) fun S5 => (some ((v4 &&& 255), S5)))) fun K4 => (if (zI b2) = 0 then (K4 false) else (if (v4 &&& 255) = 0 then (K4 true) else (K4 false)))))))) fun K3 => (if (zI b1) = 0 then (K3 v3) else (K3 (v3 - 96))))) fun K2 => (if 0 ≤ v3 then (K2 false) else (K2 true))) = some (dmr v3 &&& 255, sI S1 2 (dz (S1.1 2) (dmr v3) (!decide (0 ≤ v3)))) := by
  unfold dmr
  rw [jn_d]
  by_cases p : 0 ≤ v3
  · rw [if_pos p, if_pos p, decide_eq_true p]
    dsimp only
    rw [jn_d, if_pos zI_f]
    dsimp only
    rw [pX7_dtail, Bool.not_true]
  · rw [if_neg p, if_neg p, decide_eq_false p]
    dsimp only
    rw [jn_d, if_neg (show ¬ zI true = 0 by decide)]
    dsimp only
    rw [pX7_dtail, Bool.not_false]
theorem pX1_decimalPlus (a b : Int32) (S : St) : fX1_decimalPlus a b S = some (dcV false a b (xN (S.1 3)) &&& 255, sI S 3 (dz (S.1 3) (dcV false a b (xN (S.1 3))) (dcC false a b (xN (S.1 3))))) := by
  unfold fX1_decimalPlus
  rw [pX1_xAsNumber, bd_some, lt_d, jn_d, dcV_f, dcC_f]
  unfold dpv
  by_cases q : ((a &&& 15) + (b &&& 15)) + nI (xN (S.1 3)) ≤ 9
  · rw [if_pos q, if_pos q]
    dsimp only
    rw [lt_d, dp1]
  · rw [if_neg q, if_neg q, lt_d]
    dsimp only
    rw [lt_d, dp1]
theorem sub6 (x : Int32) : x + (-6) = x - 6 := (Int32.sub_eq_add_neg x 6).symm
theorem pX1_decimalMinus (a b : Int32) (S : St) : fX1_decimalMinus a b S = some (dcV true a b (xN (S.1 3)) &&& 255, sI S 3 (dz (S.1 3) (dcV true a b (xN (S.1 3))) (dcC true a b (xN (S.1 3))))) := by
  unfold fX1_decimalMinus
  rw [pX1_xAsNumber, bd_some, lt_d, jn_d, dcV_t, dcC_t]
  unfold dmv
  by_cases q : 0 ≤ ((a &&& 15) - (b &&& 15)) - nI (xN (S.1 3))
  · rw [if_pos q, if_pos q]
    dsimp only
    rw [lt_d, dm1]
  · rw [if_neg q, if_neg q, lt_d]
    dsimp only
    rw [lt_d, dm1, sub6]
theorem ad3 (x y z : Int32) : x + y + z = x + (y + z) := Int32.add_assoc x y z
theorem ad3' (x y z : Int32) : x + y - z = x + (y - z) := by rw [Int32.sub_eq_add_neg, Int32.sub_eq_add_neg, Int32.add_assoc]
theorem pX7_decimalSum (a b : Int32) (S : St) : fX7_decimalSum a b S = some (dcV false a b (xN (S.1 2)) &&& 255, sI S 2 (dz (S.1 2) (dcV false a b (xN (S.1 2))) (dcC false a b (xN (S.1 2))))) := by
  unfold fX7_decimalSum
  rw [pX7_x, bd_some, lt_d, jn_d, dcV_f, dcC_f]
  unfold dpv
  by_cases q : ((a &&& 15) + (b &&& 15)) + nI (xN (S.1 2)) ≤ 9
  · rw [if_pos q, if_pos q]
    dsimp only
    rw [lt_d, dp7, ad3 _ (a &&& 240)]
  · rw [if_neg q, if_neg q]
    dsimp only
    rw [lt_d, dp7, ad3 _ (a &&& 240)]
theorem pX7_decimalLess (a b : Int32) (S : St) : fX7_decimalLess a b S = some (dcV true a b (xN (S.1 2)) &&& 255, sI S 2 (dz (S.1 2) (dcV true a b (xN (S.1 2))) (dcC true a b (xN (S.1 2))))) := by
  unfold fX7_decimalLess
  rw [pX7_x, bd_some, lt_d, jn_d, dcV_t, dcC_t]
  unfold dmv
  by_cases q : 0 ≤ ((a &&& 15) - (b &&& 15)) - nI (xN (S.1 2))
  · rw [if_pos q, if_pos q]
    dsimp only
    rw [lt_d, dm7, ad3' _ (a &&& 240)]
  · rw [if_neg q, if_neg q]
    dsimp only
    rw [lt_d, dm7, ad3' _ (a &&& 240)]
/-! ===== conditions ===== -/
def hld (c : Nat) (n z v cc : Bool) : Bool :=
  if c = 0 then true else if c = 1 then false else if c = 2 then !cc && !z else if c = 3 then cc || z else if c = 4 then !cc else if c = 5 then cc else if c = 6 then !z else if c = 7 then z
  else if c = 8 then !v else if c = 9 then v else if c = 10 then !n else if c = 11 then n else if c = 12 then n == v else if c = 13 then n != v else if c = 14 then !z && (n == v) else z || (n != v)
def hs (c : Nat) (sr : Int32) : Bool := hld c (!decide (sr &&& 8 = 0)) (!decide (sr &&& 4 = 0)) (!decide (sr &&& 2 = 0)) (!decide (sr &&& 1 = 0))
theorem e16 {P : Nat → Prop} (h0 : P 0) (h1 : P 1) (h2 : P 2) (h3 : P 3) (h4 : P 4) (h5 : P 5) (h6 : P 6) (h7 : P 7) (h8 : P 8) (h9 : P 9) (h10 : P 10) (h11 : P 11) (h12 : P 12) (h13 : P 13) (h14 : P 14) (h15 : P 15) : ∀ c, c < 16 → P c := by
  intro c hc
  have q : c = 0 ∨ c = 1 ∨ c = 2 ∨ c = 3 ∨ c = 4 ∨ c = 5 ∨ c = 6 ∨ c = 7 ∨ c = 8 ∨ c = 9 ∨ c = 10 ∨ c = 11 ∨ c = 12 ∨ c = 13 ∨ c = 14 ∨ c = 15 := by omega
  rcases q with rfl | rfl | rfl | rfl | rfl | rfl | rfl | rfl | rfl | rfl | rfl | rfl | rfl | rfl | rfl | rfl <;> assumption
theorem sr5 (s : Int32) : (s &&& 5 = 0) = ((!decide (s &&& 1 = 0)) = false ∧ (!decide (s &&& 4 = 0)) = false) := by
  have h1 := top_b s 0 1 (by decide) (by decide +kernel)
  have h4 := top_b s 2 4 (by decide) (by decide +kernel)
  apply propext
  rw [Bool.not_eq_false', Bool.not_eq_false', decide_eq_true_eq, decide_eq_true_eq, h1, h4]
  constructor
  · intro h
    have := fun i => congrArg (fun x => bt x i) h
    simp only [b_and, b_0] at this
    have a := this 0
    have b := this 2
    rw [show bt 5 0 = true by decide, Bool.and_true] at a
    rw [show bt 5 2 = true by decide, Bool.and_true] at b
    exact ⟨a, b⟩
  · intro ⟨a, b⟩
    apply b_ext
    intro i hi
    rw [b_and, b_0]
    by_cases q : i = 0
    · rw [q, a]; rfl
    · by_cases q2 : i = 2
      · rw [q2, b]; rfl
      · have : ∀ i, i < 32 → i ≠ 0 → i ≠ 2 → bt 5 i = false := by decide +kernel
        rw [this i hi q q2, Bool.and_false]
theorem pX7_holds (M : St) : ∀ c, c < 16 → fX7_holds (nI c) M = some (hs c (M.1 2), M) := by
  intro c hc
  unfold fX7_holds hs
  simp only [pX7_has, bd_some, jn]
  generalize (!decide (M.1 2 &&& 8 = 0)) = n
  generalize (!decide (M.1 2 &&& 4 = 0)) = z
  generalize (!decide (M.1 2 &&& 2 = 0)) = v
  generalize (!decide (M.1 2 &&& 1 = 0)) = cc
  revert c
  refine e16 ?_ ?_ ?_ ?_ ?_ ?_ ?_ ?_ ?_ ?_ ?_ ?_ ?_ ?_ ?_ ?_ <;> (cases n <;> cases z <;> cases v <;> cases cc <;> rfl)
theorem pX4_holds (S : St) : ∀ c, c < 16 → fX4_holds (nI c) S = some (hs c (S.1 3), S) := by
  intro c hc
  unfold fX4_holds hs
  simp only [pX4_has, bd_some, jn, sr5]
  generalize (!decide (S.1 3 &&& 8 = 0)) = n
  generalize (!decide (S.1 3 &&& 4 = 0)) = z
  generalize (!decide (S.1 3 &&& 2 = 0)) = v
  generalize (!decide (S.1 3 &&& 1 = 0)) = cc
  revert c
  refine e16 ?_ ?_ ?_ ?_ ?_ ?_ ?_ ?_ ?_ ?_ ?_ ?_ ?_ ?_ ?_ ?_ <;> (cases n <;> cases z <;> cases v <;> cases cc <;> rfl)
