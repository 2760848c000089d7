/-! ===== shifts ===== -/
def lb (w : Int64) (i : Nat) : Bool := w.toBitVec.getLsbD i
theorem lb_ext {x y : Int64} (h : ∀ i, i < 64 → lb x i = lb y i) : x = y := Int64.toBitVec_inj.mp (BitVec.eq_of_getLsbD_eq (fun i hi => h i hi))
theorem lb_and (x y : Int64) (i : Nat) : lb (x &&& y) i = (lb x i && lb y i) := by unfold lb; rw [Int64.toBitVec_and, BitVec.getLsbD_and]
theorem lb_or (x y : Int64) (i : Nat) : lb (x ||| y) i = (lb x i || lb y i) := by unfold lb; rw [Int64.toBitVec_or, BitVec.getLsbD_or]
theorem lb_0 (i : Nat) : lb 0 i = false := BitVec.getLsbD_zero
theorem lb_shl (x : Int64) {i : Nat} (hi : i < 64) : lb (x <<< ((1 : Int32).toInt64 &&& 63)) i = (decide (1 ≤ i) && lb x (i - 1)) := by
  show (x.toBitVec <<< (((1 : Int32).toInt64 &&& 63).toBitVec.smod 64).toNat).getLsbD i = _
  rw [show (((1 : Int32).toInt64 &&& 63).toBitVec.smod 64).toNat = 1 from by decide, BitVec.getLsbD_shiftLeft]
  unfold lb
  by_cases q : 1 ≤ i
  · simp [hi, q]
    omega
  · simp [hi, q]
    omega
theorem lb_shr (x : Int64) {i : Nat} (hi : i < 64) (h63 : lb x 63 = false) : lb (x >>> ((1 : Int32).toInt64 &&& 63)) i = lb x (1 + i) := by
  show (x.toBitVec.sshiftRight (((1 : Int32).toInt64 &&& 63).toBitVec.smod 64).toNat).getLsbD i = _
  rw [show (((1 : Int32).toInt64 &&& 63).toBitVec.smod 64).toNat = 1 from by decide, BitVec.getLsbD_sshiftRight]
  unfold lb at h63 ⊢
  have hm : x.toBitVec.msb = false := by rw [BitVec.msb_eq_getLsbD_last]; exact h63
  by_cases q : 1 + i < 64
  · simp [hi, q]
  · have : i = 63 := by omega
    subst this
    simp [hm]
theorem topL (w t : Int64) (k : Nat) (hk : k < 64) (ht : ∀ i, i < 64 → lb t i = decide (i = k)) : (lg_cmp (w &&& t) 0 = 0) = (lb w k = false) := by
  apply propext
  rw [lg_cmp_eq]
  constructor
  · intro h
    have := congrArg (fun x => lb x k) h
    simp only [lb_and, lb_0, ht k hk, decide_true, Bool.and_true] at this
    exact this
  · intro h
    apply lb_ext
    intro i hi
    rw [lb_and, ht i hi, lb_0]
    by_cases q : i = k
    · rw [q, h, Bool.false_and]
    · rw [decide_eq_false q, Bool.and_false]
def bE (e : Nat) : Nat := if e = 0 then 8 else if e = 1 then 16 else 32
theorem bE_k : ∀ e, e < 3 → bE e = kk e + 1 ∧ bE e ≤ 32 := by decide
theorem lb_pl (v : Int32) : ∀ e, e < 3 → ∀ i, i < 64 → lb (pl e v) i = (decide (i < bE e) && bt v i) := by
  have key : ∀ (m : Int64) (n : Nat), n ≤ 32 → (∀ i, i < 64 → lb m i = decide (i < n)) → ∀ i, i < 64 → lb (v.toInt64 &&& m) i = (decide (i < n) && bt v i) := by
    intro m n hn hm i hi
    rw [lb_and, hm i hi]
    by_cases q : i < n
    · rw [decide_eq_true q, Bool.and_true, Bool.true_and]
      exact bt64 v i (by omega)
    · rw [decide_eq_false q, Bool.and_false, Bool.false_and]
  refine e3 ?_ ?_ ?_
  · exact key 255 8 (by decide) (by decide +kernel)
  · exact key 65535 16 (by decide) (by decide +kernel)
  · exact key 4294967295 32 (by decide) (by decide +kernel)
def tL (e : Nat) : Int64 := (1 : Int64) <<< (((8 * szB e) - 1 : Int32).toInt64 &&& 63)
theorem tL_b : ∀ e, e < 3 → ∀ i, i < 64 → lb (tL e) i = decide (i = kk e) := by decide +kernel
theorem tM_b : ∀ e, e < 3 → ∀ i, i < 64 → lb ((tL e <<< ((1 : Int32).toInt64 &&& 63)) - 1) i = decide (i < bE e) := by decide +kernel
theorem szT_b : ∀ e, e < 3 → ∀ i, i < 32 → bt (szT e) i = decide (i = kk e) := by decide +kernel
theorem szM_b : ∀ e, e < 3 → ∀ i, i < 32 → bt (szM e) i = decide (i < bE e) := by decide +kernel
theorem one_l : ∀ i, i < 64 → lb 1 i = decide (i = 0) := by decide +kernel
theorem msk_b {v : Int32} {e : Nat} (he : e < 3) (h : v &&& szM e = v) {i : Nat} (hi : i < 32) (hb : bE e ≤ i) : bt v i = false := by
  have := congrArg (fun x => bt x i) h
  simp only [b_and, szM_b e he i hi] at this
  rw [decide_eq_false (by omega), Bool.and_false] at this
  exact this.symm
theorem pl_i' {v : Int32} {e : Nat} (he : e < 3) (h : v &&& szM e = v) : (pl e v).toInt32 = v := by rw [pl_i v e he, h]
/-- one place to the left, one to the right -/
def shL (e : Nat) (v : Int32) (c : Bool) : Int32 := ((v <<< ((1 : Int32) &&& 31)) &&& szM e) ||| zI c
def shR (e : Nat) (v : Int32) (c : Bool) : Int32 := (ush v 1) ||| (if c = true then szT e else 0)
theorem bt_zI (c : Bool) (i : Nat) (hi : i < 32) : bt (zI c) i = (c && decide (i = 0)) := by
  cases c
  · rw [zI_f, b_0]; rfl
  · rw [zI_t, b1_0 i hi]; rfl
theorem shL_b (e : Nat) (he : e < 3) (v : Int32) (c : Bool) (i : Nat) (hi : i < 32) : bt (shL e v c) i = if i = 0 then c else (decide (i < bE e) && bt v (i - 1)) := by
  unfold shL
  rw [b_or, b_and, szM_b e he i hi, bt_zI c i hi, show ((1 : Int32) &&& 31) = (nI 1 &&& 31) from rfl, b_shl 1 (by decide) _ hi]
  by_cases q : i = 0
  · rw [if_pos q, q, show decide (1 ≤ 0) = false from rfl]
    cases c <;> rfl
  · rw [if_neg q, decide_eq_false q, decide_eq_true (show 1 ≤ i by omega), Bool.and_false, Bool.or_false, Bool.true_and, Bool.and_comm]
theorem shR_b (e : Nat) (he : e < 3) (v : Int32) (c : Bool) (i : Nat) (hi : i < 32) : bt (shR e v c) i = (bt v (1 + i) || (c && decide (i = kk e))) := by
  unfold shR
  have h1 : bt (ush v 1) i = bt v (1 + i) := b_ushr 1 (by decide) v i
  rw [b_or, h1]
  cases c
  · rw [if_neg (by decide), b_0]; rfl
  · rw [if_pos rfl, szT_b e he i hi, Bool.true_and]
theorem shL_m (e : Nat) (he : e < 3) (v : Int32) (c : Bool) : shL e v c &&& szM e = shL e v c := by
  apply b_ext
  intro i hi
  rw [b_and, shL_b e he v c i hi, szM_b e he i hi]
  have := bE_k e he
  by_cases q : i = 0
  · rw [if_pos q, decide_eq_true (by omega), Bool.and_true]
  · rw [if_neg q]
    cases decide (i < bE e) <;> cases bt v (i - 1) <;> rfl
theorem shR_m (e : Nat) (he : e < 3) (v : Int32) (c : Bool) (hv : v &&& szM e = v) : shR e v c &&& szM e = shR e v c := by
  apply b_ext
  intro i hi
  have hb := bE_k e he
  rw [b_and, shR_b e he v c i hi, szM_b e he i hi]
  by_cases q : i < bE e
  · rw [decide_eq_true q, Bool.and_true]
  · rw [decide_eq_false q, Bool.and_false, decide_eq_false (by omega), Bool.and_false, Bool.or_false]
    by_cases q2 : 1 + i < 32
    · rw [msk_b he hv q2 (by omega)]
    · rw [b_big (by omega)]
theorem plL (e : Nat) (he : e < 3) (v : Int32) (c : Bool) : pl e (shL e v c) = (if c = true then ((pl e v <<< ((1 : Int32).toInt64 &&& 63)) &&& ((tL e <<< ((1 : Int32).toInt64 &&& 63)) - 1)) ||| 1 else (pl e v <<< ((1 : Int32).toInt64 &&& 63)) &&& ((tL e <<< ((1 : Int32).toInt64 &&& 63)) - 1)) := by
  have hb := bE_k e he
  have key : ∀ i, i < 64 → lb (pl e (shL e v c)) i = ((decide (1 ≤ i) && (decide (i - 1 < bE e) && bt v (i - 1))) && decide (i < bE e) || (c && decide (i = 0))) := by
    intro i hi
    rw [lb_pl _ e he i hi]
    by_cases q : i < bE e
    · rw [shL_b e he v c i (by omega), decide_eq_true q]
      by_cases q0 : i = 0
      · rw [if_pos q0, q0]
        cases c <;> rfl
      · rw [if_neg q0, decide_eq_true (show 1 ≤ i by omega), decide_eq_true (show i - 1 < bE e by omega), decide_eq_false q0]
        cases c <;> cases bt v (i - 1) <;> rfl
    · rw [decide_eq_false q, decide_eq_false (show ¬ i = 0 by omega)]
      cases c <;> simp
  apply lb_ext
  intro i hi
  rw [key i hi]
  cases c
  · rw [if_neg (by decide), lb_and, lb_shl _ hi, tM_b e he i hi, lb_pl v e he (i - 1) (by omega), Bool.false_and, Bool.or_false]
  · rw [if_pos rfl, lb_or, lb_and, lb_shl _ hi, tM_b e he i hi, lb_pl v e he (i - 1) (by omega), one_l i hi, Bool.true_and]
theorem plR (e : Nat) (he : e < 3) (v : Int32) (c : Bool) (hv : v &&& szM e = v) : pl e (shR e v c) = (if c = true then (pl e v >>> ((1 : Int32).toInt64 &&& 63)) ||| tL e else pl e v >>> ((1 : Int32).toInt64 &&& 63)) := by
  have hb := bE_k e he
  have h63 : lb (pl e v) 63 = false := by rw [lb_pl v e he 63 (by decide), decide_eq_false (by omega), Bool.false_and]
  have key : ∀ i, i < 64 → lb (pl e (shR e v c)) i = (lb (pl e v >>> ((1 : Int32).toInt64 &&& 63)) i || (c && decide (i = kk e))) := by
    intro i hi
    rw [lb_pl _ e he i hi, lb_shr _ hi h63]
    by_cases q : i < bE e
    · rw [decide_eq_true q, Bool.true_and, shR_b e he v c i (by omega), lb_pl v e he (1 + i) (by omega)]
      by_cases q2 : 1 + i < bE e
      · rw [decide_eq_true q2, Bool.true_and]
      · rw [decide_eq_false q2, Bool.false_and]
        congr 1
        by_cases q3 : 1 + i < 32
        · exact msk_b he hv q3 (by omega)
        · exact b_big (by omega)
    · rw [decide_eq_false q, Bool.false_and, decide_eq_false (show ¬ i = kk e by omega), Bool.and_false, Bool.or_false]
      by_cases q2 : 1 + i < 64
      · rw [lb_pl v e he (1 + i) q2, decide_eq_false (by omega), Bool.false_and]
      · exact (BitVec.getLsbD_of_ge _ _ (by omega)).symm
  apply lb_ext
  intro i hi
  rw [key i hi]
  cases c
  · rw [if_neg (by decide), Bool.false_and, Bool.or_false]
  · rw [if_pos rfl, lb_or, tL_b e he i hi, Bool.true_and]
/-! flags behind a shift -/
theorem fl_fl (s : Int32) (b : Int32) (x y : Bool) : fl (fl s b x) b y = fl s b y := by
  apply b_ext
  intro i hi
  simp only [bt_fl, b_xor, b_m1 i hi]
  cases x <;> cases y <;> cases bt s i <;> cases bt b i <;> rfl
theorem has_fl (s : Int32) (z : Bool) : (!decide (fl s 16 z &&& 16 = 0)) = z := by
  have t := top_b (fl s 16 z) 4 16 (by decide) (by decide +kernel)
  rw [bt_fl, b_xor, show bt 16 4 = true by decide, show bt (-1) 4 = true by decide] at t
  cases z
  · rw [decide_eq_true (t.mpr (by simp))]; rfl
  · rw [decide_eq_false (fun q => absurd (t.mp q) (by simp))]; rfl
theorem sh_b : ∀ (n z v c x : Bool) (i : Nat), i < 32 → ∀ a : Bool, (let s8 := if n = true then a || bt 8 i else a && bt (8 ^^^ (-1)) i; let s4 := if z = true then s8 || bt 4 i else s8 && bt (4 ^^^ (-1)) i; let s2 := if v = true then s4 || bt 2 i else s4 && bt (2 ^^^ (-1)) i; let s1 := if c = true then s2 || bt 1 i else s2 && bt (1 ^^^ (-1)) i; if x = true then s1 || bt 16 i else s1 && bt (16 ^^^ (-1)) i) = (let s16 := if x = true then a || bt 16 i else a && bt (16 ^^^ (-1)) i; let s8 := if n = true then s16 || bt 8 i else s16 && bt (8 ^^^ (-1)) i; let s4 := if z = true then s8 || bt 4 i else s8 && bt (4 ^^^ (-1)) i; let s2 := if v = true then s4 || bt 2 i else s4 && bt (2 ^^^ (-1)) i; if c = true then s2 || bt 1 i else s2 && bt (1 ^^^ (-1)) i) := by decide +kernel
theorem sh_e (s : Int32) (n z v c x : Bool) : fl (f4 s n z v c) 16 x = f4 (fl s 16 x) n z v c := by
  apply b_ext
  intro i hi
  unfold f4
  simp only [bt_fl]
  exact sh_b n z v c x i hi (bt s i)
