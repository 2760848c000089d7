/-! ===== sums and differences ===== -/
def tN (e a b m : Nat) : Nat := (a + b + m) % Nn e
def dN (e a b m : Nat) : Nat := (a + Nn e - (b + m)) % Nn e
theorem u_nI (t : Nat) : ∀ e, e < 3 → u e (nI t) = t % Nn e := by
  have h : (nI t).toBitVec.toNat = t % 4294967296 := BitVec.toNat_ofNat t 32
  refine e3 ?_ ?_ ?_
  · show (nI t).toBitVec.toNat % 256 = t % 256
    rw [h]; omega
  · show (nI t).toBitVec.toNat % 65536 = t % 65536
    rw [h]; omega
  · show (nI t).toBitVec.toNat % 4294967296 = t % 4294967296
    rw [h]; omega
theorem cn_u (x : Int32) : ∀ e, e < 3 → cn e x = decide (Nn e / 2 ≤ u e x) := by
  intro e he
  unfold cn
  have h := top_u x e he
  by_cases q : x &&& szT e = 0
  · rw [decide_eq_true q, decide_eq_false (by have := h.mp q; omega)]; rfl
  · rw [decide_eq_false q, decide_eq_true (by have : ¬ u e x < Nn e / 2 := fun z => q (h.mpr z); omega)]; rfl
def kk (e : Nat) : Nat := if e = 0 then 7 else if e = 1 then 15 else 31
theorem cn_bt (x : Int32) : ∀ e, e < 3 → cn e x = bt x (kk e) := by
  have g : ∀ (t : Int32) (k : Nat), k < 32 → (∀ i, i < 32 → bt t i = decide (i = k)) → (!decide (x &&& t = 0)) = bt x k := by
    intro t k hk ht
    have := top_b x k t hk ht
    cases hb : bt x k
    · rw [decide_eq_true (this.mpr hb)]; rfl
    · rw [decide_eq_false (fun q => by rw [this.mp q] at hb; cases hb)]; rfl
  refine e3 ?_ ?_ ?_
  · exact g 128 7 (by decide) (by decide +kernel)
  · exact g 32768 15 (by decide) (by decide +kernel)
  · exact g (-2147483648) 31 (by decide) (by decide +kernel)
theorem cn_and (x y : Int32) (e : Nat) (he : e < 3) : cn e (x &&& y) = (cn e x && cn e y) := by
  rw [cn_bt _ e he, cn_bt _ e he, cn_bt _ e he, b_and]
theorem cn_xor (x y : Int32) (e : Nat) (he : e < 3) : cn e (x ^^^ y) = (cn e x ^^ cn e y) := by
  rw [cn_bt _ e he, cn_bt _ e he, cn_bt _ e he, b_xor]
def sn (H n : Nat) : Int := if n < H then (n : Int) else (n : Int) - (2 * H : Nat)
theorem sg_sn (n : Nat) : ∀ e, e < 3 → sg e n = sn (Nn e / 2) n := by
  refine e3 ?_ ?_ ?_ <;> rfl
theorem v_add {H A B m R : Nat} (hm : m < 2) (hA : A < 2 * H) (hB : B < 2 * H) (hR : R < 2 * H) (h : R = A + B + m ∨ R + 2 * H = A + B + m) : ((decide (H ≤ A) ^^ decide (H ≤ R)) && (decide (H ≤ B) ^^ decide (H ≤ R))) = !decide (sn H A + sn H B + m = sn H R) := by
  unfold sn
  by_cases a : H ≤ A <;> by_cases b : H ≤ B <;> by_cases r : H ≤ R <;> simp only [a, b, r, decide_true, decide_false, Bool.xor_self, Bool.false_and, Bool.and_false, Bool.true_xor, Bool.xor_true, Bool.xor_false, Bool.false_xor, Bool.not_true, Bool.not_false, Bool.and_self]
  all_goals (symm; simp only [Bool.not_eq_true', Bool.not_eq_false', decide_eq_false_iff_not, decide_eq_true_eq]; split <;> split <;> split <;> omega)
theorem v_sub {H A B m R : Nat} (hm : m < 2) (hA : A < 2 * H) (hB : B < 2 * H) (hR : R < 2 * H) (h : R + B + m = A ∨ R + B + m = A + 2 * H) : ((decide (H ≤ A) ^^ decide (H ≤ B)) && (decide (H ≤ A) ^^ decide (H ≤ R))) = !decide (sn H A - sn H B - m = sn H R) := by
  unfold sn
  by_cases a : H ≤ A <;> by_cases b : H ≤ B <;> by_cases r : H ≤ R <;> simp only [a, b, r, decide_true, decide_false, Bool.xor_self, Bool.false_and, Bool.and_false, Bool.true_xor, Bool.xor_true, Bool.xor_false, Bool.false_xor, Bool.not_true, Bool.not_false, Bool.and_self]
  all_goals (symm; simp only [Bool.not_eq_true', Bool.not_eq_false', decide_eq_false_iff_not, decide_eq_true_eq]; split <;> split <;> split <;> omega)
theorem N2 : ∀ e, e < 3 → 2 * (Nn e / 2) = Nn e := by decide
theorem tN_or {e a b m : Nat} (ha : a < Nn e) (hb : b < Nn e) (hm : m < 2) : (tN e a b m = a + b + m ∧ a + b + m < Nn e) ∨ (tN e a b m + Nn e = a + b + m ∧ Nn e ≤ a + b + m) := by
  unfold tN
  rcases Nat.lt_or_ge (a + b + m) (Nn e) with h | h
  · exact Or.inl ⟨Nat.mod_eq_of_lt h, h⟩
  · refine Or.inr ⟨?_, h⟩
    rw [Nat.mod_eq_sub_mod h, Nat.mod_eq_of_lt (by omega)]; omega
theorem dN_or {e a b m : Nat} (ha : a < Nn e) (hb : b < Nn e) (hm : m < 2) : (dN e a b m + (b + m) = a ∧ b + m ≤ a) ∨ (dN e a b m + (b + m) = a + Nn e ∧ a < b + m) := by
  unfold dN
  rcases Nat.lt_or_ge a (b + m) with h | h
  · refine Or.inr ⟨?_, h⟩
    rw [Nat.mod_eq_of_lt (by omega)]; omega
  · refine Or.inl ⟨?_, h⟩
    rw [Nat.mod_eq_sub_mod (by omega), Nat.mod_eq_of_lt (by omega)]; omega
def aV (e a b m : Nat) : Bool := !decide (sg e a + sg e b + m = sg e (tN e a b m))
def aC (e a b m : Nat) : Bool := decide (Nn e ≤ a + b + m)
def dV (e a b m : Nat) : Bool := !decide (sg e a - sg e b - m = sg e (dN e a b m))
def dC (a b m : Nat) : Bool := decide (a < b + m)
theorem nI_lN {m : Nat} (h : m < 2) : (nI m).toInt64 = lN m := nI_l (by omega)
theorem u_m1 : ∀ e, e < 3 → u e (-1) = Nn e - 1 := by decide +kernel
theorem fV {α : Type} {c : Prop} [Decidable c] {f : Bool → α} {b : Bool} (h : b = !decide c) : (if c then f false else f true) = f b := by
  by_cases q : c
  · rw [if_pos q, h, decide_eq_true q]; rfl
  · rw [if_neg q, h, decide_eq_false q]; rfl
theorem fW {α : Type} {c : Prop} [Decidable c] {f : Bool → α} {b : Bool} (h : b = decide c) : (if c then f true else f false) = f b := by
  by_cases q : c
  · rw [if_pos q, h, decide_eq_true q]
  · rw [if_neg q, h, decide_eq_false q]
theorem jV {α : Type} {c : Prop} [Decidable c] {k : Bool → α} {b : Bool} (h : b = !decide c) : (jn k fun K => if c then K false else K true) = k b := fV h
theorem jW {α : Type} {c : Prop} [Decidable c] {k : Bool → α} {b : Bool} (h : b = decide c) : (jn k fun K => if c then K true else K false) = k b := fW h
theorem pX1_added (a b : Int32) (m : Nat) (hm : m < 2) (S : St) : ∀ e, e < 3 → fX1_added e a b (nI m) S = some (nI (tN e (u e a) (u e b) m), sI S 3 (f4 (S.1 3) (cn e (nI (tN e (u e a) (u e b) m))) (cz e (nI (tN e (u e a) (u e b) m))) (aV e (u e a) (u e b) m) (aC e (u e a) (u e b) m))) := by
  intro e he
  have hA := u_lt a e he
  have hB := u_lt b e he
  have hN := N32 e he
  have h2 := N2 e he
  have ht := tN_or hA hB hm
  unfold fX1_added
  rw [gd_t he, pX5_unsigned a S e he, bd_some, pX5_unsigned b S e he, bd_some]
  simp only [lt]
  rw [nI_lN hm, lN_add, lN_add, lN_i, u_and _ e he, u_nI _ e he]
  rw [show (u e a + u e b + m) % Nn e = tN e (u e a) (u e b) m from rfl]
  have hRlt : tN e (u e a) (u e b) m < Nn e := Nat.mod_lt _ (Nn_pos e he)
  have hv : aV e (u e a) (u e b) m = !decide (((a ^^^ nI (tN e (u e a) (u e b) m)) &&& (b ^^^ nI (tN e (u e a) (u e b) m))) &&& szT e = 0) := by
    show _ = cn e _
    rw [cn_and _ _ e he, cn_xor _ _ e he, cn_xor _ _ e he, cn_u a e he, cn_u b e he, cn_u _ e he, u_nI _ e he, Nat.mod_eq_of_lt hRlt]
    rw [v_add (m := m) hm (by omega) (by omega) (by omega) (by omega)]
    unfold aV
    rw [sg_sn _ e he, sg_sn _ e he, sg_sn _ e he]
  rw [jV hv]
  rw [pX5_unsigned (-1) S e he, bd_some, u_m1 e he]
  have hc : aC e (u e a) (u e b) m = !decide (lg_cmp (lN (u e a + u e b + m)) (lN (Nn e - 1)) ≤ 0) := by
    have hq : lg_cmp (lN (u e a + u e b + m)) (lN (Nn e - 1)) ≤ 0 ↔ ¬ Nn e ≤ u e a + u e b + m := by
      rw [lg_cmp_le, pk_lLE (by omega) (by omega)]
      have := Nn_pos e he
      omega
    unfold aC
    by_cases q : Nn e ≤ u e a + u e b + m
    · rw [decide_eq_true q, decide_eq_false (fun z => hq.mp z q)]; rfl
    · rw [decide_eq_false q, decide_eq_true (hq.mpr q)]; rfl
  rw [jV hc]
  rw [pX1_note _ _ _ S e he, bv_some]
theorem lN_sub' (x y : Nat) : lN x - lN y = lN x - lN y := rfl
theorem lN_ti (x : Int64) : x.toInt = if x.toBitVec.toNat < 9223372036854775808 then (x.toBitVec.toNat : Int) else (x.toBitVec.toNat : Int) - 18446744073709551616 := by
  show x.toBitVec.toInt = _
  rw [BitVec.toInt_eq_toNat_cond]
  have := x.toBitVec.isLt
  split <;> split <;> omega
theorem u_64 (w : Int64) : ∀ e, e < 3 → ((u e w.toInt32 : Nat) : Int) = w.toInt % (Nn e : Nat) := by
  have h : w.toInt32.toBitVec.toNat = w.toBitVec.toNat % 4294967296 := by
    rw [Int64.toBitVec_toInt32]
    have : BitVec.signExtend 32 w.toBitVec = BitVec.setWidth 32 w.toBitVec := BitVec.signExtend_eq_setWidth_of_le w.toBitVec (by decide)
    rw [this, BitVec.toNat_setWidth]
  have h2 := lN_ti w
  refine e3 ?_ ?_ ?_
  · show ((w.toInt32.toBitVec.toNat % 256 : Nat) : Int) = w.toInt % (256 : Nat)
    rw [h, h2]; split <;> omega
  · show ((w.toInt32.toBitVec.toNat % 65536 : Nat) : Int) = w.toInt % (65536 : Nat)
    rw [h, h2]; split <;> omega
  · show ((w.toInt32.toBitVec.toNat % 4294967296 : Nat) : Int) = w.toInt % (4294967296 : Nat)
    rw [h, h2]; split <;> omega
theorem add64 (x y : Int64) (hx : -4611686018427387904 ≤ x.toInt) (hx2 : x.toInt ≤ 4611686018427387903) (hy : -4611686018427387904 ≤ y.toInt) (hy2 : y.toInt ≤ 4611686018427387903) : (x + y).toInt = x.toInt + y.toInt := by
  rw [Int64.toInt_add, Int.bmod_def]; split <;> omega
theorem sub64 (x y : Int64) (hx : -4611686018427387904 ≤ x.toInt) (hx2 : x.toInt ≤ 4611686018427387903) (hy : -4611686018427387904 ≤ y.toInt) (hy2 : y.toInt ≤ 4611686018427387903) : (x - y).toInt = x.toInt - y.toInt := by
  rw [Int64.toInt_sub, Int.bmod_def]; split <;> omega
theorem lN_t {n : Nat} (h : n < 2 ^ 63) : (lN n).toInt = (n : Int) := pk_lT h
theorem pX1_subtracted (a b : Int32) (m : Nat) (hm : m < 2) (S : St) : ∀ e, e < 3 → fX1_subtracted e a b (nI m) S = some (nI (dN e (u e a) (u e b) m), sI S 3 (f4 (S.1 3) (cn e (nI (dN e (u e a) (u e b) m))) (cz e (nI (dN e (u e a) (u e b) m))) (dV e (u e a) (u e b) m) (dC (u e a) (u e b) m))) := by
  intro e he
  have hA := u_lt a e he
  have hB := u_lt b e he
  have hN := N32 e he
  have h2 := N2 e he
  have ht := dN_or hA hB hm
  have hRlt : dN e (u e a) (u e b) m < Nn e := Nat.mod_lt _ (Nn_pos e he)
  have hw : (lN (u e a) - lN (u e b) - lN m).toInt = (u e a : Int) - u e b - m := by
    have e1 := lN_t (n := u e a) (by omega)
    have e2 := lN_t (n := u e b) (by omega)
    have e3 := lN_t (n := m) (by omega)
    have e4 := sub64 (lN (u e a)) (lN (u e b)) (by omega) (by omega) (by omega) (by omega)
    rw [sub64 _ _ (by omega) (by omega) (by omega) (by omega)]
    omega
  have hu : u e (lN (u e a) - lN (u e b) - lN m).toInt32 = dN e (u e a) (u e b) m := by
    have h := u_64 (lN (u e a) - lN (u e b) - lN m) e he
    rw [hw] at h
    have hp := Nn_pos e he
    have h3 : ((u e a : Int) - u e b - m) % (Nn e : Nat) = (dN e (u e a) (u e b) m : Nat) := by
      rcases ht with ⟨q, -⟩ | ⟨q, -⟩
      · rw [show (u e a : Int) - u e b - m = (dN e (u e a) (u e b) m : Nat) by omega]
        exact Int.emod_eq_of_lt (by omega) (by omega)
      · rw [show (u e a : Int) - u e b - m = (dN e (u e a) (u e b) m : Nat) + (Nn e : Nat) * (-1) by omega, Int.add_mul_emod_self_left]
        exact Int.emod_eq_of_lt (by omega) (by omega)
    rw [h3] at h
    exact Int.ofNat.inj h
  unfold fX1_subtracted
  rw [gd_t he, pX5_unsigned a S e he, bd_some, pX5_unsigned b S e he, bd_some]
  simp only [lt]
  rw [nI_lN hm, u_and _ e he, hu]
  have hv : dV e (u e a) (u e b) m = !decide (((a ^^^ b) &&& (a ^^^ nI (dN e (u e a) (u e b) m))) &&& szT e = 0) := by
    show _ = cn e _
    rw [cn_and _ _ e he, cn_xor _ _ e he, cn_xor _ _ e he, cn_u a e he, cn_u b e he, cn_u _ e he, u_nI _ e he, Nat.mod_eq_of_lt hRlt]
    rw [v_sub (m := m) hm (by omega) (by omega) (by omega) (by omega)]
    unfold dV
    rw [sg_sn _ e he, sg_sn _ e he, sg_sn _ e he]
  rw [jV hv]
  have hc : dC (u e a) (u e b) m = !decide (0 ≤ lg_cmp (lN (u e a) - lN (u e b) - lN m) 0) := by
    have hq : 0 ≤ lg_cmp (lN (u e a) - lN (u e b) - lN m) 0 ↔ ¬ u e a < u e b + m := by
      rw [lg_cmp_ge, Int64.le_iff_toInt_le, hw]
      show (0 : Int) ≤ _ ↔ _
      omega
    unfold dC
    by_cases q : u e a < u e b + m
    · rw [decide_eq_true q, decide_eq_false (fun z => hq.mp z q)]; rfl
    · rw [decide_eq_false q, decide_eq_true (hq.mpr q)]; rfl
  rw [jV hc]
  rw [pX1_note _ _ _ S e he, bv_some]
