/-! ===== numbers of a size ===== -/
def Nn (e : Nat) : Nat := if e = 0 then 256 else if e = 1 then 65536 else 4294967296
def u (e : Nat) (v : Int32) : Nat := v.toBitVec.toNat % Nn e
def sg (e n : Nat) : Int := if n < Nn e / 2 then (n : Int) else (n : Int) - Nn e
theorem nI_tn (v : Int32) : nI v.toBitVec.toNat = v := by
  apply Int32.toBitVec_inj.mp
  apply BitVec.eq_of_toNat_eq
  rw [pk_tn v.toBitVec.isLt]
theorem Nn_pos : ∀ e, e < 3 → 0 < Nn e := by decide
theorem u_lt (v : Int32) : ∀ e, e < 3 → u e v < Nn e := fun e he => Nat.mod_lt _ (Nn_pos e he)
theorem u_and (v : Int32) : ∀ e, e < 3 → v &&& szM e = nI (u e v) := by
  refine e3 ?_ ?_ ?_
  · exact pk_and v (m := 255) 8 (by decide)
  · exact pk_and v (m := 65535) 16 (by decide)
  · show v &&& (-1 : Int32) = nI (v.toBitVec.toNat % 4294967296)
    rw [and_m1, Nat.mod_eq_of_lt v.toBitVec.isLt, nI_tn]
theorem bt_tn (v : Int32) (i : Nat) : v.toBitVec.toNat.testBit i = bt v i := rfl
theorem m64 (v : Int32) (m : Int64) (k : Nat) (hk : k ≤ 32) (hm : ∀ i, i < 64 → m.toBitVec.getLsbD i = decide (i < k)) : v.toInt64 &&& m = lN (v.toBitVec.toNat % 2 ^ k) := by
  apply Int64.toBitVec_inj.mp
  apply BitVec.eq_of_getLsbD_eq
  intro i hi
  rw [Int64.toBitVec_and, BitVec.getLsbD_and, hm i hi]
  show _ = (BitVec.ofNat 64 (v.toBitVec.toNat % 2 ^ k)).getLsbD i
  rw [BitVec.getLsbD_ofNat, Nat.testBit_mod_two_pow]
  by_cases h : i < k
  · rw [bt64 v i (by omega), bt_tn]; simp [h, hi]
  · simp [h]
theorem pl_N (v : Int32) : ∀ e, e < 3 → pl e v = lN (u e v) := by
  refine e3 ?_ ?_ ?_
  · exact m64 v 255 8 (by decide) (by decide +kernel)
  · exact m64 v 65535 16 (by decide) (by decide +kernel)
  · exact m64 v 4294967295 32 (by decide) (by decide +kernel)
theorem u_tn (v : Int32) : ∀ e, e < 3 → (v &&& szM e).toBitVec.toNat = u e v := by
  intro e he
  rw [u_and v e he, pk_tn]
  exact Nat.lt_of_lt_of_le (u_lt v e he) (by revert e; decide)
theorem un_N (v : Int32) : ∀ e, e < 3 → ((v &&& szM e).toInt64) &&& 4294967295 = lN (u e v) := by
  intro e he
  rw [m64 (v &&& szM e) 4294967295 32 (by decide) (by decide +kernel), u_tn v e he, Nat.mod_eq_of_lt]
  exact Nat.lt_of_lt_of_le (u_lt v e he) (by revert e; decide)
theorem pX5_unsigned (v : Int32) (S : St) : ∀ e, e < 3 → fX5_unsigned e v S = some (lN (u e v), S) := by
  intro e he
  unfold fX5_unsigned
  rw [gd_t he, un_N v e he]
theorem tI_tn (v : Int32) : v.toInt = if v.toBitVec.toNat < 2147483648 then (v.toBitVec.toNat : Int) else (v.toBitVec.toNat : Int) - 4294967296 := by
  show v.toBitVec.toInt = _
  rw [BitVec.toInt_eq_toNat_cond]
  have := v.toBitVec.isLt
  split <;> split <;> omega
theorem ext_sg (v : Int32) : ∀ e, e < 3 → (ext e v).toInt = sg e (u e v) := by
  have hv := tI_tn v
  have hl : v.toBitVec.toNat < 4294967296 := v.toBitVec.isLt
  refine e3 ?_ ?_ ?_
  · show (v.toInt8.toInt32).toInt = sg 0 (v.toBitVec.toNat % 256)
    rw [Int8.toInt_toInt32, Int32.toInt_toInt8, hv, Int.bmod_def]
    show _ = if v.toBitVec.toNat % 256 < 128 then ((v.toBitVec.toNat % 256 : Nat) : Int) else ((v.toBitVec.toNat % 256 : Nat) : Int) - 256
    split <;> split <;> split <;> omega
  · show (v.toInt16.toInt32).toInt = sg 1 (v.toBitVec.toNat % 65536)
    rw [Int16.toInt_toInt32, Int32.toInt_toInt16, hv, Int.bmod_def]
    show _ = if v.toBitVec.toNat % 65536 < 32768 then ((v.toBitVec.toNat % 65536 : Nat) : Int) else ((v.toBitVec.toNat % 65536 : Nat) : Int) - 65536
    split <;> split <;> split <;> omega
  · show v.toInt = sg 2 (v.toBitVec.toNat % 4294967296)
    rw [hv, Nat.mod_eq_of_lt hl]
    rfl
/-- the highest bit -/
theorem top_b (v : Int32) (k : Nat) (t : Int32) (hk : k < 32) (ht : ∀ i, i < 32 → bt t i = decide (i = k)) : v &&& t = 0 ↔ bt v k = false := by
  constructor
  · intro h
    have := congrArg (fun x => bt x k) h
    simp only [b_and, b_0, ht k hk, decide_true, Bool.and_true] at this
    exact this
  · intro h
    apply b_ext
    intro i hi
    rw [b_and, b_0, ht i hi]
    by_cases hi' : i = k
    · subst hi'; rw [h]; rfl
    · simp [hi']
theorem tb_div (n k : Nat) : n.testBit k = decide (n / 2 ^ k % 2 = 1) := by
  rw [Nat.testBit_eq_decide_div_mod_eq]
theorem top_u (v : Int32) : ∀ e, e < 3 → (v &&& szT e = 0 ↔ u e v < Nn e / 2) := by
  have hl : v.toBitVec.toNat < 4294967296 := v.toBitVec.isLt
  refine e3 ?_ ?_ ?_
  · rw [show szT 0 = 128 from rfl, top_b v 7 128 (by decide) (by decide +kernel), ← bt_tn, tb_div]
    show _ ↔ v.toBitVec.toNat % 256 < 128
    simp only [decide_eq_false_iff_not]
    omega
  · rw [show szT 1 = 32768 from rfl, top_b v 15 32768 (by decide) (by decide +kernel), ← bt_tn, tb_div]
    show _ ↔ v.toBitVec.toNat % 65536 < 32768
    simp only [decide_eq_false_iff_not]
    omega
  · rw [show szT 2 = -2147483648 from rfl, top_b v 31 (-2147483648) (by decide) (by decide +kernel), ← bt_tn, tb_div]
    show _ ↔ v.toBitVec.toNat % 4294967296 < 2147483648
    simp only [decide_eq_false_iff_not]
    omega
/-! ===== flags ===== -/
def f4 (sr : Int32) (n z v c : Bool) : Int32 := fl (fl (fl (fl sr 8 n) 4 z) 2 v) 1 c
def cn (e : Nat) (r : Int32) : Bool := !decide (r &&& szT e = 0)
def cz (e : Nat) (r : Int32) : Bool := decide (r &&& szM e = 0)
def i8 (n z v c : Bool) : Int32 := (((if n = true then (8 : Int32) else 0) ||| (if z = true then (4 : Int32) else 0)) ||| (if v = true then (2 : Int32) else 0)) ||| zI c
theorem note_b : ∀ (n z v c : Bool) (i : Nat), i < 32 → ∀ x : Bool, ((x && bt (-16) i) || bt (i8 n z v c) i) = (let s8 := if n = true then x || bt 8 i else x && bt (8 ^^^ (-1)) i; let s4 := if z = true then s8 || bt 4 i else s8 && bt (4 ^^^ (-1)) i; let s2 := if v = true then s4 || bt 2 i else s4 && bt (2 ^^^ (-1)) i; if c = true then s2 || bt 1 i else s2 && bt (1 ^^^ (-1)) i) := by decide +kernel
theorem bt_fl (s b : Int32) (z : Bool) (i : Nat) : bt (fl s b z) i = if z = true then bt s i || bt b i else bt s i && bt (b ^^^ (-1)) i := by
  unfold fl; cases z
  · rw [if_neg (by decide), if_neg (by decide), b_and]
  · rw [if_pos rfl, if_pos rfl, b_or]
theorem note_e (sr : Int32) (n z v c : Bool) : (sr &&& (-16 : Int32)) ||| i8 n z v c = f4 sr n z v c := by
  apply b_ext
  intro i hi
  unfold f4
  rw [b_or, b_and, bt_fl, bt_fl, bt_fl, bt_fl]
  exact note_b n z v c i hi (bt sr i)
theorem pX1_note (r : Int32) (v c : Bool) (S : St) : ∀ e, e < 3 → fX1_note e r v c S = some (sI S 3 (f4 (S.1 3) (cn e r) (cz e r) v c)) := by
  intro e he
  unfold fX1_note
  rw [gd_t he]
  simp only [jn, lt]
  unfold cn cz
  rw [← note_e]
  by_cases h1 : r &&& szT e = 0 <;> by_cases h2 : r &&& szM e = 0 <;> cases v <;> cases c <;> simp only [h1, h2, if_true, if_false, decide_true, decide_false, Bool.not_true, Bool.not_false, zI_t, zI_f, i8] <;> rfl
theorem pX1_logic (v : Int32) (S : St) : ∀ e, e < 3 → fX1_logic e v S = some (v &&& szM e, sI S 3 (f4 (S.1 3) (cn e v) (cz e v) false false)) := by
  intro e he
  unfold fX1_logic
  rw [gd_t he, pX1_note v false false S e he]; rfl
theorem lt0 (x : Int32) : x < 0 ↔ x.toInt < 0 := Int32.lt_iff_toInt_lt
theorem cn_ext (v : Int32) : ∀ e, e < 3 → decide (ext e v < 0) = cn e v := by
  intro e he
  have h1 := ext_sg v e he
  have h2 := top_u v e he
  have h3 := u_lt v e he
  unfold cn
  have h4 : (ext e v < 0) ↔ ¬ (v &&& szT e = 0) := by
    rw [lt0, h1, h2]
    unfold sg
    split <;> omega
  by_cases h : v &&& szT e = 0
  · rw [decide_eq_false (fun q => (h4.mp q) h), decide_eq_true h]; rfl
  · rw [decide_eq_true (h4.mpr h), decide_eq_false h]; rfl
theorem lN_0 {n : Nat} (h : n < 2 ^ 63) : lN n = 0 ↔ n = 0 := pk_lEQ (b := 0) h (by decide)
theorem nI_0' {n : Nat} (h : n < 2 ^ 32) : nI n = 0 ↔ n = 0 := by
  constructor
  · intro q
    have := congrArg (fun x : Int32 => x.toBitVec.toNat) q
    simp only [pk_tn h] at this
    exact this
  · intro q; rw [q]; rfl
theorem N32 : ∀ e, e < 3 → Nn e ≤ 4294967296 := by decide
theorem cz_pl (v : Int32) : ∀ e, e < 3 → (lg_cmp (pl e v) 0 = 0 ↔ v &&& szM e = 0) := by
  intro e he
  have h3 := u_lt v e he
  have h4 := N32 e he
  rw [lg_cmp_eq, pl_N v e he, u_and v e he, lN_0 (by omega), nI_0' (by omega)]
theorem sI_I (S : St) (k : Nat) (a b : Int32) : sI (sI S k a) k b = sI S k b := by
  show (upd (upd S.1 k a) k b, S.2.1, S.2.2) = (upd S.1 k b, S.2.1, S.2.2)
  have : upd (upd S.1 k a) k b = upd S.1 k b := by funext j; unfold upd; split <;> rfl
  rw [this]
theorem pX7_signs (v : Int32) (M : St) : ∀ e, e < 3 → fX7_signs v (szB e) M = some (sI M 2 (fl (fl (M.1 2) 8 (cn e v)) 4 (cz e v))) := by
  intro e he
  unfold fX7_signs
  rw [pX7_extended v M e he, bd_some]
  simp only [jn]
  have hn := cn_ext v e he
  have hz := cz_pl v e he
  have key : ∀ b1 : Bool, b1 = cn e v → (bv (fX7_flag 8 b1 M) fun S2 => (bd (fX7_plain v (szB e) S2) fun w1 S3 => (if (lg_cmp w1 0) = 0 then (bv (fX7_flag 4 true S3) fun S4 => (some S4)) else (bv (fX7_flag 4 false S3) fun S4 => (some S4))))) = some (sI M 2 (fl (fl (M.1 2) 8 (cn e v)) 4 (cz e v))) := by
    intro b1 hb
    rw [pX7_flag, bv_some, pX7_plain v _ e he, bd_some, hb]
    unfold cz
    by_cases h : v &&& szM e = 0
    · rw [if_pos (hz.mpr h), pX7_flag, bv_some, decide_eq_true h]
      show some (sI (sI M 2 _) 2 _) = _
      rw [sI_I]; rfl
    · rw [if_neg (fun q => h (hz.mp q)), pX7_flag, bv_some, decide_eq_false h]
      show some (sI (sI M 2 _) 2 _) = _
      rw [sI_I]; rfl
  by_cases h : 0 ≤ ext e v
  · rw [if_pos h]
    exact key false (by rw [← hn]; symm; exact decide_eq_false (by rw [lt0]; rw [Int32.le_iff_toInt_le] at h; have h0 : (0 : Int32).toInt = 0 := rfl; omega))
  · rw [if_neg h]
    exact key true (by rw [← hn]; symm; exact decide_eq_true (by rw [lt0]; rw [Int32.le_iff_toInt_le] at h; have h0 : (0 : Int32).toInt = 0 := rfl; omega))
theorem pX7_logic (v : Int32) (M : St) : ∀ e, e < 3 → fX7_logic v (szB e) M = some (sI M 2 (f4 (M.1 2) (cn e v) (cz e v) false false)) := by
  intro e he
  unfold fX7_logic
  rw [pX7_signs v M e he, bv_some, pX7_flag, bv_some, pX7_flag, bv_some]
  show some (sI (sI (sI M 2 _) 2 _) 2 _) = _
  rw [sI_I, sI_I]; rfl
