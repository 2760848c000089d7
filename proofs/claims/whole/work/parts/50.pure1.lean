/-! rows on bits, shifts and unsigned numbers, to paste: each family out of a closed proof of our own, whole with what it rests on; each by itself clean at Lean in its own claim (generation 39, form 5). Take a family whole -/
/-! ===== Int32 by its bits: bt x i ===== -/
def bt (x : Int32) (i : Nat) : Bool := x.toBitVec.getLsbD i
theorem b_ext {x y : Int32} (h : ∀ i, i < 32 → bt x i = bt y i) : x = y := Int32.toBitVec_inj.mp (BitVec.eq_of_getLsbD_eq (fun i hi => h i hi))
theorem b_or (x y : Int32) (i : Nat) : bt (x ||| y) i = (bt x i || bt y i) := by unfold bt; rw [Int32.toBitVec_or, BitVec.getLsbD_or]
theorem b_and (x y : Int32) (i : Nat) : bt (x &&& y) i = (bt x i && bt y i) := by unfold bt; rw [Int32.toBitVec_and, BitVec.getLsbD_and]
theorem b_xor (x y : Int32) (i : Nat) : bt (x ^^^ y) i = (bt x i ^^ bt y i) := by unfold bt; rw [Int32.toBitVec_xor, BitVec.getLsbD_xor]
theorem b_big {x : Int32} {i : Nat} (h : 32 ≤ i) : bt x i = false := BitVec.getLsbD_of_ge _ _ h
theorem b_255 (i : Nat) : bt 255 i = decide (i < 8) := by
  rcases Nat.lt_or_ge i 32 with h | h
  · exact (by decide +kernel : ∀ i, i < 32 → bt 255 i = decide (i < 8)) i h
  · rw [b_big h, decide_eq_false (by omega)]
theorem b_65535 (i : Nat) : bt 65535 i = decide (i < 16) := by
  rcases Nat.lt_or_ge i 32 with h | h
  · exact (by decide +kernel : ∀ i, i < 32 → bt 65535 i = decide (i < 16)) i h
  · rw [b_big h, decide_eq_false (by omega)]
theorem b_m1 : ∀ i, i < 32 → bt (-1) i = true := by decide +kernel
theorem b_0 (i : Nat) : bt 0 i = false := BitVec.getLsbD_zero
theorem s_l : ∀ n, n < 32 → ((nI n &&& 31).toBitVec.smod 32).toNat = n := by decide +kernel
theorem s_u : ∀ n, n < 32 → (((nI n).toUInt32 &&& Int32.toUInt32 31).toBitVec % 32).toNat = n := by decide +kernel
theorem b_shl (n : Nat) (hn : n < 32) (x : Int32) {i : Nat} (hi : i < 32) : bt (x <<< (nI n &&& 31)) i = (decide (n ≤ i) && bt x (i - n)) := by
  unfold bt
  rw [Int32.toBitVec_shiftLeft]
  show (x.toBitVec <<< ((nI n &&& 31).toBitVec.smod 32).toNat).getLsbD i = _
  rw [s_l n hn, BitVec.getLsbD_shiftLeft]
  rcases Nat.lt_or_ge i n with h | h
  · simp [h, Nat.not_le.mpr h]
  · simp [hi, h, Nat.not_lt.mpr h]
theorem b_ushr (n : Nat) (hn : n < 32) (x : Int32) (i : Nat) : bt ((x.toUInt32 >>> ((nI n).toUInt32 &&& Int32.toUInt32 31)).toInt32) i = bt x (n + i) := by
  show (x.toUInt32 >>> ((nI n).toUInt32 &&& Int32.toUInt32 31)).toBitVec.getLsbD i = x.toUInt32.toBitVec.getLsbD (n + i)
  rw [UInt32.toBitVec_shiftRight]
  show (x.toUInt32.toBitVec >>> (((nI n).toUInt32 &&& Int32.toUInt32 31).toBitVec % 32).toNat).getLsbD i = _
  rw [s_u n hn, BitVec.getLsbD_ushiftRight]
theorem b_sshr (n : Nat) (hn : n < 32) (x : Int32) {i : Nat} (hi : i < 32) : bt (x >>> (nI n &&& 31)) i = if n + i < 32 then bt x (n + i) else bt x 31 := by
  unfold bt
  rw [Int32.toBitVec_shiftRight]
  show (x.toBitVec.sshiftRight ((nI n &&& 31).toBitVec.smod 32).toNat).getLsbD i = _
  rw [s_l n hn, BitVec.getLsbD_sshiftRight, BitVec.msb_eq_getLsbD_last]
  simp [hi]
theorem b_shl8 (x : Int32) {i : Nat} (hi : i < 32) : bt (x <<< ((8 : Int32) &&& 31)) i = (decide (8 ≤ i) && bt x (i - 8)) := b_shl 8 (by omega) x hi
theorem b_shl16 (x : Int32) {i : Nat} (hi : i < 32) : bt (x <<< ((16 : Int32) &&& 31)) i = (decide (16 ≤ i) && bt x (i - 16)) := b_shl 16 (by omega) x hi
theorem b_shl24 (x : Int32) {i : Nat} (hi : i < 32) : bt (x <<< ((24 : Int32) &&& 31)) i = (decide (24 ≤ i) && bt x (i - 24)) := b_shl 24 (by omega) x hi
theorem b_sshr8 (x : Int32) {i : Nat} (hi : i < 32) : bt (x >>> ((8 : Int32) &&& 31)) i = if 8 + i < 32 then bt x (8 + i) else bt x 31 := b_sshr 8 (by omega) x hi
/-! ===== a byte read unsigned ===== -/
theorem bp_b (x : Int32) : x.toInt8.toInt32 &&& 255 = x &&& 255 := by
  apply Int32.toBitVec_inj.mp
  rw [Int32.toBitVec_and, Int32.toBitVec_and, Int8.toBitVec_toInt32, Int32.toBitVec_toInt8]
  apply BitVec.eq_of_getLsbD_eq
  intro i hi
  rw [BitVec.getLsbD_and, BitVec.getLsbD_and]
  have hm : ∀ i < 32, 8 ≤ i → (255 : Int32).toBitVec.getLsbD i = false := by decide
  rcases Nat.lt_or_ge i 8 with z | z
  · rw [BitVec.getLsbD_signExtend, BitVec.getLsbD_signExtend, if_pos z, if_pos hi]
    simp only [z, hi, decide_true, Bool.true_and]
  · rw [hm i hi z]; simp
/-! ===== pure: the printed functions in closed form ===== -/
theorem bd_some {α β : Type} {r : α} {S : St} {f : α → St → Option β} : bd (some (r, S)) f = f r S := rfl
theorem bv_some {β : Type} {S : St} {f : St → Option β} : bv (some S) f = f S := rfl
theorem gd_t {β : Type} {p : Prop} [Decidable p] {x : Option β} (h : p) : gd p x = x := by unfold gd; rw [if_pos h]
theorem lt_d {α β : Type} (x : α) (f : α → β) : lt x f = f x := rfl
theorem jn_d {κ γ : Type} (k : κ) (x : κ → γ) : jn k x = x k := rfl
/-- the place of a masked number -/
theorem mk_and (x m : Int32) (k : Nat) (hm : m.toBitVec.toNat = 2 ^ k - 1) (hk : k ≤ 30) : (x &&& m).toNatClampNeg = x.toBitVec.toNat % 2 ^ k ∧ ¬ (x &&& m) < 0 := by
  have h2 : 2 ^ k ≤ 2 ^ 30 := Nat.pow_le_pow_right (by decide) hk
  have h3 : x.toBitVec.toNat % 2 ^ k < 2 ^ k := Nat.mod_lt _ (Nat.two_pow_pos k)
  rw [pk_and x k hm]
  exact ⟨nI_clamp (by omega), nI_pos (by omega)⟩
theorem ixo_of {i : Int32} {n : Nat} (h : ¬ i < 0) (h2 : i.toNatClampNeg < n) : ixo i n = true := by
  simp [ixo, h, h2]
theorem ixo_12 (x : Int32) : ixo (x &&& 4095) 4096 = true := by
  obtain ⟨h1, h2⟩ := mk_and x 4095 12 (by decide) (by decide)
  exact ixo_of h2 (by rw [h1]; exact Nat.mod_lt _ (by decide))
theorem ixo_15 (x : Int32) : ixo (x &&& 15) 17 = true := by
  obtain ⟨h1, h2⟩ := mk_and x 15 4 (by decide) (by decide)
  exact ixo_of h2 (by rw [h1]; exact Nat.lt_of_lt_of_le (Nat.mod_lt _ (by decide)) (by decide))
theorem ixo_7 (x : Int32) : ixo (x &&& 7) 8 = true := by
  obtain ⟨h1, h2⟩ := mk_and x 7 3 (by decide) (by decide)
  exact ixo_of h2 (by rw [h1]; exact Nat.mod_lt _ (by decide))
def r4 (k : Int32) : Nat := (k &&& 15).toNatClampNeg
def a12 (k : Int32) : Nat := (k &&& 4095).toNatClampNeg
def fl (s b : Int32) (z : Bool) : Int32 := if z = true then s ||| b else s &&& (b ^^^ (-1))
def swp (v : Int32) (S : St) : St := if ((v ^^^ (S.1 3)) &&& 8192) = 0 then S else sA (sA S 1 16 (S.2.2 1 15)) 1 15 (S.2.2 1 16)
theorem pX4_get (k : Int32) (S : St) : fX4_get k S = some (S.2.2 1 (r4 k), S) := by
  unfold fX4_get; rw [gd_t (ixo_15 k)]; rfl
theorem pX4_set (k v : Int32) (S : St) : fX4_set k v S = some (sA S 1 (r4 k) v) := by
  unfold fX4_set; rw [gd_t (ixo_15 k)]; rfl
theorem pX4_has (b : Int32) (S : St) : fX4_has b S = some (!decide ((S.1 3) &&& b = 0), S) := by
  unfold fX4_has; by_cases h : (S.1 3) &&& b = 0 <;> simp [h]
theorem pX4_mark (b : Int32) (z : Bool) (S : St) : fX4_mark b z S = some (sI S 3 (fl (S.1 3) b z)) := by
  unfold fX4_mark fl; cases z <;> rfl
theorem pX4_setFlags (v : Int32) (S : St) : fX4_setFlags v S = some (sI S 3 (((S.1 3) &&& (-32 : Int32)) ||| (v &&& 31))) := rfl
theorem pX4_setStatus (v : Int32) (S : St) : fX4_setStatus v S = some (sI (swp v S) 3 (v &&& 42783)) := by
  unfold fX4_setStatus swp
  by_cases h : ((v ^^^ (S.1 3)) &&& 8192) = 0
  · simp only [jn, lt, if_pos h]
  · simp only [jn, lt, if_neg h]; rfl
theorem pX4_stackOf (v : Int32) (S : St) : fX4_stackOf v S = some (if ((S.1 3) &&& 8192) = v then S.2.2 1 15 else S.2.2 1 16, S) := by
  unfold fX4_stackOf; by_cases h : ((S.1 3) &&& 8192) = v
  · rw [if_pos h, if_pos h]; rfl
  · rw [if_neg h, if_neg h]; rfl
theorem pX4_setStackOf (v x : Int32) (S : St) : fX4_setStackOf v x S = some (if ((S.1 3) &&& 8192) = v then sA S 1 15 x else sA S 1 16 x) := by
  unfold fX4_setStackOf; by_cases h : ((S.1 3) &&& 8192) = v
  · rw [if_pos h, if_pos h]; rfl
  · rw [if_neg h, if_neg h]; rfl
/-- bytes to a number, the highest first -/
def ldg (g : Int32 → Int32) (e : Nat) : Int32 :=
  if e = 0 then ((0 : Int32) <<< ((8 : Int32) &&& 31)) ||| g 0
  else if e = 1 then ((((0 : Int32) <<< ((8 : Int32) &&& 31)) ||| g 0) <<< ((8 : Int32) &&& 31)) ||| g 1
  else ((((((((0 : Int32) <<< ((8 : Int32) &&& 31)) ||| g 0) <<< ((8 : Int32) &&& 31)) ||| g 1) <<< ((8 : Int32) &&& 31)) ||| g 2) <<< ((8 : Int32) &&& 31)) ||| g 3
theorem szB0 : szB 0 = 1 := rfl
theorem szB1 : szB 1 = 2 := rfl
theorem szB2 : szB 2 = 4 := rfl
theorem e3 {P : Nat → Prop} (h0 : P 0) (h1 : P 1) (h2 : P 2) : ∀ e, e < 3 → P e := by
  intro e he
  match e, he with
  | 0, _ => exact h0
  | 1, _ => exact h1
  | 2, _ => exact h2
theorem ld_s (a n : Int32) (k : Nat) (i v : Int32) (S : St) (h : ¬ n ≤ i) : fX3_load_l1 a n (k + 1) i v S = fX3_load_l1 a n k (i + 1) ((v <<< ((8 : Int32) &&& 31)) ||| ((S.2.2 0 (a12 (a + i))) &&& 255)) S := by
  show fX3_load_b1 a n (fX3_load_l1 a n k) i v S = _
  unfold fX3_load_b1
  rw [if_neg h, gd_t (ixo_12 _)]; rfl
theorem ld_e (a n : Int32) (k : Nat) (i v : Int32) (S : St) (h : n ≤ i) : fX3_load_l1 a n (k + 1) i v S = some (v, S) := by
  show fX3_load_b1 a n (fX3_load_l1 a n k) i v S = _
  unfold fX3_load_b1
  rw [if_pos h]
theorem pX3_load (a : Int32) (S : St) : ∀ e, e < 3 → fX3_load a (szB e) S = some (ldg (fun i => (S.2.2 0 (a12 (a + i))) &&& 255) e, S) := by
  refine e3 ?_ ?_ ?_
  · unfold fX3_load
    rw [szB0, ld_s _ _ _ _ _ _ (by decide), ld_e _ _ _ _ _ _ (by decide)]; rfl
  · unfold fX3_load
    rw [szB1, ld_s _ _ _ _ _ _ (by decide), ld_s _ _ _ _ _ _ (by decide), ld_e _ _ _ _ _ _ (by decide)]; rfl
  · unfold fX3_load
    rw [szB2, ld_s _ _ _ _ _ _ (by decide), ld_s _ _ _ _ _ _ (by decide), ld_s _ _ _ _ _ _ (by decide), ld_s _ _ _ _ _ _ (by decide), ld_e _ _ _ _ _ _ (by decide)]; rfl
theorem mfetch_s (a n : Int32) (k : Nat) (i v : Int32) (S : St) (h : ¬ n ≤ i) : fX7_fetch_l1 a n (k + 1) i v S = fX7_fetch_l1 a n k (i + 1) ((v <<< ((8 : Int32) &&& 31)) ||| (S.2.2 0 (a12 (a + i)))) S := by
  show fX7_fetch_b1 a n (fX7_fetch_l1 a n k) i v S = _
  unfold fX7_fetch_b1 fX7_byteAt
  rw [if_neg h, gd_t (ixo_12 _)]; rfl
theorem mfetch_e (a n : Int32) (k : Nat) (i v : Int32) (S : St) (h : n ≤ i) : fX7_fetch_l1 a n (k + 1) i v S = some (v, S) := by
  show fX7_fetch_b1 a n (fX7_fetch_l1 a n k) i v S = _
  unfold fX7_fetch_b1
  rw [if_pos h]
theorem pX7_fetch (a : Int32) (S : St) : ∀ e, e < 3 → fX7_fetch a (szB e) S = some (ldg (fun i => S.2.2 0 (a12 (a + i))) e, S) := by
  refine e3 ?_ ?_ ?_
  · unfold fX7_fetch
    rw [szB0, mfetch_s _ _ _ _ _ _ (by decide), mfetch_e _ _ _ _ _ _ (by decide)]; rfl
  · unfold fX7_fetch
    rw [szB1, mfetch_s _ _ _ _ _ _ (by decide), mfetch_s _ _ _ _ _ _ (by decide), mfetch_e _ _ _ _ _ _ (by decide)]; rfl
  · unfold fX7_fetch
    rw [szB2, mfetch_s _ _ _ _ _ _ (by decide), mfetch_s _ _ _ _ _ _ (by decide), mfetch_s _ _ _ _ _ _ (by decide), mfetch_s _ _ _ _ _ _ (by decide), mfetch_e _ _ _ _ _ _ (by decide)]; rfl
