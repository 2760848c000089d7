/-! ===== pure: places, the reference's small functions ===== -/
def wAt (a : Int32) : Int64 := a.toInt64 &&& 4294967295
def wRg (k : Int32) : Int64 := (-1) - k.toInt64
theorem pX0_at (a : Int32) (S : St) : fX0_at a S = some (wAt a, S) := rfl
theorem pX0_inRegister (k : Int32) (S : St) : fX0_inRegister k S = some (wRg k, S) := rfl
theorem pX7_mode (S : St) : fX7_mode S = some (if ((S.1 2) &&& 8192) = 0 then 0 else 1, S) := by
  unfold fX7_mode; split <;> rfl
def mA (M : St) (k : Nat) : Int32 := if k = 7 then (if ((M.1 2) &&& 8192) = 0 then M.2.2 3 0 else M.2.2 3 1) else M.2.2 2 k
def mA' (M : St) (k : Nat) (v : Int32) : St := if k = 7 then (if ((M.1 2) &&& 8192) = 0 then sA M 3 0 v else sA M 3 1 v) else sA M 2 k v
theorem pX7_getA (M : St) : ∀ k, k < 8 → fX7_getA (nI k) M = some (mA M k, M) := by
  intro k hk
  unfold fX7_getA mA
  by_cases h : k = 7
  · subst h
    rw [if_pos (show nI 7 = 7 from rfl), if_pos rfl, pX7_mode, bd_some]
    by_cases h2 : ((M.1 2) &&& 8192) = 0
    · rw [if_pos h2, if_pos h2]; rfl
    · rw [if_neg h2, if_neg h2]; rfl
  · have h1 : ¬ nI k = 7 := fun q => h ((nI_eq (by omega) (by decide)).mp (q.trans (show (7 : Int32) = nI 7 from rfl)))
    rw [if_neg h1, if_neg h, gd_t (ixo_of (nI_pos (by omega)) (by rw [nI_clamp (by omega)]; omega)), nI_clamp (by omega)]
theorem pX7_setA (M : St) (v : Int32) : ∀ k, k < 8 → fX7_setA (nI k) v M = some (mA' M k v) := by
  intro k hk
  unfold fX7_setA mA'
  by_cases h : k = 7
  · subst h
    rw [if_pos (show nI 7 = 7 from rfl), if_pos rfl, pX7_mode, bd_some]
    by_cases h2 : ((M.1 2) &&& 8192) = 0
    · rw [if_pos h2, if_pos h2]; rfl
    · rw [if_neg h2, if_neg h2]; rfl
  · have h1 : ¬ nI k = 7 := fun q => h ((nI_eq (by omega) (by decide)).mp (q.trans (show (7 : Int32) = nI 7 from rfl)))
    rw [if_neg h1, if_neg h, gd_t (ixo_of (nI_pos (by omega)) (by rw [nI_clamp (by omega)]; omega)), nI_clamp (by omega)]; rfl
theorem pX7_has (b : Int32) (M : St) : fX7_has b M = some (!decide ((M.1 2) &&& b = 0), M) := by
  unfold fX7_has; by_cases h : (M.1 2) &&& b = 0 <;> simp [h]
theorem pX7_flag (b : Int32) (z : Bool) (M : St) : fX7_flag b z M = some (sI M 2 (fl (M.1 2) b z)) := by
  unfold fX7_flag fl; cases z <;> rfl
theorem zI_t : zI true = 1 := rfl
theorem zI_f : zI false = 0 := rfl
theorem zI_n (b : Bool) : (zI b = 0) = (b = false) := propext (zI_0 b)
/-- sizes -/
def ext (e : Nat) (v : Int32) : Int32 := if e = 0 then v.toInt8.toInt32 else if e = 1 then v.toInt16.toInt32 else v
def pl (e : Nat) (v : Int32) : Int64 := if e = 0 then v.toInt64 &&& 255 else if e = 1 then v.toInt64 &&& 65535 else v.toInt64 &&& 4294967295
def jo (e : Nat) (o v : Int32) : Int32 := if e = 0 then (o &&& (-256 : Int32)) ||| (v &&& 255) else if e = 1 then (o &&& (-65536 : Int32)) ||| (v &&& 65535) else v
theorem pX7_extended (v : Int32) (M : St) : ∀ e, e < 3 → fX7_extended v (szB e) M = some (ext e v, M) := e3 rfl rfl rfl
theorem pX7_plain (v : Int32) (M : St) : ∀ e, e < 3 → fX7_plain v (szB e) M = some (pl e v, M) := e3 rfl rfl rfl
theorem pX7_joined (o v : Int32) (M : St) : ∀ e, e < 3 → fX7_joined o v (szB e) M = some (jo e o v, M) := e3 rfl rfl rfl
theorem pX5_extend (v : Int32) (S : St) : ∀ e, e < 3 → fX5_extend e v S = some (ext e v, S) := e3 rfl rfl rfl
theorem bt64 (x : Int32) (i : Nat) (hi : i < 32) : x.toInt64.toBitVec.getLsbD i = bt x i := by
  unfold bt
  rw [Int32.toBitVec_toInt64, BitVec.getLsbD_signExtend]
  simp [hi]; omega
theorem and64 (x : Int32) (m : Int64) (k : Int32) (h : ∀ i, i < 32 → m.toBitVec.getLsbD i = bt k i) : (x.toInt64 &&& m).toInt32 = x &&& k := by
  apply b_ext
  intro i hi
  rw [b_and]
  unfold bt
  rw [Int64.toBitVec_toInt32, BitVec.getLsbD_signExtend, Int64.toBitVec_and]
  rw [if_pos (by omega), BitVec.getLsbD_and, bt64 x i hi, h i hi]
  simp only [hi, decide_true, Bool.true_and]; rfl
theorem and_m1 (x : Int32) : x &&& (-1 : Int32) = x := by
  apply b_ext; intro i hi; rw [b_and, b_m1 i hi, Bool.and_true]
theorem pl_i (v : Int32) : ∀ e, e < 3 → (pl e v).toInt32 = v &&& szM e := by
  refine e3 ?_ ?_ ?_
  · exact and64 v 255 255 (by decide +kernel)
  · exact and64 v 65535 65535 (by decide +kernel)
  · exact and64 v 4294967295 (-1) (by decide +kernel)
theorem wAt_i (a : Int32) : (wAt a).toInt32 = a := (and64 a 4294967295 (-1) (by decide +kernel)).trans (and_m1 a)
theorem and_nn (x m : Int64) (h : m.toBitVec.msb = false) : (0 : Int64) ≤ x &&& m := by
  rw [Int64.le_iff_toInt_le]
  show (0 : Int) ≤ (x &&& m).toBitVec.toInt
  rw [Int64.toBitVec_and, BitVec.toInt_eq_toNat_of_msb (by rw [BitVec.msb_and, h, Bool.and_false])]
  exact Int.natCast_nonneg _
theorem wAt_n (a : Int32) : 0 ≤ lg_cmp (wAt a) 0 := (lg_cmp_ge _ _).mpr (and_nn _ _ (by decide))
theorem wRg_n : ∀ j, j < 16 → ¬ 0 ≤ lg_cmp (wRg (nI j)) 0 := by decide +kernel
theorem wRg_i : ∀ j, j < 16 → ((-1 : Int64) - wRg (nI j)).toInt32 = nI j := by decide +kernel
theorem r4_n : ∀ j, j < 16 → r4 (nI j) = j := by decide +kernel
theorem and_and (x a b : Int32) : (x &&& a) &&& b = x &&& (a &&& b) := by
  apply b_ext; intro i hi; simp only [b_and, Bool.and_assoc]
/-- what has been read as bytes is of its size -/
theorem or_l0 (x : Int32) : ((0 : Int32) <<< ((8 : Int32) &&& 31)) ||| x = x := by
  apply b_ext; intro i hi; rw [b_or, b_shl8 _ hi]; simp [b_0]
theorem ldg_mask (g : Int32 → Int32) (hg : ∀ i, g i &&& 255 = g i) : ∀ e, e < 3 → ldg g e &&& szM e = ldg g e := by
  refine e3 ?_ ?_ ?_
  · show (((0 : Int32) <<< ((8 : Int32) &&& 31)) ||| g 0) &&& 255 = ((0 : Int32) <<< ((8 : Int32) &&& 31)) ||| g 0
    rw [or_l0, hg]
  · show (((((0 : Int32) <<< ((8 : Int32) &&& 31)) ||| g 0) <<< ((8 : Int32) &&& 31)) ||| g 1) &&& 65535 = ((((0 : Int32) <<< ((8 : Int32) &&& 31)) ||| g 0) <<< ((8 : Int32) &&& 31)) ||| g 1
    rw [or_l0]
    apply b_ext
    intro i hi
    rw [b_and, b_or, b_shl8 _ hi, b_65535]
    by_cases h : i < 16
    · simp [h]
    · have h1 : bt (g 0) (i - 8) = false := by rw [← hg 0, b_and, b_255]; simp; intro _; omega
      have h2 : bt (g 1) i = false := by rw [← hg 1, b_and, b_255]; simp; intro _; omega
      simp [h, h1, h2]
  · exact and_m1 _
theorem byte_m (x : Int32) : (x &&& 255) &&& 255 = x &&& 255 := by rw [and_and]; rfl
