/-! ===== the words behind an instruction ===== -/
theorem and1_v (x : Int32) : x &&& 1 = nI (x.toBitVec.toNat % 2) := pk_and x (m := 1) 1 (by decide)
theorem ev_add (x : Int32) (p : Nat) (hp : p < 4096) (h2 : p % 2 = 0) : (x + nI p) &&& 1 = x &&& 1 := by
  rw [and1_v, and1_v, Int32.toBitVec_add, BitVec.toNat_add, pk_tn (n := p) (by omega)]
  congr 1
  omega
theorem ldB_k (c : Nat → Int32) (a : Int32) : ∃ k, k < 65536 ∧ ldB c a 1 = nI k := by
  have h := ldB_mask c a 1 (by decide)
  obtain ⟨j, hj, he⟩ := pk_andE (ldB c a 1) (m := 65535) 16 (by decide)
  exact ⟨j, hj, by rw [← h]; exact he⟩
theorem ld_byte (c : Nat → Int32) (a : Int32) : ldB c a 1 &&& 255 = ldB c (a + 1) 0 := by
  unfold ldB
  show (((((0 : Int32) <<< ((8 : Int32) &&& 31)) ||| (c (a12 (a + 0)) &&& 255)) <<< ((8 : Int32) &&& 31)) ||| (c (a12 (a + 1)) &&& 255)) &&& 255 = ((0 : Int32) <<< ((8 : Int32) &&& 31)) ||| (c (a12 (a + 1 + 0)) &&& 255)
  rw [or_l0, or_l0, Int32.add_zero, Int32.add_zero]
  apply b_ext
  intro i hi
  rw [b_and, b_or, b_shl8 _ hi, b_255]
  by_cases h : i < 8
  · have h2 : ¬ 8 ≤ i := by omega
    simp [h, h2]
  · simp only [h, decide_false, Bool.and_false]
    rw [b_and, b_255]; simp [h]
theorem ld_long (c : Nat → Int32) (a : Int32) : ldB c a 2 = (ldB c a 1 <<< ((16 : Int32) &&& 31)) ||| ldB c (a + 2) 1 := by
  unfold ldB
  show ((((((((0 : Int32) <<< ((8 : Int32) &&& 31)) ||| (c (a12 (a + 0)) &&& 255)) <<< ((8 : Int32) &&& 31)) ||| (c (a12 (a + 1)) &&& 255)) <<< ((8 : Int32) &&& 31)) ||| (c (a12 (a + 2)) &&& 255)) <<< ((8 : Int32) &&& 31)) ||| (c (a12 (a + 3)) &&& 255) = ((((((0 : Int32) <<< ((8 : Int32) &&& 31)) ||| (c (a12 (a + 0)) &&& 255)) <<< ((8 : Int32) &&& 31)) ||| (c (a12 (a + 1)) &&& 255)) <<< ((16 : Int32) &&& 31)) ||| (((((0 : Int32) <<< ((8 : Int32) &&& 31)) ||| (c (a12 (a + 2 + 0)) &&& 255)) <<< ((8 : Int32) &&& 31)) ||| (c (a12 (a + 2 + 1)) &&& 255))
  rw [or_l0, or_l0, Int32.add_zero, Int32.add_zero, Int32.add_assoc, show (2 + 1 : Int32) = 3 from rfl]
  generalize c (a12 a) &&& 255 = g0
  generalize c (a12 (a + 1)) &&& 255 = g1
  generalize c (a12 (a + 2)) &&& 255 = g2
  generalize c (a12 (a + 3)) &&& 255 = g3
  apply b_ext
  intro i hi
  have h8 : i - 8 < 32 := by omega
  have h16 : i - 16 < 32 := by omega
  have h88 : i - 8 - 8 < 32 := by omega
  have e1 : i - 8 - 8 = i - 16 := by omega
  simp only [b_or, b_shl8 _ hi, b_shl16 _ hi, b_shl8 _ h8, b_shl8 _ h88, b_shl8 _ h16, e1]
  by_cases h1 : 8 ≤ i
  · by_cases h2 : 16 ≤ i
    · have h3 : 8 ≤ i - 8 := by omega
      simp only [h1, h2, h3, decide_true, Bool.true_and, Bool.or_assoc]
    · have h3 : ¬ 8 ≤ i - 8 := by omega
      simp [h1, h2, h3]
  · have h2 : ¬ 16 ≤ i := by omega
    simp [h1, h2]
section LOC1
variable {c0 : CB} {d0 : CM} {m0 : Nat → Int32} {B M : St}
theorem Ok.tmp (h : Ok c0 d0 B M) (s : Int32) (k : Nat) (hk : k < 8) : Ok c0 d0 B (sI (sI M 13 (nI k)) 12 s) := by
  obtain ⟨h1, h2, h3, h4, h5, h6, h6', h7, h8, h9, h10, h11, h12, h13⟩ := h
  exact ⟨h1, h2, h3, h4, h5, h6, h6', h7, h8, h9, fun _ => ⟨k, hk, rfl⟩, h11, h12, h13⟩
theorem Ok.adr (h : Ok c0 d0 B M) (v : Int32) : Ok c0 d0 B (sI M 14 v) := h
theorem Ok.num (h : Ok c0 d0 B M) (hs : M.1 12 = 3) (v : Int32) : Ok c0 d0 B (sI M 13 v) := by
  obtain ⟨h1, h2, h3, h4, h5, h6, h6', h7, h8, h9, h10, h11, h12, h13⟩ := h
  refine ⟨h1, h2, h3, h4, h5, h6, h6', h7, h8, h9, fun q => ?_, h11, h12, h13⟩
  have q : M.1 12 = 0 ∨ M.1 12 = 1 := q
  rw [hs] at q
  rcases q with q | q <;> exact absurd q (by decide)
theorem Fr.any (hf : Fr m0 B M) (k : Nat) (v : Int32) (hk : k ≠ 11) : Fr m0 B (sI M k v) := ⟨hf.1, by rw [sI_ne _ _ (Ne.symm hk)]; exact hf.2.1, hf.2.2⟩
theorem Fr.A (hf : Fr m0 B M) (k : Nat) (v : Int32) (M' : St) (h : M'.1 11 = M.1 11) : Fr m0 (sA B 1 k v) M' := ⟨hf.1, by rw [h]; exact hf.2.1, hf.2.2⟩
theorem Fr.pc (hf : Fr m0 B M) (p : Nat) (hp : p < 4096) (h2 : p % 2 = 0) : Fr m0 (sI B 2 (B.1 2 + nI p)) (sI M 1 (B.1 2 + nI p)) := ⟨hf.1, hf.2.1, (ev_add (B.1 2) p hp h2).trans hf.2.2.1, hf.2.2.2⟩
theorem mA'_1 (M : St) (k : Nat) (v : Int32) : (mA' M k v).1 = M.1 := by
  unfold mA'
  split
  · split <;> rfl
  · rfl
theorem ext_ok (h : Ok c0 d0 B M) (hf : Fr m0 B M) : fX7_extension M = some (ldB m0 (B.1 2) 1, sI M 1 (B.1 2 + 2)) := by
  unfold fX7_extension
  have ho : od 1 (M.1 1) = false := by
    rw [h.2.2.1]; unfold od; rw [decide_eq_true hf.2.2.1]; rfl
  rw [show (2 : Int32) = szB 1 from rfl, pX7_get0 _ M h.2.2.2.2.2.2.2.1 1 (by decide), ho, if_neg (by decide), if_neg (by decide), bd_some, lt_d, h.2.2.1, memL h.1, hf.1]; rfl
theorem nw_ok (hf : Fr m0 B M) : fX0_nextWord B = some (ldB m0 (B.1 2) 1, sI B 2 (B.1 2 + 2)) := by rw [pX0_nextWord, hf.1]
theorem nl_ok (hf : Fr m0 B M) : fX0_nextLong B = some (ldB m0 (B.1 2) 2, sI B 2 (B.1 2 + 4)) := by rw [pX0_nextLong, hf.1]
/-- an extension word, in step -/
theorem sim_ext (h : Ok c0 d0 B M) (hf : Fr m0 B M) : fX0_nextWord B = some (ldB m0 (B.1 2) 1, sI B 2 (B.1 2 + 2)) ∧ fX7_extension M = some (ldB m0 (B.1 2) 1, sI M 1 (B.1 2 + 2)) ∧ Ok c0 d0 (sI B 2 (B.1 2 + 2)) (sI M 1 (B.1 2 + 2)) ∧ Fr m0 (sI B 2 (B.1 2 + 2)) (sI M 1 (B.1 2 + 2)) :=
  ⟨nw_ok hf, ext_ok h hf, h.pc _, hf.pc 2 (by decide) (by decide)⟩
def imm (m0 : Nat → Int32) (a : Int32) (e : Nat) : Int32 := if e = 0 then ldB m0 a 1 &&& 255 else ldB m0 a e
def il (e : Nat) : Int32 := if e = 2 then 4 else 2
theorem imm_0 (m0 : Nat → Int32) (a : Int32) : imm m0 a 0 = ldB m0 a 1 &&& 255 := if_pos rfl
theorem imm_1 (m0 : Nat → Int32) (a : Int32) : imm m0 a 1 = ldB m0 a 1 := if_neg (by decide)
theorem imm_2 (m0 : Nat → Int32) (a : Int32) : imm m0 a 2 = ldB m0 a 2 := if_neg (by decide)
theorem szM0 : szM 0 = 255 := rfl
theorem il_0 : il 0 = 2 := rfl
theorem il_1 : il 1 = 2 := rfl
theorem il_2 : il 2 = nI 4 := rfl
theorem n4 : (4 : Int32) = nI 4 := rfl
theorem n22 : (2 : Int32) + 2 = nI 4 := rfl
theorem sim_imm (h : Ok c0 d0 B M) (hf : Fr m0 B M) : ∀ e, e < 3 → fX0_immediate e B = some (imm m0 (B.1 2) e, sI B 2 (B.1 2 + il e)) ∧ fX7_immediate (szB e) M = some (imm m0 (B.1 2) e, sI M 1 (B.1 2 + il e)) ∧ Ok c0 d0 (sI B 2 (B.1 2 + il e)) (sI M 1 (B.1 2 + il e)) ∧ Fr m0 (sI B 2 (B.1 2 + il e)) (sI M 1 (B.1 2 + il e)) := by
  obtain ⟨a1, a2, a3, a4⟩ := sim_ext h hf
  refine e3 ?_ ?_ ?_
  · rw [il_0, imm_0]
    refine ⟨?_, ?_, a3, a4⟩
    · unfold fX0_immediate
      rw [gd_t (by decide), if_neg (by decide), a1, bd_some, szM0]
    · unfold fX7_immediate
      rw [a2, bd_some, jn_d, szB0, if_neg (by decide)]
      dsimp only
      rw [if_pos rfl]
  · rw [il_1, imm_1]
    refine ⟨?_, ?_, a3, a4⟩
    · unfold fX0_immediate
      rw [gd_t (by decide), if_neg (by decide), a1, bd_some, ldB_mask m0 _ 1 (by decide)]
    · unfold fX7_immediate
      rw [a2, bd_some, jn_d, szB1, if_neg (by decide)]
      dsimp only
      rw [if_neg (by decide)]
  · rw [il_2, imm_2]
    refine ⟨?_, ?_, h.pc _, hf.pc 4 (by decide) (by decide)⟩
    · unfold fX0_immediate
      rw [gd_t (by decide), if_pos rfl, nl_ok hf, bd_some, n4]
    · unfold fX7_immediate
      rw [a2, bd_some, jn_d, szB2, if_pos rfl, ext_ok a3 a4, bd_some, lt_d]
      dsimp only
      rw [if_neg (by decide), sI_at, sI_I, ← ld_long, Int32.add_assoc, n22]
theorem r4_ush {k : Nat} (hk : k < 65536) : r4 (ush (nI k) 12) = k / 4096 := by
  have h : ush (nI k) 12 = nI (k / 2 ^ 12) := pk_ushrN (by omega) 12 12 (by decide)
  rw [h, r4_n _ (by omega)]
theorem shr_12 {k : Nat} (hk : k < 65536) : (nI k >>> ((12 : Int32) &&& 31)) &&& 7 = nI (k / 4096 % 8) := by
  rw [pk_shrN (by omega) ((12 : Int32) &&& 31) 12 (by decide), pk_andN (by omega) (m := 7) 3 (by decide)]
theorem b15 {k : Nat} (hk : k < 65536) : nI k &&& 32768 = 0 ↔ k / 4096 < 8 := by
  have h := top_u (nI k) 1 (by decide)
  rw [u_nI k 1 (by decide)] at h
  have h : nI k &&& 32768 = 0 ↔ k % 65536 < 32768 := h
  rw [h]; omega
/-- indexed, in step -/
theorem sim_indexed (h : Ok c0 d0 B M) (hf : Fr m0 B M) (base : Int32) : ∃ r, (bd (fX0_nextWord B) fun r7 S15 => fX0_indexed base r7 S15) = some (r, sI B 2 (B.1 2 + 2)) ∧ fX7_indexed base M = some (r, sI M 1 (B.1 2 + 2)) := by
  obtain ⟨a1, a2, a3, a4⟩ := sim_ext h hf
  obtain ⟨k, hk, hw⟩ := ldB_k m0 (B.1 2)
  rw [a1, bd_some]
  unfold fX0_indexed fX7_indexed
  rw [a2, bd_some, pX4_get, bd_some, lt_d, hw, r4_ush hk, shr_12 hk, jn_d]
  show ∃ r, (if nI k &&& 2048 = 0 then some ((base + (nI k).toInt8.toInt32) + (B.2.2 1 (k / 4096)).toInt16.toInt32, _) else some ((base + (nI k).toInt8.toInt32) + B.2.2 1 (k / 4096), _)) = _ ∧ _
  have fin : ∀ v2 : Int32, v2 = B.2.2 1 (k / 4096) → ∃ r, (if nI k &&& 2048 = 0 then some ((base + (nI k).toInt8.toInt32) + (B.2.2 1 (k / 4096)).toInt16.toInt32, sI B 2 (B.1 2 + 2)) else some ((base + (nI k).toInt8.toInt32) + B.2.2 1 (k / 4096), sI B 2 (B.1 2 + 2))) = some (r, sI B 2 (B.1 2 + 2)) ∧ (jn (fun (v3 : Int32) => (some (((base + ((nI k).toInt8.toInt32)) + v3), sI M 1 (B.1 2 + 2)))) fun K2 => (if (nI k &&& 2048) = 0 then (K2 (v2.toInt16.toInt32)) else (K2 v2))) = some (r, sI M 1 (B.1 2 + 2)) := by
    intro v2 hv
    rw [hv, jn_d]
    by_cases q : nI k &&& 2048 = 0
    · rw [if_pos q, if_pos q]; exact ⟨_, rfl, rfl⟩
    · rw [if_neg q, if_neg q]; exact ⟨_, rfl, rfl⟩
  by_cases q : nI k &&& 32768 = 0
  · have hq := (b15 hk).mp q
    rw [if_pos q, gd_t (ixo_of (nI_pos (by omega)) (by rw [nI_clamp (by omega)]; omega)), nI_clamp (by omega)]
    exact fin _ (by rw [show k / 4096 % 8 = k / 4096 by omega]; exact a3.gD _ hq)
  · have hq : ¬ k / 4096 < 8 := fun z => q ((b15 hk).mpr z)
    rw [if_neg q, a3.gA (k / 4096 % 8) (by omega), bd_some]
    exact fin _ (by show B.2.2 1 (8 + k / 4096 % 8) = _; rw [show 8 + k / 4096 % 8 = k / 4096 by omega])
end LOC1
