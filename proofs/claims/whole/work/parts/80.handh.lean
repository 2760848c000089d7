/-! ===== a bit of an operand ===== -/
theorem b1_0 (i : Nat) (hi : i < 32) : bt 1 i = decide (i = 0) := by
  have : ∀ i, i < 32 → bt 1 i = decide (i = 0) := by decide +kernel
  exact this i hi
theorem one_b (j : Nat) (hj : j < 32) : ∀ i, i < 32 → bt ((1 : Int32) <<< (nI j &&& 31)) i = decide (i = j) := by
  intro i hi
  rw [b_shl j hj _ hi]
  by_cases q : j ≤ i
  · rw [decide_eq_true q, Bool.true_and, b1_0 _ (by omega)]
    by_cases e : i = j
    · rw [decide_eq_true e, decide_eq_true (by omega)]
    · rw [decide_eq_false e, decide_eq_false (by omega)]
  · rw [decide_eq_false q, Bool.false_and, decide_eq_false (by omega)]
theorem bitz (r : Int32) (j : Nat) (hj : j < 32) : (r &&& ((1 : Int32) <<< (nI j &&& 31)) = 0) = ((r >>> (nI j &&& 31)) &&& 1 = 0) := by
  apply propext
  rw [top_b r j _ hj (one_b j hj), top_b (r >>> (nI j &&& 31)) 0 1 (by decide) (fun i hi => b1_0 i hi), b_sshr j hj _ (by decide), if_pos (by omega), Nat.add_zero]
section HH
variable {c0 : CB} {d0 : CM} {m0 : Nat → Int32} {B M : St}
theorem le00 : ∀ s, s < 4 → (nI s ≤ 0) = (s = 0) := by
  intro s hs
  have : ∀ s, s < 4 → (nI s ≤ 0 ↔ s = 0) := by decide
  exact propext (this s hs)
theorem bit_key {k6 s e j : Nat} (he : e < 3) (h6 : k6 < 64) (h61 : k6 < 61) (hs : s < 4) (hj : j < 32) (hda : ¬ s = 0 → mf 509 k6 = false) (h : Ok c0 d0 B M) (hf : Fr m0 B M) : Hd c0 d0 m0
    (bd (fX0_locate e (nI k6) B) fun w1 S6 => (bd (fX0_load e w1 S6) fun r4 S7 => (lt (((1 : Int32) <<< (nI j &&& 31)) : Int32) fun v2 => (jn (fun (b2 : Bool) => (bv (fX4_mark 4 b2 S7) fun S8 => (bd (some (nI s, S8)) fun r5 S9 => (if r5 = 0 then (some S9)
    else (if r5 = 1 then (bv (fX0_store e w1 (r4 ^^^ v2) S9) fun S10 => (some S10))
    else (if r5 = 2 then (bv (fX0_store e w1 (r4 &&& (v2 ^^^ (-1 : Int32))) S9) fun S11 => (some S11))
    else (bv (fX0_store e w1 (r4 ||| v2) S9) fun S12 => (some S12)))))))) fun K3 =>
    (if (r4 &&& v2) = 0 then (K3 true)
    else (K3 false))))))
    (bv (fX7_operand (nI k6) (szB e) M) fun S3 => (bd (fX7_take (szB e) S3) fun r1 S4 => (jn (fun (b2 : Bool) => (bv (fX7_flag 4 b2 S4) fun S5 => (if nI s ≤ 0 then (some (true, S5))
    else (lt (((1 : Int32) <<< (nI j &&& 31)) : Int32) fun v7 => (jn (fun (v8 : Int32) => (bv (fX7_give v8 (szB e) S5) fun S6 => (some (true, S6)))) fun K6 =>
    (if nI s = 1 then (K6 (r1 ^^^ v7))
    else (if nI s = 2 then (K6 (r1 &&& (v7 ^^^ (-1 : Int32))))
    else (K6 (r1 ||| v7))))))))) fun K5 =>
    (if ((r1 >>> (nI j &&& 31)) &&& 1) = 0 then (K5 true)
    else (K5 false))))) := by
  refine Hd.rd h61 he h hf ?_ ?_
  · intro w r B1 M1 hO hF hP hS hp hr
    rw [lt_d, jn_d, jn_d]
    have fin : ∀ z : Bool, Hd c0 d0 m0 (bv (fX4_mark 4 z B1) fun S8 => (bd (some (nI s, S8)) fun r5 S9 => (if r5 = 0 then (some S9)
    else (if r5 = 1 then (bv (fX0_store e w (r ^^^ ((1 : Int32) <<< (nI j &&& 31))) S9) fun S10 => (some S10))
    else (if r5 = 2 then (bv (fX0_store e w (r &&& (((1 : Int32) <<< (nI j &&& 31)) ^^^ (-1 : Int32))) S9) fun S11 => (some S11))
    else (bv (fX0_store e w (r ||| ((1 : Int32) <<< (nI j &&& 31))) S9) fun S12 => (some S12))))))) (bv (fX7_flag 4 z M1) fun S5 => (if nI s ≤ 0 then (some (true, S5))
    else (lt (((1 : Int32) <<< (nI j &&& 31)) : Int32) fun v7 => (jn (fun (v8 : Int32) => (bv (fX7_give v8 (szB e) S5) fun S6 => (some (true, S6)))) fun K6 =>
    (if nI s = 1 then (K6 (r ^^^ v7))
    else (if nI s = 2 then (K6 (r &&& (v7 ^^^ (-1 : Int32))))
    else (K6 (r ||| v7)))))))) := by
      intro z
      have ho : fOK (B1.1 3) (fl (B1.1 3) 4 z) := (fOK.rf _).fl 4 z rfl rfl
      rw [pX4_mark, bv_some, bd_some, pX7_flag, bv_some, ok_sr hO]
      have q : s = 0 ∨ s = 1 ∨ s = 2 ∨ s = 3 := by omega
      rcases q with e0 | e0 | e0 | e0
      · rw [e0, if_pos (show nI 0 ≤ 0 by decide), if_pos (show nI 0 = 0 from rfl)]
        exact Hd.ok (hO.fl ho)
      · have hd := sort_DA _ h6 (hda (by omega))
        rw [e0, if_neg (show ¬ nI 1 ≤ 0 by decide), if_neg (show ¬ nI 1 = 0 by decide), if_pos (show nI 1 = 1 from rfl), lt_d, jn_d, if_pos (show nI 1 = 1 from rfl), q_bv]
        exact Hd.st he hO hF hP (by rw [hS]; exact hd) ho rfl
      · have hd := sort_DA _ h6 (hda (by omega))
        rw [e0, if_neg (show ¬ nI 2 ≤ 0 by decide), if_neg (show ¬ nI 2 = 0 by decide), if_neg (show ¬ nI 2 = 1 by decide), if_pos (show nI 2 = 2 from rfl), lt_d, jn_d, if_neg (show ¬ nI 2 = 1 by decide), if_pos (show nI 2 = 2 from rfl), q_bv]
        exact Hd.st he hO hF hP (by rw [hS]; exact hd) ho rfl
      · have hd := sort_DA _ h6 (hda (by omega))
        rw [e0, if_neg (show ¬ nI 3 ≤ 0 by decide), if_neg (show ¬ nI 3 = 0 by decide), if_neg (show ¬ nI 3 = 1 by decide), if_neg (show ¬ nI 3 = 2 by decide), lt_d, jn_d, if_neg (show ¬ nI 3 = 1 by decide), if_neg (show ¬ nI 3 = 2 by decide), q_bv]
        exact Hd.st he hO hF hP (by rw [hS]; exact hd) ho rfl
    by_cases z : (r &&& ((1 : Int32) <<< (nI j &&& 31))) = 0
    · have z' := z
      rw [bitz r j hj] at z'
      rw [if_pos z, if_pos z']
      exact fin true
    · have z' := z
      rw [bitz r j hj] at z'
      rw [if_neg z, if_neg z']
      exact fin false
  · intro w B1 M1 hT hp
    rw [lt_d, jn_d, jn_d]
    have fin : ∀ z z' : Bool, Hd c0 d0 m0 (bv (fX4_mark 4 z B1) fun S8 => (bd (some (nI s, S8)) fun r5 S9 => (if r5 = 0 then (some S9)
    else (if r5 = 1 then (bv (fX0_store e w (0 ^^^ ((1 : Int32) <<< (nI j &&& 31))) S9) fun S10 => (some S10))
    else (if r5 = 2 then (bv (fX0_store e w (0 &&& (((1 : Int32) <<< (nI j &&& 31)) ^^^ (-1 : Int32))) S9) fun S11 => (some S11))
    else (bv (fX0_store e w (0 ||| ((1 : Int32) <<< (nI j &&& 31))) S9) fun S12 => (some S12))))))) (bv (fX7_flag 4 z' M1) fun S5 => (if nI s ≤ 0 then (some (true, S5))
    else (lt (((1 : Int32) <<< (nI j &&& 31)) : Int32) fun v7 => (jn (fun (v8 : Int32) => (bv (fX7_give v8 (szB e) S5) fun S6 => (some (true, S6)))) fun K6 =>
    (if nI s = 1 then (K6 (0 ^^^ v7))
    else (if nI s = 2 then (K6 (0 &&& (v7 ^^^ (-1 : Int32))))
    else (K6 (0 ||| v7)))))))) := by
      intro z z'
      have hT2 := hT.sr (fl (B1.1 3) 4 z) (fl (M1.1 2) 4 z')
      rw [pX4_mark, bv_some, bd_some, pX7_flag, bv_some]
      have q : s = 0 ∨ s = 1 ∨ s = 2 ∨ s = 3 := by omega
      rcases q with e0 | e0 | e0 | e0
      · rw [e0, if_pos (show nI 0 ≤ 0 by decide), if_pos (show nI 0 = 0 from rfl)]
        exact Hd.t hT2
      · rw [e0, if_neg (show ¬ nI 1 ≤ 0 by decide), if_neg (show ¬ nI 1 = 0 by decide), if_pos (show nI 1 = 1 from rfl), lt_d, jn_d, if_pos (show nI 1 = 1 from rfl), q_bv]
        exact Hd.stT he hT2
      · rw [e0, if_neg (show ¬ nI 2 ≤ 0 by decide), if_neg (show ¬ nI 2 = 0 by decide), if_neg (show ¬ nI 2 = 1 by decide), if_pos (show nI 2 = 2 from rfl), lt_d, jn_d, if_neg (show ¬ nI 2 = 1 by decide), if_pos (show nI 2 = 2 from rfl), q_bv]
        exact Hd.stT he hT2
      · rw [e0, if_neg (show ¬ nI 3 ≤ 0 by decide), if_neg (show ¬ nI 3 = 0 by decide), if_neg (show ¬ nI 3 = 1 by decide), if_neg (show ¬ nI 3 = 2 by decide), lt_d, jn_d, if_neg (show ¬ nI 3 = 1 by decide), if_neg (show ¬ nI 3 = 2 by decide), q_bv]
        exact Hd.stT he hT2
    split
    · split
      · exact fin true true
      · exact fin true false
    · split
      · exact fin false true
      · exact fin false false
theorem mf_2045 : ∀ k, k < 64 → mf 2045 k = (mf 4093 k || decide (k = 60)) := by decide +kernel
theorem mf_60 : mf 509 60 = true := by decide +kernel
def bK (told : Bool) (s : Nat) : Int32 := if s = 0 then (if told = true then 2045 else 4093) else 509
theorem and31 (v : Int32) : ∃ j, j < 32 ∧ v &&& 31 = nI j := ⟨v.toBitVec.toNat % 32, Nat.mod_lt _ (by decide), pk_and v (m := 31) 5 (by decide)⟩
theorem and7 (v : Int32) : ∃ j, j < 32 ∧ v &&& 7 = nI j := ⟨v.toBitVec.toNat % 8, by omega, pk_and v (m := 7) 3 (by decide)⟩
theorem m31 : (8 * szB 2) - 1 = (31 : Int32) := by decide
theorem m7 : (8 * szB 0) - 1 = (7 : Int32) := by decide
theorem bit_tail {k : Nat} (hk : k < 65536) (h61 : k % 64 < 61) (hda : ¬ k / 64 % 4 = 0 → mf 509 (k % 64) = false) (v : Int32) (h : Ok c0 d0 B M) (hf : Fr m0 B M) : Hd c0 d0 m0
    (bd (fX2_operand (nI k) B) fun r2 S4 => (jn (fun (e1 : Nat) => (gd (e1 < 3) (bd (fX2_operand (nI k) S4) fun r3 S5 => (bd (fX0_locate e1 r3 S5) fun w1 S6 => (bd (fX0_load e1 w1 S6) fun r4 S7 => (lt ((1 <<< ((v &&& ((8 * (szB e1)) - 1)) &&& 31)) : Int32) fun v2 => (jn (fun (b2 : Bool) => (bv (fX4_mark 4 b2 S7) fun S8 => (bd (fX2_sizeBits (nI k) S8) fun r5 S9 => (if r5 = 0 then (some S9)
    else (if r5 = 1 then (bv (fX0_store e1 w1 (r4 ^^^ v2) S9) fun S10 => (some S10))
    else (if r5 = 2 then (bv (fX0_store e1 w1 (r4 &&& (v2 ^^^ (-1 : Int32))) S9) fun S11 => (some S11))
    else (bv (fX0_store e1 w1 (r4 ||| v2) S9) fun S12 => (some S12)))))))) fun K3 =>
    (if (r4 &&& v2) = 0 then (K3 true)
    else (K3 false))))))))) fun K2 =>
    (if 8 ≤ r2 then (K2 0)
    else (K2 2))))
    (jn (fun (v4 : Int32) => (jn (fun (v5 : Int32) => (lt ((v &&& v5) : Int32) fun v6 => (bv (fX7_operand (nI (k % 64)) v4 M) fun S3 => (bd (fX7_take v4 S3) fun r1 S4 => (jn (fun (b2 : Bool) => (bv (fX7_flag 4 b2 S4) fun S5 => (if nI (k / 64 % 4) ≤ 0 then (some (true, S5))
    else (lt ((1 <<< (v6 &&& 31)) : Int32) fun v7 => (jn (fun (v8 : Int32) => (bv (fX7_give v8 v4 S5) fun S6 => (some (true, S6)))) fun K6 =>
    (if nI (k / 64 % 4) = 1 then (K6 (r1 ^^^ v7))
    else (if nI (k / 64 % 4) = 2 then (K6 (r1 &&& (v7 ^^^ (-1 : Int32))))
    else (K6 (r1 ||| v7))))))))) fun K5 =>
    (if ((r1 >>> (v6 &&& 31)) &&& 1) = 0 then (K5 true)
    else (K5 false))))))) fun K4 =>
    (if v4 = 4 then (K4 31)
    else (K4 7)))) fun K3 =>
    (if (nI (k % 64) >>> ((3 : Int32) &&& 31)) = 0 then (K3 4)
    else (K3 1))) := by
  have h6 : k % 64 < 64 := by omega
  rw [f_operand hk, bd_some, jn_d, jn_d, (k6s _ h6).2]
  by_cases a8 : 8 ≤ k % 64
  · rw [if_pos (show 8 ≤ nI (k % 64) by rw [le8 _ h6]; exact a8), if_neg (show ¬ nI (k % 64 / 8) = 0 from nI_ne (b := 0) (by omega) (by decide) (by omega))]
    dsimp only
    rw [gd_t (by decide), f_operand hk, bd_some, jn_d, if_neg (by decide)]
    dsimp only
    rw [lt_d, m7]
    obtain ⟨j, hj, ej⟩ := and7 v
    rw [ej]
    simp only [f_sizeBits hk]
    exact bit_key (e := 0) (by decide) h6 h61 (by omega) hj hda h hf
  · rw [if_neg (show ¬ 8 ≤ nI (k % 64) by rw [le8 _ h6]; exact a8), show k % 64 / 8 = 0 by omega, if_pos (show nI 0 = 0 from rfl)]
    dsimp only
    rw [gd_t (by decide), f_operand hk, bd_some, jn_d, if_pos rfl]
    dsimp only
    rw [lt_d, m31]
    obtain ⟨j, hj, ej⟩ := and31 v
    rw [ej]
    simp only [f_sizeBits hk]
    exact bit_key (e := 2) (by decide) h6 h61 (by omega) hj hda h hf
theorem bits {k : Nat} (hk : k < 65536) (told : Bool) (hop : M.1 5 = nI k) (h : Ok c0 d0 B M) (hf : Fr m0 B M) : Hd c0 d0 m0 (fX2_bit (nI k) (bK told (k / 64 % 4)) told B) (fX7_oneBit (nI (k / 64 % 4)) told M) := by
  have h6 : k % 64 < 64 := by omega
  have hu : k / 512 % 8 < 8 := by omega
  have hft : fX7_fits (nI (k % 64)) (if k / 64 % 4 = 0 then 1 else 4) 1 M = some (!mf (if k / 64 % 4 = 0 then 4093 else 509) (k % 64), M) := by
    by_cases s0 : k / 64 % 4 = 0
    · rw [if_pos s0, if_pos s0]
      have := ft_DATA 0 (by decide) (k % 64) h6
      rw [szB0] at this
      exact ft_of this M
    · rw [if_neg s0, if_neg s0]
      have := ft_DALT 0 (by decide) (k % 64) h6
      rw [szB0] at this
      exact ft_of this M
  have e60 : (nI (k % 64) = 60) = (k % 64 = 60) := nqL 60 rfl (by omega) (by decide)
  unfold fX2_bit fX7_oneBit
  rw [lt_d, hop, o_63 hk, f_operand hk, bd_some, pX2_misfits _ _ h6, bd_some]
  have eK : ∀ {α : Type} (K : Int32 → α), (jn K fun K1 => if nI (k / 64 % 4) = 0 then K1 1 else K1 4) = K (if k / 64 % 4 = 0 then 1 else 4) := by
    intro α K
    rw [jn_d]
    by_cases s0 : k / 64 % 4 = 0
    · rw [s0, if_pos (show nI 0 = 0 from rfl), if_pos rfl]
    · rw [if_neg (show ¬ nI (k / 64 % 4) = 0 from nI_ne (b := 0) (by omega) (by decide) s0), if_neg s0]
  rw [eK, hft, bd_some]
  have hill : ∀ {x : Option (Bool × St)}, mf (bK told (k / 64 % 4)) (k % 64) = true → x = some (false, M) → Hd c0 d0 m0 (if zI (mf (bK told (k / 64 % 4)) (k % 64)) = 0 then (jn (fun (v1 : Int32) (S3 : St) => (bd (fX2_operand (nI k) S3) fun r2 S4 => (jn (fun (e1 : Nat) => (gd (e1 < 3) (bd (fX2_operand (nI k) S4) fun r3 S5 => (bd (fX0_locate e1 r3 S5) fun w1 S6 => (bd (fX0_load e1 w1 S6) fun r4 S7 => (lt ((1 <<< ((v1 &&& ((8 * (szB e1)) - 1)) &&& 31)) : Int32) fun v2 => (jn (fun (b2 : Bool) => (bv (fX4_mark 4 b2 S7) fun S8 => (bd (fX2_sizeBits (nI k) S8) fun r5 S9 => (if r5 = 0 then (some S9)
    else (if r5 = 1 then (bv (fX0_store e1 w1 (r4 ^^^ v2) S9) fun S10 => (some S10))
    else (if r5 = 2 then (bv (fX0_store e1 w1 (r4 &&& (v2 ^^^ (-1 : Int32))) S9) fun S11 => (some S11))
    else (bv (fX0_store e1 w1 (r4 ||| v2) S9) fun S12 => (some S12)))))))) fun K3 =>
    (if (r4 &&& v2) = 0 then (K3 true)
    else (K3 false))))))))) fun K2 =>
    (if 8 ≤ r2 then (K2 0)
    else (K2 2))))) fun K1 =>
    (if (zI told) = 0 then (bd (fX2_upper (nI k) (if mf (bK told (k / 64 % 4)) (k % 64) = true then rs B 4 else B)) fun r6 S13 => (bd (fX4_get r6 S13) fun r7 S14 => (K1 r7 S14)))
    else (bd (fX0_nextWord (if mf (bK told (k / 64 % 4)) (k % 64) = true then rs B 4 else B)) fun r8 S15 => (K1 r8 S15))))
    else (some (if mf (bK told (k / 64 % 4)) (k % 64) = true then rs B 4 else B))) x := by
    intro x hm hx
    rw [hm, if_neg (show ¬ zI true = 0 by decide), if_pos rfl, hx]
    exact Hd.ill h hf rfl rfl
  cases hm : mf (if k / 64 % 4 = 0 then 4093 else 509) (k % 64)
  · have hda : ¬ k / 64 % 4 = 0 → mf 509 (k % 64) = false := fun s0 => by rw [if_neg s0] at hm; exact hm
    have h61 : k % 64 < 61 := by
      by_cases s0 : k / 64 % 4 = 0
      · rw [if_pos s0] at hm; exact DT6 h6 hm
      · exact DA6 h6 (hda s0)
    rw [if_neg (show ¬ zI (!false) = 0 by decide)]
    cases told
    · have hK : mf (bK false (k / 64 % 4)) (k % 64) = false := by
        unfold bK
        rw [if_neg (show ¬ (false = true) by decide)]
        exact hm
      rw [hK, if_pos zI_f, if_neg (show ¬ (false = true) by decide), if_pos zI_f, jn_d, if_pos zI_f, f_upper hk, bd_some, pX4_get, bd_some, k7 _ hu, jn_d, if_pos zI_f, hop, o_9 hk, gd_t (ix8 hu), cl8 hu, h.gD _ hu]
      exact bit_tail hk h61 hda _ h hf
    · by_cases q : k % 64 = 60
      · rw [if_neg (show ¬ zI true = 0 by decide), if_pos (show nI (k % 64) = 60 by rw [q]; rfl)]
        refine hill ?_ rfl
        unfold bK
        by_cases s0 : k / 64 % 4 = 0
        · rw [if_pos s0, if_pos rfl, mf_2045 _ h6, decide_eq_true q, Bool.or_true]
        · rw [if_neg s0, q]; exact mf_60
      · have hK : mf (bK true (k / 64 % 4)) (k % 64) = false := by
          unfold bK
          by_cases s0 : k / 64 % 4 = 0
          · rw [if_pos s0] at hm
            rw [if_pos s0, if_pos rfl, mf_2045 _ h6, hm, decide_eq_false q]; rfl
          · rw [if_neg s0]; exact hda s0
        rw [hK, if_pos zI_f, if_neg (show ¬ (false = true) by decide), if_neg (show ¬ zI true = 0 by decide), if_neg (show ¬ nI (k % 64) = 60 from nI_ne (b := 60) (by omega) (by decide) q), jn_d, if_neg (show ¬ zI true = 0 by decide), jn_d, if_neg (show ¬ zI true = 0 by decide)]
        refine Hd.ex h hf ?_
        intro j hj hO hF
        exact bit_tail hk h61 hda _ hO hF
  · rw [if_pos (show zI (!true) = 0 from rfl)]
    refine hill ?_ rfl
    unfold bK
    by_cases s0 : k / 64 % 4 = 0
    · rw [if_pos s0] at hm
      rw [if_pos s0]
      cases told
      · exact hm
      · rw [if_pos rfl, mf_2045 _ h6, hm, Bool.true_or]
    · rw [if_neg s0] at hm
      rw [if_neg s0]; exact hm
end HH
