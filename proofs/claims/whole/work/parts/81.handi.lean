/-! ===== products, quotients, exchanges ===== -/
theorem ms1 : szM 1 = 65535 := rfl
theorem ms2 (v : Int32) : v &&& szM 2 = v := by rw [show szM 2 = -1 from rfl, and_m1]
theorem pp1 (v : Int32) (S : St) : fX7_plain v 2 S = some (pl 1 v, S) := by
  have := pX7_plain v S 1 (by decide)
  rw [szB1] at this
  exact this
theorem pp2 (v : Int32) (S : St) : fX7_plain v 4 S = some (lN (u 2 v), S) := by
  have := pX7_plain v S 2 (by decide)
  rw [szB2, pl_N v 2 (by decide)] at this
  exact this
theorem l_and16 {q : Nat} (hq : q < 2 ^ 63) : lN q &&& 65535 = lN (q % 65536) := by
  apply Int64.toBitVec_inj.mp
  apply BitVec.eq_of_toNat_eq
  rw [Int64.toBitVec_and, BitVec.toNat_and]
  show (BitVec.ofNat 64 q).toNat &&& (65535 : Int64).toBitVec.toNat = (BitVec.ofNat 64 (q % 65536)).toNat
  rw [BitVec.toNat_ofNat, BitVec.toNat_ofNat, show (65535 : Int64).toBitVec.toNat = 2 ^ 16 - 1 from by decide, Nat.and_two_pow_sub_one_eq_mod]
  omega
theorem du_c {q : Nat} (hq : q < 2 ^ 63) : (lg_cmp (lN q) (lN q &&& 65535) = 0) = (lg_cmp (lN q) 65535 ≤ 0) := by
  apply propext
  rw [lg_cmp_eq, lg_cmp_le, l_and16 hq, pk_lEQ hq (by omega), show (65535 : Int64) = lN 65535 from rfl, pk_lLE hq (by decide)]
  omega
theorem ds_c (w : Int64) : (lg_cmp w ((w.toInt32.toInt16.toInt32).toInt64) = 0) = (¬ lg_cmp w (-32768 : Int64) < 0 ∧ lg_cmp w 32767 ≤ 0) := by
  apply propext
  rw [lg_cmp_eq, lg_cmp_lt, lg_cmp_le, Int64.lt_iff_toInt_lt, Int64.le_iff_toInt_le, ← Int64.toInt_inj, Int32.toInt_toInt64, lg_i2s_toInt, Int64.toInt_toInt32, show ((-32768 : Int64)).toInt = -32768 from by decide, show ((32767 : Int64)).toInt = 32767 from by decide]
  have h1 := Int.bmod_bmod_of_dvd (a := w.toInt) (n := 2 ^ 16) (m := 2 ^ 32) (by decide)
  have e32 : ((2 : Nat) ^ 32 : Nat) = 4294967296 := by decide
  have e16 : ((2 : Nat) ^ 16 : Nat) = 65536 := by decide
  rw [h1, e16]
  have := Int.bmod_def w.toInt 65536
  rw [this]
  split <;> omega
theorem dv_b : ∀ (n z : Bool) (i : Nat), i < 32 → ∀ x : Bool, (let s0 := x && bt (1 ^^^ (-1)) i; let s8 := if n = true then s0 || bt 8 i else s0 && bt (8 ^^^ (-1)) i; let s4 := if z = true then s8 || bt 4 i else s8 && bt (4 ^^^ (-1)) i; let s2 := s4 && bt (2 ^^^ (-1)) i; s2 && bt (1 ^^^ (-1)) i) = (let s0 := x && bt (1 ^^^ (-1)) i; let s2 := s0 && bt (2 ^^^ (-1)) i; let s8 := if n = true then s2 || bt 8 i else s2 && bt (8 ^^^ (-1)) i; if z = true then s8 || bt 4 i else s8 && bt (4 ^^^ (-1)) i) := by decide +kernel
theorem dv_e (sr : Int32) (n z : Bool) : f4 (fl sr 1 false) n z false false = fl (fl (fl (fl sr 1 false) 2 false) 8 n) 4 z := by
  apply b_ext
  intro i hi
  unfold f4
  simp only [bt_fl, if_neg (show ¬ (false = true) by decide)]
  exact dv_b n z i hi (bt sr i)
section HI
variable {c0 : CB} {d0 : CM} {m0 : Nat → Int32} {B M : St}
theorem mul {k : Nat} (hk : k < 65536) (sg : Bool) (hop : M.1 5 = nI k) (h : Ok c0 d0 B M) (hf : Fr m0 B M) : Hd c0 d0 m0 (fX2_multiply (nI k) sg B) (fX7_multiply sg M) := by
  have h6 : k % 64 < 64 := by omega
  have hu : k / 512 % 8 < 8 := by omega
  have hft := ft_DATA 1 (by decide) (k % 64) h6
  rw [szB1] at hft
  unfold fX2_multiply fX7_multiply
  rw [lt_d, hop, o_9 hk, o_63 hk, ft_of hft, bd_some, f_operand hk, bd_some, pX2_misfits _ _ h6, bd_some]
  cases hm : mf 4093 (k % 64)
  · rw [if_pos zI_f, if_neg (show ¬ zI (!false) = 0 by decide), if_neg (show ¬ (false = true) by decide), f_upper hk, bd_some, f_operand hk, bd_some, hop, o_63 hk]
    refine Hd.rd (e := 1) (DT6 h6 hm) (by decide) h hf ?_ ?_
    · intro w r B1 M1 hO hF hP hS hp hr
      rw [pX4_get, bd_some, k7 _ hu, jn_d, jn_d]
      have fin : ∀ v : Int32, Hd c0 d0 m0 (bd (fX1_logic 2 v B1) fun r6 S8 => (bv (fX4_set (nI (k / 512 % 8)) r6 S8) fun S9 => (some S9))) (gd (ixo (nI (k / 512 % 8)) 8 = true) (lt (sA M1 1 (nI (k / 512 % 8)).toNatClampNeg v) fun S5 => (gd (ixo (nI (k / 512 % 8)) 8 = true) (bv (fX7_logic (S5.2.2 1 (nI (k / 512 % 8)).toNatClampNeg) 4 S5) fun S6 => (some (true, S6)))))) := by
        intro v
        have e0 : M1.1 2 = B1.1 3 := ok_sr hO
        have e1 : ∀ v, (sA M1 1 (k / 512 % 8) v).1 2 = B1.1 3 := fun _ => e0
        rw [gd_t (ix8 hu), lt_d, gd_t (ix8 hu), cl8 hu, sA_at, pl7, bv_some, pl1, bd_some, pX4_set, bv_some, k7 _ hu, e1]
        exact Hd.ok ((hO.sD _ hu _).fl (lgS_ok 2 _ (B1.1 3)))
      cases sg
      · rw [if_pos zI_f, if_pos zI_f, gd_t (ix8 hu), pp1, bd_some, lg_l2i_mul, pl_i _ 1 (by decide), lg_l2i_i2l, cl8 hu, hO.gD _ hu]
        have := fin ((B1.2.2 1 (k / 512 % 8) &&& 65535) * r)
        rw [cl8 hu] at this
        exact this
      · rw [if_neg (show ¬ zI true = 0 by decide), if_neg (show ¬ zI true = 0 by decide), gd_t (ix8 hu), cl8 hu, hO.gD _ hu]
        have := fin ((B1.2.2 1 (k / 512 % 8)).toInt16.toInt32 * r.toInt16.toInt32)
        rw [cl8 hu] at this
        exact this
    · intro w B1 M1 hT hp
      rw [pX4_get, bd_some, k7 _ hu, jn_d, jn_d]
      have fin : ∀ v v' : Int32, Hd c0 d0 m0 (bd (fX1_logic 2 v B1) fun r6 S8 => (bv (fX4_set (nI (k / 512 % 8)) r6 S8) fun S9 => (some S9))) (gd (ixo (nI (k / 512 % 8)) 8 = true) (lt (sA M1 1 (nI (k / 512 % 8)).toNatClampNeg v') fun S5 => (gd (ixo (nI (k / 512 % 8)) 8 = true) (bv (fX7_logic (S5.2.2 1 (nI (k / 512 % 8)).toNatClampNeg) 4 S5) fun S6 => (some (true, S6)))))) := by
        intro v v'
        rw [gd_t (ix8 hu), lt_d, gd_t (ix8 hu), cl8 hu, pl7, bv_some, pl1, bd_some, pX4_set, bv_some, k7 _ hu]
        exact Hd.t (((hT.MD _ _).sr _ _).B_ _ _)
      cases sg
      · rw [if_pos zI_f, if_pos zI_f, gd_t (ix8 hu), pp1, bd_some]
        exact fin _ _
      · rw [if_neg (show ¬ zI true = 0 by decide), if_neg (show ¬ zI true = 0 by decide), gd_t (ix8 hu)]
        exact fin _ _
  · rw [if_neg (show ¬ zI true = 0 by decide), if_pos (show zI (!true) = 0 from rfl), if_pos rfl]
    exact Hd.ill h hf rfl rfl
/-! exchanges -/
theorem xg_DD {x y : Nat} (hx : x < 8) (hy : y < 8) (h : Ok c0 d0 B M) : fX2_exchange (nI x) (nI y) B = some (sA (sA B 1 x (B.2.2 1 y)) 1 y (B.2.2 1 x)) ∧ Ok c0 d0 (sA (sA B 1 x (B.2.2 1 y)) 1 y (B.2.2 1 x)) (sA (sA M 1 x (B.2.2 1 y)) 1 y (B.2.2 1 x)) := by
  constructor
  · unfold fX2_exchange
    rw [pX4_get, bd_some, pX4_get, bd_some, pX4_set, bv_some, pX4_set, bv_some, k7 _ hx, k7 _ hy]
  · exact (h.sD _ hx _).sD _ hy _
theorem xg_AA {x y : Nat} (hx : x < 8) (hy : y < 8) (h : Ok c0 d0 B M) : Hd c0 d0 m0 (fX2_exchange (8 + nI x) (8 + nI y) B) (bd (fX7_getA (nI x) M) fun r1 S3 => (bd (fX7_getA (nI y) S3) fun r2 S4 => (bv (fX7_setA (nI x) r2 S4) fun S5 => (bv (fX7_setA (nI y) r1 S5) fun S6 => (some (true, S6)))))) := by
  unfold fX2_exchange
  obtain ⟨q1, q2⟩ := h.sA_ _ hx (B.2.2 1 (8 + y))
  obtain ⟨q3, q4⟩ := q2.sA_ _ hy (B.2.2 1 (8 + x))
  rw [pX4_get, bd_some, pX4_get, bd_some, pX4_set, bv_some, pX4_set, bv_some, r4_8 _ hx, r4_8 _ hy, h.gA _ hx, bd_some, h.gA _ hy, bd_some, q1, bv_some, q3, bv_some]
  exact Hd.ok q4
theorem xg_DA {x y : Nat} (hx : x < 8) (hy : y < 8) (h : Ok c0 d0 B M) : Hd c0 d0 m0 (fX2_exchange (nI x) (8 + nI y) B) (bv (fX7_setA (nI y) (B.2.2 1 x) (sA M 1 x (B.2.2 1 (8 + y)))) fun S20 => (some (true, S20))) := by
  unfold fX2_exchange
  have q2 := h.sD _ hx (B.2.2 1 (8 + y))
  obtain ⟨q3, q4⟩ := q2.sA_ _ hy (B.2.2 1 x)
  rw [pX4_get, bd_some, pX4_get, bd_some, pX4_set, bv_some, pX4_set, bv_some, k7 _ hx, r4_8 _ hy, q3, bv_some]
  exact Hd.ok q4
/-! quotients -/
theorem r_n {r : Int32} (h : r &&& szM 1 = r) : ∃ b, b < 65536 ∧ r = nI b := ⟨u 1 r, u_lt r 1 (by decide), by rw [← u_and r 1 (by decide), h]⟩
theorem ext0 {b : Nat} (hb : b < 65536) (h0 : ¬ b = 0) : ¬ ((nI b).toInt16.toInt32).toInt64 = 0 := by
  intro q
  have e := ext64 (nI b) 1 (by decide)
  have el : ext 1 (nI b) = (nI b).toInt16.toInt32 := rfl
  rw [el, q, u_nI b 1 (by decide)] at e
  have e1 : Nn 1 = 65536 := rfl
  rw [e1, Nat.mod_eq_of_lt hb] at e
  have e2 : sg 1 b = if b < 32768 then (b : Int) else (b : Int) - 65536 := rfl
  have e3 : ((0 : Int64)).toInt = 0 := by decide
  rw [e2, e3] at e
  split at e <;> omega
theorem psg (v : Int32) (S : St) : fX7_signs v 2 S = some (sI S 2 (fl (fl (S.1 2) 8 (cn 1 v)) 4 (cz 1 v))) := by
  have := pX7_signs v S 1 (by decide)
  rw [szB1] at this
  exact this
/-- the part behind the quotient -/
theorem dv_tail {r : Nat} (hr : r < 8) (w1 w2 : Int64) (hw : ¬ w2 = 0) (over : Bool) (x : Int64) (hov : (lg_cmp (w1 / w2) x = 0) = (over = false)) (s1 : Int32) (hs1 : s1 = fl (B.1 3) 1 false) (h : Ok c0 d0 B M) : Hd c0 d0 m0
    (if (lg_cmp (w1 / w2) x) = 0 then (bd (fX1_logic 1 ((w1 / w2).toInt32) (sI B 3 s1)) fun r5 S9 => (bv (fX4_set (nI r) (((w1 - w1 / w2 * w2).toInt32 <<< ((16 : Int32) &&& 31)) ||| r5) S9) fun S10 => (some S10)))
    else (bv (fX4_mark 2 true (sI B 3 s1)) fun S11 => (some S11)))
    (bv (fX7_flag 2 over (sI M 2 s1)) fun S6 => (if (zI over) = 0 then (bv (fX7_signs ((w1 / w2).toInt32) 2 (sA S6 1 r ((((w1 - w1 / w2 * w2).toInt32) <<< ((16 : Int32) &&& 31)) ||| (((w1 / w2).toInt32) &&& 65535)))) fun S8 => (some (true, S8)))
    else (some (true, S6)))) := by
  have hO := h.fl (hs1 ▸ (fOK.rf (B.1 3)).fl 1 false rfl rfl : fOK (B.1 3) s1)
  cases over
  · rw [if_pos (by rw [hov]), pX1_lg _ _ 1 (by decide), bd_some, pX4_set, bv_some, k7 _ hr, pX7_flag, bv_some, if_pos zI_f, psg, bv_some, ms1, sI_at, sI_I, sI_at, sI_I]
    refine Hd.fin rfl rfl (Or.inl ?_)
    have fk : fOK s1 (fl s1 2 false) := (fOK.rf s1).fl 2 false rfl rfl
    have hO2 := (h.sD _ hr (((w1 - w1 / w2 * w2).toInt32 <<< ((16 : Int32) &&& 31)) ||| ((w1 / w2).toInt32 &&& 65535))).fl (s' := f4 s1 (cn 1 (w1 / w2).toInt32) (cz 1 (w1 / w2).toInt32) false false) (by
      have := f4_ok s1 (cn 1 (w1 / w2).toInt32) (cz 1 (w1 / w2).toInt32) false false
      have a := (fOK.rf (B.1 3)).fl 1 false rfl rfl
      rw [← hs1] at a
      exact ⟨this.1.trans a.1, fun q => this.2 (a.2 q)⟩)
    have e2 : (sA (sI M 2 (fl s1 2 false)) 1 r (((w1 - w1 / w2 * w2).toInt32 <<< ((16 : Int32) &&& 31)) ||| ((w1 / w2).toInt32 &&& 65535))).1 2 = fl s1 2 false := sI_at M 2 _
    rw [e2]
    have e3 : fl (fl (fl s1 2 false) 8 (cn 1 (w1 / w2).toInt32)) 4 (cz 1 (w1 / w2).toInt32) = f4 s1 (cn 1 (w1 / w2).toInt32) (cz 1 (w1 / w2).toInt32) false false := by rw [hs1, dv_e]
    rw [e3]
    have e4 : ∀ (S : St) (x : Int32) (y z : Int32), sI (sA (sI S 2 y) 1 r x) 2 z = sI (sA S 1 r x) 2 z := by
      intro S x y z
      exact sI_I (sA S 1 r x) 2 y z
    rw [e4]
    exact hO2
  · rw [if_neg (by rw [hov]; decide), pX4_mark, bv_some, pX7_flag, bv_some, if_neg (show ¬ zI true = 0 by decide), sI_at, sI_at]
    exact Hd.ok (hO.fl (by
      have : fOK ((sI B 3 s1).1 3) (fl ((sI B 3 s1).1 3) 2 true) := (fOK.rf _).fl 2 true rfl rfl
      rw [sI_at] at this ⊢
      exact this))
theorem dvd {k : Nat} (hk : k < 65536) (sgn : Bool) (hop : M.1 5 = nI k) (h : Ok c0 d0 B M) (hf : Fr m0 B M) : Hd c0 d0 m0 (fX2_divide (nI k) sgn B) (fX7_divide sgn M) := by
  have h6 : k % 64 < 64 := by omega
  have hu : k / 512 % 8 < 8 := by omega
  have hft := ft_DATA 1 (by decide) (k % 64) h6
  rw [szB1] at hft
  unfold fX2_divide fX7_divide
  rw [lt_d, hop, o_9 hk, o_63 hk, ft_of hft, bd_some, f_operand hk, bd_some, pX2_misfits _ _ h6, bd_some]
  cases hm : mf 4093 (k % 64)
  · rw [if_pos zI_f, if_neg (show ¬ zI (!false) = 0 by decide), if_neg (show ¬ (false = true) by decide), f_upper hk, bd_some, f_operand hk, bd_some, hop, o_63 hk]
    refine Hd.rd (e := 1) (DT6 h6 hm) (by decide) h hf ?_ ?_
    · intro w r B1 M1 hO hF hP hS hp hr
      have ho : fOK (B1.1 3) (fl (B1.1 3) 1 false) := (fOK.rf _).fl 1 false rfl rfl
      rw [pX4_mark, bv_some, if_pos (le0 hO.2.2.2.2.2.2.2.1), pX7_flag, bv_some, ok_sr hO]
      obtain ⟨b, hb, rb⟩ := r_n hr
      by_cases r0 : r = 0
      · rw [if_pos r0, if_pos r0, pX0_raise, bv_some, lt_d]
        exact Hd.fo (hO.fl ho) hF.2.2.2 (by decide) (by decide) (by decide)
      · have b0 : ¬ b = 0 := by intro q; rw [q] at rb; exact r0 rb
        rw [if_neg r0, if_neg r0, jn_d, jn_d]
        have eD : (sI M1 2 (fl (B1.1 3) 1 false)).2.2 1 (k / 512 % 8) = B1.2.2 1 (k / 512 % 8) := hO.gD _ hu
        have eB : (sI B1 3 (fl (B1.1 3) 1 false)).2.2 1 (k / 512 % 8) = B1.2.2 1 (k / 512 % 8) := rfl
        cases sgn
        · rw [if_pos zI_f, if_pos zI_f, gd_t (ix8 hu), pp2, bd_some, pX4_get, bd_some, k7 _ hu, pX5_unsigned _ _ 2 (by decide), bd_some]
          dsimp only
          rw [jn_d, jn_d, if_pos zI_f, if_pos zI_f]
          dsimp only
          rw [cl8 hu, eD, eB]
          have hw : ¬ r.toInt64 = 0 := by rw [rb, nI_l (by omega), lN_0 (by omega)]; exact b0
          have ha : u 2 (B1.2.2 1 (k / 512 % 8)) < 4294967296 := u_lt _ 2 (by decide)
          simp only [gd_t hw, gd_t (ix8 hu), cl8 hu, lt_x, jn_x, zf, if_true]
          have hq : lN (u 2 (B1.2.2 1 (k / 512 % 8))) / r.toInt64 = lN (u 2 (B1.2.2 1 (k / 512 % 8)) / b) := by rw [rb, nI_l (by omega), pk_lDiv (by omega) (by omega) (by omega)]
          have hq2 : u 2 (B1.2.2 1 (k / 512 % 8)) / b < 2 ^ 63 := Nat.lt_of_le_of_lt (Nat.div_le_self _ _) (by omega)
          by_cases ov : lg_cmp (lN (u 2 (B1.2.2 1 (k / 512 % 8))) / r.toInt64) 65535 ≤ 0
          · rw [if_pos ov]
            exact dv_tail hu _ _ hw false _ (by rw [hq, du_c hq2, ← hq]; exact propext ⟨fun _ => rfl, fun _ => ov⟩) _ rfl hO
          · rw [if_neg ov]
            exact dv_tail hu _ _ hw true _ (by rw [hq, du_c hq2, ← hq]; exact propext ⟨fun z => absurd z ov, fun z => absurd z (by decide)⟩) _ rfl hO
        · rw [if_neg (show ¬ zI true = 0 by decide), if_neg (show ¬ zI true = 0 by decide), gd_t (ix8 hu), pX4_get, bd_some, k7 _ hu]
          dsimp only
          rw [jn_d, jn_d, if_neg (show ¬ zI true = 0 by decide), if_neg (show ¬ zI true = 0 by decide)]
          dsimp only
          rw [cl8 hu, eD, eB]
          have hw : ¬ (r.toInt16.toInt32).toInt64 = 0 := by rw [rb]; exact ext0 hb b0
          simp only [gd_t hw, gd_t (ix8 hu), cl8 hu, lt_x, jn_x, zt, if_false]
          by_cases o1 : lg_cmp ((B1.2.2 1 (k / 512 % 8)).toInt64 / (r.toInt16.toInt32).toInt64) (-32768 : Int64) < 0
          · rw [if_pos o1]
            exact dv_tail hu _ _ hw true _ (by rw [ds_c]; exact propext ⟨fun z => absurd o1 z.1, fun z => absurd z (by decide)⟩) _ rfl hO
          · rw [if_neg o1]
            by_cases o2 : lg_cmp ((B1.2.2 1 (k / 512 % 8)).toInt64 / (r.toInt16.toInt32).toInt64) 32767 ≤ 0
            · rw [if_pos o2]
              exact dv_tail hu _ _ hw false _ (by rw [ds_c]; exact propext ⟨fun _ => rfl, fun _ => ⟨o1, o2⟩⟩) _ rfl hO
            · rw [if_neg o2]
              exact dv_tail hu _ _ hw true _ (by rw [ds_c]; exact propext ⟨fun z => absurd z.2 o2, fun z => absurd z (by decide)⟩) _ rfl hO
    · intro w B1 M1 hT hp
      have hg : ¬ M1.1 6 ≤ 0 := by
        obtain ⟨nn, o, m1, hn, hmm, hB, hM⟩ := hT
        rw [hM.2.2.1]
        intro q
        rw [Int32.le_iff_toInt_le] at q
        rw [Int32.lt_iff_toInt_lt] at hn
        omega
      rw [pX4_mark, bv_some, if_pos rfl, pX0_raise, bv_some, if_neg hg]
      exact Hd.t ((hT.sB _).rz 5)
  · rw [if_neg (show ¬ zI true = 0 by decide), if_pos (show zI (!true) = 0 from rfl), if_pos rfl]
    exact Hd.ill h hf rfl rfl
end HI
