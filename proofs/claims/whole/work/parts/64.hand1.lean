/-! ===== the word's fields ===== -/
theorem ush_n {k : Nat} (hk : k < 65536) (j : Nat) (hj : j < 32) (s : Int32) (hs : ((s.toUInt32 &&& Int32.toUInt32 31).toBitVec % 32).toNat = j) : ush (nI k) s = nI (k / 2 ^ j) := pk_ushrN (by omega) s j hs
theorem f_upper {k : Nat} (hk : k < 65536) (S : St) : fX2_upper (nI k) S = some (nI (k / 512 % 8), S) := by
  unfold fX2_upper
  rw [ush_n hk 9 (by decide) 9 (by decide), pk_andN (by omega) (m := 7) 3 (by decide)]
theorem f_lower {k : Nat} (hk : k < 65536) (S : St) : fX2_lower (nI k) S = some (nI (k % 8), S) := by
  unfold fX2_lower
  rw [pk_andN (by omega) (m := 7) 3 (by decide)]
theorem f_operand {k : Nat} (hk : k < 65536) (S : St) : fX2_operand (nI k) S = some (nI (k % 64), S) := by
  unfold fX2_operand
  rw [pk_andN (by omega) (m := 63) 6 (by decide)]
theorem f_sizeBits {k : Nat} (hk : k < 65536) (S : St) : fX2_sizeBits (nI k) S = some (nI (k / 64 % 4), S) := by
  unfold fX2_sizeBits
  rw [ush_n hk 6 (by decide) 6 (by decide), pk_andN (by omega) (m := 3) 2 (by decide)]
theorem bitk (k : Nat) (hk : k < 65536) (j : Nat) (t : Int32) (hj : j < 16) (ht : ∀ i, i < 32 → bt t i = decide (i = j)) : nI k &&& t = 0 ↔ k / 2 ^ j % 2 = 0 := by
  rw [top_b (nI k) j t (by omega) ht, ← bt_tn, pk_tn (by omega), tb_div]
  simp only [decide_eq_false_iff_not]
  omega
theorem b8 {k : Nat} (hk : k < 65536) : nI k &&& 256 = 0 ↔ k / 256 % 2 = 0 := bitk k hk 8 256 (by decide) (by decide +kernel)
theorem f_isTo {k : Nat} (hk : k < 65536) (S : St) : fX2_isTo (nI k) S = some (!decide (k / 256 % 2 = 0), S) := by
  unfold fX2_isTo
  by_cases h : nI k &&& 256 = 0
  · rw [if_pos h, decide_eq_true ((b8 hk).mp h)]; rfl
  · rw [if_neg h, decide_eq_false (fun q => h ((b8 hk).mpr q))]; rfl
theorem o_6 {k : Nat} (hk : k < 65536) : (nI k >>> ((6 : Int32) &&& 31)) &&& 3 = nI (k / 64 % 4) := by
  rw [pk_shrN (by omega) ((6 : Int32) &&& 31) 6 (by decide), pk_andN (by omega) (m := 3) 2 (by decide)]
theorem o_9 {k : Nat} (hk : k < 65536) : (nI k >>> ((9 : Int32) &&& 31)) &&& 7 = nI (k / 512 % 8) := by
  rw [pk_shrN (by omega) ((9 : Int32) &&& 31) 9 (by decide), pk_andN (by omega) (m := 7) 3 (by decide)]
theorem o_63 {k : Nat} (hk : k < 65536) : nI k &&& 63 = nI (k % 64) := pk_andN (by omega) (m := 63) 6 (by decide)
theorem o_7 {k : Nat} (hk : k < 65536) : nI k &&& 7 = nI (k % 8) := pk_andN (by omega) (m := 7) 3 (by decide)
theorem f_of (S : St) : ∀ s, s < 3 → fX5_of (nI s) S = some (s, S) := e3 rfl rfl rfl
theorem m_sizeOf (M : St) : ∀ s, s < 3 → fX7_sizeOf (nI s) M = some (szB s, M) := e3 rfl rfl rfl
theorem nI_ne {a b : Nat} (ha : a < 65536) (hb : b < 65536) (h : a ≠ b) : ¬ nI a = nI b := fun q => h ((nI_eq (by omega) (by omega)).mp q)
/-! ===== reading, then writing back ===== -/
section H1
variable {c0 : CB} {d0 : CM} {m0 : Nat → Int32} {B M : St}
def Fin1 (c0 : CB) (d0 : CM) (m0 : Nat → Int32) (B M : St) : Prop := Ok c0 d0 B M ∨ Tr c0 d0 m0 B M
theorem sim_ll (k6 : Nat) (hk : k6 < 61) (e : Nat) (he : e < 3) (h : Ok c0 d0 B M) (hf : Fr m0 B M) : ∃ w B1 M1, fX0_locate e (nI k6) B = some (w, B1) ∧ fX7_operand (nI k6) (szB e) M = some M1 ∧ Ok c0 d0 B1 M1 ∧ Fr m0 B1 M1 ∧ PlR e w M1 m0 ∧ M1.1 12 = sortOf k6 ∧
    ((∃ r, fX0_load e w B1 = some (r, B1) ∧ fX7_take (szB e) M1 = some (r, M1) ∧ r &&& szM e = r) ∨ (∃ a, fX0_load e w B1 = some (0, tbB B1 3 a) ∧ fX7_take (szB e) M1 = some (0, tbB M1 3 a) ∧ Tr c0 d0 m0 (tbB B1 3 a) (tbB M1 3 a))) := by
  obtain ⟨w, B1, M1, a1, a2, a3, a4, a5, a6⟩ := sim_locate k6 hk e he h hf
  refine ⟨w, B1, M1, a1, a2, a3, a4, a5, a6, ?_⟩
  rcases sim_load e he w a3 a4 a5 with q | ⟨a, q1, q2⟩
  · exact Or.inl q
  · exact Or.inr ⟨a, q1, q2, a3.tr a4 3 a (by decide)⟩
theorem PlR.sr {e : Nat} {w : Int64} (h : PlR e w M m0) (s : Int32) : PlR e w (sI M 2 s) m0 := h
theorem Fr.sr (h : Fr m0 B M) (s s' : Int32) : Fr m0 (sI B 3 s) (sI M 2 s') := h
theorem fin_store (e : Nat) (he : e < 3) (w : Int64) (v v' s' : Int32) (h : Ok c0 d0 B M) (hf : Fr m0 B M) (hp : PlR e w M m0) (hs : M.1 12 = 0 ∨ M.1 12 = 2) (hk : fOK (B.1 3) s') (hv : v &&& szM e = v' &&& szM e) :
    ∃ B' M', fX0_store e w v (sI B 3 s') = some B' ∧ fX7_give v' (szB e) (sI M 2 s') = some M' ∧ Fin1 c0 d0 m0 B' M' :=
  sim_store e he w v v' (h.fl hk) (hf.sr _ _) (hp.sr _) hs hv
theorem trb_store (e : Nat) (he : e < 3) (w : Int64) (v v' n : Int32) (h : Tr c0 d0 m0 B M) : ∃ B' M', fX0_store e w v B = some B' ∧ fX7_give v' n M = some M' ∧ Tr c0 d0 m0 B' M' := by
  obtain ⟨nn, o, m1, hn, hm, hB, hM⟩ := h
  obtain ⟨B', q1, q2⟩ := tB_store hB hn e he w v
  exact ⟨B', M, q1, tM_give hM hn v' n, nn, o, m1, hn, hm, q2, hM⟩
theorem Tr.sr (h : Tr c0 d0 m0 B M) (s s' : Int32) : Tr c0 d0 m0 (sI B 3 s) (sI M 2 s') := by
  obtain ⟨nn, o, m1, hn, hm, hB, hM⟩ := h
  exact ⟨nn, o, m1, hn, hm, hB.sr s, hM.sr s'⟩
theorem Tr.AD (h : Tr c0 d0 m0 B M) (j j' : Nat) (v v' : Int32) : Tr c0 d0 m0 (sA B 1 j v) (sA M 1 j' v') := by
  obtain ⟨nn, o, m1, hn, hm, hB, hM⟩ := h
  exact ⟨nn, o, m1, hn, hm, hB.A j v, hM.D j' v'⟩
theorem Tr.B_ (h : Tr c0 d0 m0 B M) (j : Nat) (v : Int32) : Tr c0 d0 m0 (sA B 1 j v) M := by
  obtain ⟨nn, o, m1, hn, hm, hB, hM⟩ := h
  exact ⟨nn, o, m1, hn, hm, hB.A j v, hM⟩
theorem Tr.ne (h : Tr c0 d0 m0 B M) : ¬ M.1 6 = 0 := by
  obtain ⟨nn, o, m1, hn, hm, hB, hM⟩ := h
  rw [hM.2.2.1]
  intro q; rw [q] at hn; exact absurd hn (by decide)
end H1
/-! what depends on the low part alone -/
theorem cn_c {x y : Int32} (e : Nat) (he : e < 3) (h : x &&& szM e = y &&& szM e) : cn e x = cn e y := by
  rw [cn_u x e he, cn_u y e he]
  have h1 := u_tn x e he
  have h2 := u_tn y e he
  rw [h] at h1
  rw [← h1, ← h2]
theorem cz_c {x y : Int32} (e : Nat) (h : x &&& szM e = y &&& szM e) : cz e x = cz e y := by unfold cz; rw [h]
theorem lgS_c {x y : Int32} (e : Nat) (he : e < 3) (h : x &&& szM e = y &&& szM e) (sr : Int32) : lgS e x sr = lgS e y sr := by
  unfold lgS; rw [cn_c e he h, cz_c e h]
theorem u_c {x y : Int32} (e : Nat) (he : e < 3) (h : x &&& szM e = y &&& szM e) : u e x = u e y := by
  rw [← u_tn x e he, ← u_tn y e he, h]
theorem or_c (a d m : Int32) : (a ||| (d &&& m)) &&& m = (a ||| d) &&& m ∧ ((d &&& m) ||| a) &&& m = (a ||| d) &&& m := by
  constructor <;> (apply b_ext; intro i hi; simp only [b_and, b_or]; cases bt a i <;> cases bt d i <;> cases bt m i <;> rfl)
theorem and_c (a d m : Int32) : (a &&& (d &&& m)) &&& m = (a &&& d) &&& m ∧ ((d &&& m) &&& a) &&& m = (a &&& d) &&& m := by
  constructor <;> (apply b_ext; intro i hi; simp only [b_and]; cases bt a i <;> cases bt d i <;> cases bt m i <;> rfl)
theorem xor_c (a d m : Int32) : (a ^^^ (d &&& m)) &&& m = (a ^^^ d) &&& m ∧ ((d &&& m) ^^^ a) &&& m = (a ^^^ d) &&& m := by
  constructor <;> (apply b_ext; intro i hi; simp only [b_and, b_xor]; cases bt a i <;> cases bt d i <;> cases bt m i <;> rfl)
