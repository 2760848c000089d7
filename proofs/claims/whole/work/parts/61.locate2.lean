/-! ===== operands, in step ===== -/
theorem k3s : ∀ k, k < 64 → (nI k >>> ((3 : Int32) &&& 31)) &&& 7 = nI (k / 8) ∧ nI k &&& 7 = nI (k % 8) ∧ (ush (nI k) 3) &&& 7 = nI (k / 8) := by decide +kernel
theorem r4_8 : ∀ y, y < 8 → r4 (8 + nI y) = 8 + y := by decide +kernel
theorem n8 : ∀ y, y < 8 → (8 : Int32) + nI y = nI (8 + y) := by decide +kernel
def strd (e y : Nat) : Int32 := if szB e = 1 then (if nI y = 7 then 2 else szB e) else szB e
theorem n7_y : ∀ y, y < 8 → (nI y = 7 ↔ y = 7) := by decide +kernel
theorem pX0_stride (y : Nat) (S : St) : ∀ e, e < 3 → fX0_stride e (nI y) S = some (strd e y, S) := by
  refine e3 ?_ ?_ ?_
  · unfold fX0_stride strd
    rw [gd_t (by decide), if_pos rfl, szB0, if_pos rfl]
    by_cases h : nI y = 7
    · rw [if_pos h, if_pos h]
    · rw [if_neg h, if_neg h]
  · rfl
  · rfl
theorem pX0_kind (k : Nat) (hk : k < 64) (S : St) : fX0_kind (nI k) S = some (if 7 ≤ nI (k / 8) then 7 + nI (k % 8) else nI (k / 8), S) := by
  obtain ⟨-, h2, h3⟩ := k3s k hk
  unfold fX0_kind
  rw [lt_d, h3, h2]
  split <;> rfl
def sortOf (k : Nat) : Int32 := if k / 8 = 0 then 0 else if k / 8 = 1 then 1 else if k = 60 then 3 else 2
theorem q_bv (x : Option St) : (bv x fun S79 => some S79) = x := by cases x <;> rfl
def fX0_lk (e : Nat) (B : St) : Option (Int64 × St) := (jn (fun (v3 : Int32) => (lt (sI B 2 ((B.1 2) + v3)) fun S27 => (jn (fun (v4 : Int32) => (bd (fX0_at v4 S27) fun w12 S28 => (some (w12, S28)))) fun K2 => (if e = 0 then (K2 ((B.1 2) + 1)) else (K2 (B.1 2)))))) fun K1 => (if e = 2 then (K1 4) else (K1 2)))
section LOC2
variable {c0 : CB} {d0 : CM} {m0 : Nat → Int32} {B M : St}
/-- both find the operand k -/
def LocR (c0 : CB) (d0 : CM) (m0 : Nat → Int32) (e k : Nat) (B M : St) : Prop := ∃ w B' M', fX0_locate e (nI k) B = some (w, B') ∧ fX7_operand (nI k) (szB e) M = some M' ∧ Ok c0 d0 B' M' ∧ Fr m0 B' M' ∧ PlR e w M' m0 ∧ M'.1 12 = sortOf k
theorem loc_0 (y : Nat) (hy : y < 8) (e : Nat) (he : e < 3) (h : Ok c0 d0 B M) (hf : Fr m0 B M) : LocR c0 d0 m0 e (0 + y) B M := by
  obtain ⟨k1, k2, k3⟩ := k3s (0 + y) (by omega)
  have d1 : (0 + y) / 8 = 0 := by omega
  have d2 : (0 + y) % 8 = y := by omega
  rw [d1] at k1; rw [d2] at k2
  have hkd : fX0_kind (nI (0 + y)) B = some (nI 0, B) := by rw [pX0_kind _ (by omega), d1, d2, if_neg (by decide)]
  have hO : Ok c0 d0 B (sI (sI M 13 (nI y)) 12 0) := h.tmp 0 y hy
  have hF : Fr m0 B (sI (sI M 13 (nI y)) 12 0) := (hf.any 13 _ (by decide)).any 12 _ (by decide)
  have hso : sortOf (0 + y) = 0 := by unfold sortOf; rw [d1, if_pos rfl]
  unfold LocR
  rw [hso]
  unfold fX0_locate
  rw [gd_t he, lt_d, k2, pX4_get, bd_some, lt_d, hkd, bd_some, r4_8 y hy]
  simp only [fX7_operand, lt, jn, k1, k2, show (nI 0 = 0) = True from by simp only [eq_iff_iff]; decide, show (nI 0 = 1) = False from by simp only [eq_iff_iff]; decide, show (nI 0 = 2) = False from by simp only [eq_iff_iff]; decide, show (nI 0 = 3) = False from by simp only [eq_iff_iff]; decide, show (nI 0 = 4) = False from by simp only [eq_iff_iff]; decide, show (nI 0 = 5) = False from by simp only [eq_iff_iff]; decide, show (nI 0 = 6) = False from by simp only [eq_iff_iff]; decide, show (nI 0 = 7) = False from by simp only [eq_iff_iff]; decide, if_true, if_false, ite_self]
  exact ⟨_, _, _, rfl, rfl, hO, hF, Or.inl ⟨rfl, y, hy, rfl, rfl⟩, rfl⟩
theorem loc_1 (y : Nat) (hy : y < 8) (e : Nat) (he : e < 3) (h : Ok c0 d0 B M) (hf : Fr m0 B M) : LocR c0 d0 m0 e (8 + y) B M := by
  obtain ⟨k1, k2, k3⟩ := k3s (8 + y) (by omega)
  have d1 : (8 + y) / 8 = 1 := by omega
  have d2 : (8 + y) % 8 = y := by omega
  rw [d1] at k1; rw [d2] at k2
  have hkd : fX0_kind (nI (8 + y)) B = some (nI 1, B) := by rw [pX0_kind _ (by omega), d1, d2, if_neg (by decide)]
  have hO : Ok c0 d0 B (sI (sI M 13 (nI y)) 12 1) := h.tmp 1 y hy
  have hF : Fr m0 B (sI (sI M 13 (nI y)) 12 1) := (hf.any 13 _ (by decide)).any 12 _ (by decide)
  have hso : sortOf (8 + y) = 1 := by unfold sortOf; rw [d1, if_neg (by decide), if_pos rfl]
  unfold LocR
  rw [hso]
  unfold fX0_locate
  rw [gd_t he, lt_d, k2, pX4_get, bd_some, lt_d, hkd, bd_some, r4_8 y hy]
  simp only [fX7_operand, lt, jn, k1, k2, show (nI 1 = 0) = False from by simp only [eq_iff_iff]; decide, show (nI 1 = 1) = True from by simp only [eq_iff_iff]; decide, show (nI 1 = 2) = False from by simp only [eq_iff_iff]; decide, show (nI 1 = 3) = False from by simp only [eq_iff_iff]; decide, show (nI 1 = 4) = False from by simp only [eq_iff_iff]; decide, show (nI 1 = 5) = False from by simp only [eq_iff_iff]; decide, show (nI 1 = 6) = False from by simp only [eq_iff_iff]; decide, show (nI 1 = 7) = False from by simp only [eq_iff_iff]; decide, if_true, if_false, ite_self]
  exact ⟨_, _, _, rfl, rfl, hO, hF, Or.inr (Or.inl ⟨rfl, y, hy, rfl, by rw [n8 y hy]; rfl⟩), rfl⟩
theorem loc_2 (y : Nat) (hy : y < 8) (e : Nat) (he : e < 3) (h : Ok c0 d0 B M) (hf : Fr m0 B M) : LocR c0 d0 m0 e (16 + y) B M := by
  obtain ⟨k1, k2, k3⟩ := k3s (16 + y) (by omega)
  have d1 : (16 + y) / 8 = 2 := by omega
  have d2 : (16 + y) % 8 = y := by omega
  rw [d1] at k1; rw [d2] at k2
  have hkd : fX0_kind (nI (16 + y)) B = some (nI 2, B) := by rw [pX0_kind _ (by omega), d1, d2, if_neg (by decide)]
  have hO : Ok c0 d0 B (sI (sI M 13 (nI y)) 12 2) := h.tmp 2 y hy
  have hF : Fr m0 B (sI (sI M 13 (nI y)) 12 2) := (hf.any 13 _ (by decide)).any 12 _ (by decide)
  have hso : sortOf (16 + y) = 2 := by unfold sortOf; rw [d1, if_neg (by decide), if_neg (by decide), if_neg (by omega)]
  unfold LocR
  rw [hso]
  unfold fX0_locate
  rw [gd_t he, lt_d, k2, pX4_get, bd_some, lt_d, hkd, bd_some, r4_8 y hy]
  simp only [fX7_operand, lt, jn, k1, k2, show (nI 2 = 0) = False from by simp only [eq_iff_iff]; decide, show (nI 2 = 1) = False from by simp only [eq_iff_iff]; decide, show (nI 2 = 2) = True from by simp only [eq_iff_iff]; decide, show (nI 2 = 3) = False from by simp only [eq_iff_iff]; decide, show (nI 2 = 4) = False from by simp only [eq_iff_iff]; decide, show (nI 2 = 5) = False from by simp only [eq_iff_iff]; decide, show (nI 2 = 6) = False from by simp only [eq_iff_iff]; decide, show (nI 2 = 7) = False from by simp only [eq_iff_iff]; decide, if_true, if_false, ite_self]
  rw [hO.gA y hy, bd_some]
  exact ⟨_, _, _, rfl, rfl, hO.adr _, hF.any 14 _ (by decide), Or.inr (Or.inr (Or.inl ⟨rfl, rfl⟩)), rfl⟩
theorem loc_3 (y : Nat) (hy : y < 8) (e : Nat) (he : e < 3) (h : Ok c0 d0 B M) (hf : Fr m0 B M) : LocR c0 d0 m0 e (24 + y) B M := by
  obtain ⟨k1, k2, k3⟩ := k3s (24 + y) (by omega)
  have d1 : (24 + y) / 8 = 3 := by omega
  have d2 : (24 + y) % 8 = y := by omega
  rw [d1] at k1; rw [d2] at k2
  have hkd : fX0_kind (nI (24 + y)) B = some (nI 3, B) := by rw [pX0_kind _ (by omega), d1, d2, if_neg (by decide)]
  have hO : Ok c0 d0 B (sI (sI M 13 (nI y)) 12 2) := h.tmp 2 y hy
  have hF : Fr m0 B (sI (sI M 13 (nI y)) 12 2) := (hf.any 13 _ (by decide)).any 12 _ (by decide)
  have hso : sortOf (24 + y) = 2 := by unfold sortOf; rw [d1, if_neg (by decide), if_neg (by decide), if_neg (by omega)]
  unfold LocR
  rw [hso]
  unfold fX0_locate
  rw [gd_t he, lt_d, k2, pX4_get, bd_some, lt_d, hkd, bd_some, r4_8 y hy]
  simp only [fX7_operand, lt, jn, k1, k2, show (nI 3 = 0) = False from by simp only [eq_iff_iff]; decide, show (nI 3 = 1) = False from by simp only [eq_iff_iff]; decide, show (nI 3 = 2) = False from by simp only [eq_iff_iff]; decide, show (nI 3 = 3) = True from by simp only [eq_iff_iff]; decide, show (nI 3 = 4) = False from by simp only [eq_iff_iff]; decide, show (nI 3 = 5) = False from by simp only [eq_iff_iff]; decide, show (nI 3 = 6) = False from by simp only [eq_iff_iff]; decide, show (nI 3 = 7) = False from by simp only [eq_iff_iff]; decide, if_true, if_false, ite_self]
  simp only [hO.gA y hy, bd_some]
  rw [pX0_stride y B e he, bd_some, pX4_set, bv_some, pX0_at, bd_some, r4_8 y hy]
  have hO2 := hO.adr (B.2.2 1 (8 + y))
  obtain ⟨q1, q2⟩ := hO2.sA_ y hy (B.2.2 1 (8 + y) + strd e y)
  refine ⟨_, _, mA' (sI (sI (sI M 13 (nI y)) 12 2) 14 (B.2.2 1 (8 + y))) y (B.2.2 1 (8 + y) + strd e y), rfl, ?_, q2, ?_, Or.inr (Or.inr (Or.inl ⟨?_, ?_⟩)), ?_⟩
  · rw [← q1]
    unfold strd
    by_cases a : szB e = 1
    · by_cases b : nI y = 7
      · simp only [if_pos a, if_pos b]; rw [q_bv]; rfl
      · simp only [if_pos a, if_neg b]; rw [q_bv]; rfl
    · simp only [if_neg a]; rw [q_bv]; rfl
  · exact (hF.any 14 (B.2.2 1 (8 + y)) (by decide)).A _ _ _ (by rw [mA'_1])
  · rw [mA'_1]; rfl
  · rw [mA'_1]; rfl
  · rw [mA'_1]; rfl
theorem loc_4 (y : Nat) (hy : y < 8) (e : Nat) (he : e < 3) (h : Ok c0 d0 B M) (hf : Fr m0 B M) : LocR c0 d0 m0 e (32 + y) B M := by
  obtain ⟨k1, k2, k3⟩ := k3s (32 + y) (by omega)
  have d1 : (32 + y) / 8 = 4 := by omega
  have d2 : (32 + y) % 8 = y := by omega
  rw [d1] at k1; rw [d2] at k2
  have hkd : fX0_kind (nI (32 + y)) B = some (nI 4, B) := by rw [pX0_kind _ (by omega), d1, d2, if_neg (by decide)]
  have hO : Ok c0 d0 B (sI (sI M 13 (nI y)) 12 2) := h.tmp 2 y hy
  have hF : Fr m0 B (sI (sI M 13 (nI y)) 12 2) := (hf.any 13 _ (by decide)).any 12 _ (by decide)
  have hso : sortOf (32 + y) = 2 := by unfold sortOf; rw [d1, if_neg (by decide), if_neg (by decide), if_neg (by omega)]
  unfold LocR
  rw [hso]
  unfold fX0_locate
  rw [gd_t he, lt_d, k2, pX4_get, bd_some, lt_d, hkd, bd_some, r4_8 y hy]
  simp only [fX7_operand, lt, jn, k1, k2, show (nI 4 = 0) = False from by simp only [eq_iff_iff]; decide, show (nI 4 = 1) = False from by simp only [eq_iff_iff]; decide, show (nI 4 = 2) = False from by simp only [eq_iff_iff]; decide, show (nI 4 = 3) = False from by simp only [eq_iff_iff]; decide, show (nI 4 = 4) = True from by simp only [eq_iff_iff]; decide, show (nI 4 = 5) = False from by simp only [eq_iff_iff]; decide, show (nI 4 = 6) = False from by simp only [eq_iff_iff]; decide, show (nI 4 = 7) = False from by simp only [eq_iff_iff]; decide, if_true, if_false, ite_self]
  simp only [hO.gA y hy, bd_some]
  rw [pX0_stride y B e he, bd_some, pX4_set, bv_some, pX0_stride y _ e he, bd_some, pX0_at, bd_some, r4_8 y hy]
  obtain ⟨q1, q2⟩ := hO.sA_ y hy (B.2.2 1 (8 + y) - strd e y)
  have q3 := q2.gA y hy
  have q4 : (sA B 1 (8 + y) (B.2.2 1 (8 + y) - strd e y)).2.2 1 (8 + y) = B.2.2 1 (8 + y) - strd e y := pk_us
  rw [q4] at q3
  refine ⟨_, _, sI (mA' (sI (sI M 13 (nI y)) 12 2) y (B.2.2 1 (8 + y) - strd e y)) 14 (B.2.2 1 (8 + y) - strd e y), rfl, ?_, q2.adr _, ?_, Or.inr (Or.inr (Or.inl ⟨?_, ?_⟩)), ?_⟩
  · have key : (bv (fX7_setA (nI y) (B.2.2 1 (8 + y) - strd e y) (sI (sI M 13 (nI y)) 12 2)) fun S74 => bd (fX7_getA (nI y) S74) fun r39 S75 => some (sI S75 14 r39)) = some (sI (mA' (sI (sI M 13 (nI y)) 12 2) y (B.2.2 1 (8 + y) - strd e y)) 14 (B.2.2 1 (8 + y) - strd e y)) := by
      rw [q1, bv_some, q3, bd_some]
    rw [← key]
    unfold strd
    by_cases a : szB e = 1
    · by_cases b : nI y = 7
      · simp only [if_pos a, if_pos b]
      · simp only [if_pos a, if_neg b]
    · simp only [if_neg a]
  · exact (hF.A (8 + y) _ _ (by rw [mA'_1])).any 14 _ (by decide)
  · show (mA' _ y _).1 12 = 2
    rw [mA'_1]; rfl
  · rfl
  · show (mA' _ y _).1 12 = 2
    rw [mA'_1]; rfl
theorem loc_5 (y : Nat) (hy : y < 8) (e : Nat) (he : e < 3) (h : Ok c0 d0 B M) (hf : Fr m0 B M) : LocR c0 d0 m0 e (40 + y) B M := by
  obtain ⟨k1, k2, k3⟩ := k3s (40 + y) (by omega)
  have d1 : (40 + y) / 8 = 5 := by omega
  have d2 : (40 + y) % 8 = y := by omega
  rw [d1] at k1; rw [d2] at k2
  have hkd : fX0_kind (nI (40 + y)) B = some (nI 5, B) := by rw [pX0_kind _ (by omega), d1, d2, if_neg (by decide)]
  have hO : Ok c0 d0 B (sI (sI M 13 (nI y)) 12 2) := h.tmp 2 y hy
  have hF : Fr m0 B (sI (sI M 13 (nI y)) 12 2) := (hf.any 13 _ (by decide)).any 12 _ (by decide)
  have hso : sortOf (40 + y) = 2 := by unfold sortOf; rw [d1, if_neg (by decide), if_neg (by decide), if_neg (by omega)]
  unfold LocR
  rw [hso]
  unfold fX0_locate
  rw [gd_t he, lt_d, k2, pX4_get, bd_some, lt_d, hkd, bd_some, r4_8 y hy]
  simp only [fX7_operand, lt, jn, k1, k2, show (nI 5 = 0) = False from by simp only [eq_iff_iff]; decide, show (nI 5 = 1) = False from by simp only [eq_iff_iff]; decide, show (nI 5 = 2) = False from by simp only [eq_iff_iff]; decide, show (nI 5 = 3) = False from by simp only [eq_iff_iff]; decide, show (nI 5 = 4) = False from by simp only [eq_iff_iff]; decide, show (nI 5 = 5) = True from by simp only [eq_iff_iff]; decide, show (nI 5 = 6) = False from by simp only [eq_iff_iff]; decide, show (nI 5 = 7) = False from by simp only [eq_iff_iff]; decide, if_true, if_false, ite_self]
  obtain ⟨a1, a2, a3, a4⟩ := sim_ext hO hF
  rw [hO.gA y hy, bd_some, a1, bd_some, a2, bd_some, pX0_at, bd_some]
  exact ⟨_, _, _, rfl, rfl, a3.adr _, a4.any 14 _ (by decide), Or.inr (Or.inr (Or.inl ⟨rfl, rfl⟩)), rfl⟩
theorem loc_6 (y : Nat) (hy : y < 8) (e : Nat) (he : e < 3) (h : Ok c0 d0 B M) (hf : Fr m0 B M) : LocR c0 d0 m0 e (48 + y) B M := by
  obtain ⟨k1, k2, k3⟩ := k3s (48 + y) (by omega)
  have d1 : (48 + y) / 8 = 6 := by omega
  have d2 : (48 + y) % 8 = y := by omega
  rw [d1] at k1; rw [d2] at k2
  have hkd : fX0_kind (nI (48 + y)) B = some (nI 6, B) := by rw [pX0_kind _ (by omega), d1, d2, if_neg (by decide)]
  have hO : Ok c0 d0 B (sI (sI M 13 (nI y)) 12 2) := h.tmp 2 y hy
  have hF : Fr m0 B (sI (sI M 13 (nI y)) 12 2) := (hf.any 13 _ (by decide)).any 12 _ (by decide)
  have hso : sortOf (48 + y) = 2 := by unfold sortOf; rw [d1, if_neg (by decide), if_neg (by decide), if_neg (by omega)]
  unfold LocR
  rw [hso]
  unfold fX0_locate
  rw [gd_t he, lt_d, k2, pX4_get, bd_some, lt_d, hkd, bd_some, r4_8 y hy]
  simp only [fX7_operand, lt, jn, k1, k2, show (nI 6 = 0) = False from by simp only [eq_iff_iff]; decide, show (nI 6 = 1) = False from by simp only [eq_iff_iff]; decide, show (nI 6 = 2) = False from by simp only [eq_iff_iff]; decide, show (nI 6 = 3) = False from by simp only [eq_iff_iff]; decide, show (nI 6 = 4) = False from by simp only [eq_iff_iff]; decide, show (nI 6 = 5) = False from by simp only [eq_iff_iff]; decide, show (nI 6 = 6) = True from by simp only [eq_iff_iff]; decide, show (nI 6 = 7) = False from by simp only [eq_iff_iff]; decide, if_true, if_false, ite_self]
  obtain ⟨r, b1, b2⟩ := sim_indexed hO hF (B.2.2 1 (8 + y))
  obtain ⟨a1, a2, a3, a4⟩ := sim_ext hO hF
  rw [a1, bd_some] at b1
  rw [hO.gA y hy, bd_some, b2, bd_some, a1, bd_some, b1, bd_some, pX0_at, bd_some]
  exact ⟨_, _, _, rfl, rfl, a3.adr _, a4.any 14 _ (by decide), Or.inr (Or.inr (Or.inl ⟨rfl, rfl⟩)), rfl⟩
theorem lk_ok (hf : Fr m0 B M) : ∀ e, e < 3 → ∃ a, fX0_lk e B = some (wAt a, sI B 2 (B.1 2 + il e)) ∧ od e a = false ∧ imm m0 (B.1 2) e = ldB m0 a e := by
  refine e3 ?_ ?_ ?_
  · exact ⟨B.1 2 + 1, rfl, rfl, by rw [imm_0, ld_byte]⟩
  · exact ⟨B.1 2, rfl, by unfold od; rw [decide_eq_true hf.2.2.1]; rfl, imm_1 _ _⟩
  · exact ⟨B.1 2, rfl, by unfold od; rw [decide_eq_true hf.2.2.1]; rfl, imm_2 _ _⟩
theorem loc_70 (e : Nat) (he : e < 3) (h : Ok c0 d0 B M) (hf : Fr m0 B M) : LocR c0 d0 m0 e 56 B M := by
  obtain ⟨k1, k2, k3⟩ := k3s 56 (by decide)
  have k1 : (nI 56 >>> ((3 : Int32) &&& 31)) &&& 7 = nI 7 := k1
  have k2 : nI 56 &&& 7 = nI 0 := k2
  have hkd : fX0_kind (nI 56) B = some (nI 7, B) := by rw [pX0_kind _ (by decide)]; rfl
  have hO : Ok c0 d0 B (sI (sI M 13 (nI 0)) 12 2) := h.tmp 2 0 (by decide)
  have hF : Fr m0 B (sI (sI M 13 (nI 0)) 12 2) := (hf.any 13 _ (by decide)).any 12 _ (by decide)
  unfold LocR
  rw [show sortOf 56 = 2 from rfl]
  unfold fX0_locate
  rw [gd_t he, lt_d, k2, pX4_get, bd_some, lt_d, hkd, bd_some]
  simp only [fX7_operand, lt, jn, k1, k2, show (nI 7 = 0) = False from by simp only [eq_iff_iff]; decide, show (nI 7 = 1) = False from by simp only [eq_iff_iff]; decide, show (nI 7 = 2) = False from by simp only [eq_iff_iff]; decide, show (nI 7 = 3) = False from by simp only [eq_iff_iff]; decide, show (nI 7 = 4) = False from by simp only [eq_iff_iff]; decide, show (nI 7 = 5) = False from by simp only [eq_iff_iff]; decide, show (nI 7 = 6) = False from by simp only [eq_iff_iff]; decide, show (nI 7 = 7) = True from by simp only [eq_iff_iff]; decide, show (nI 0 = 0) = True from by simp only [eq_iff_iff]; decide, show (nI 0 = 1) = False from by simp only [eq_iff_iff]; decide, show (nI 0 = 2) = False from by simp only [eq_iff_iff]; decide, show (nI 0 = 3) = False from by simp only [eq_iff_iff]; decide, show (nI 0 = 4) = False from by simp only [eq_iff_iff]; decide, show (nI 0 = 7) = False from by simp only [eq_iff_iff]; decide, show (nI 7 = 0) = False from by simp only [eq_iff_iff]; decide, show (nI 7 = 1) = False from by simp only [eq_iff_iff]; decide, show (nI 7 = 2) = False from by simp only [eq_iff_iff]; decide, show (nI 7 = 3) = False from by simp only [eq_iff_iff]; decide, show (nI 7 = 4) = False from by simp only [eq_iff_iff]; decide, show (nI 7 = 5) = False from by simp only [eq_iff_iff]; decide, show (nI 7 = 6) = False from by simp only [eq_iff_iff]; decide, show (nI 7 = 7) = True from by simp only [eq_iff_iff]; decide, show (nI 7 = 8) = False from by simp only [eq_iff_iff]; decide, show (nI 7 = 9) = False from by simp only [eq_iff_iff]; decide, show (nI 7 = 10) = False from by simp only [eq_iff_iff]; decide, if_true, if_false, ite_self]
  obtain ⟨a1, a2, a3, a4⟩ := sim_ext hO hF
  rw [a1, bd_some, a2, bd_some, pX0_at, bd_some]
  exact ⟨_, _, _, rfl, rfl, a3.adr _, a4.any 14 _ (by decide), Or.inr (Or.inr (Or.inl ⟨rfl, rfl⟩)), rfl⟩
theorem loc_71 (e : Nat) (he : e < 3) (h : Ok c0 d0 B M) (hf : Fr m0 B M) : LocR c0 d0 m0 e 57 B M := by
  obtain ⟨k1, k2, k3⟩ := k3s 57 (by decide)
  have k1 : (nI 57 >>> ((3 : Int32) &&& 31)) &&& 7 = nI 7 := k1
  have k2 : nI 57 &&& 7 = nI 1 := k2
  have hkd : fX0_kind (nI 57) B = some (nI 8, B) := by rw [pX0_kind _ (by decide)]; rfl
  have hO : Ok c0 d0 B (sI (sI M 13 (nI 1)) 12 2) := h.tmp 2 1 (by decide)
  have hF : Fr m0 B (sI (sI M 13 (nI 1)) 12 2) := (hf.any 13 _ (by decide)).any 12 _ (by decide)
  unfold LocR
  rw [show sortOf 57 = 2 from rfl]
  unfold fX0_locate
  rw [gd_t he, lt_d, k2, pX4_get, bd_some, lt_d, hkd, bd_some]
  simp only [fX7_operand, lt, jn, k1, k2, show (nI 7 = 0) = False from by simp only [eq_iff_iff]; decide, show (nI 7 = 1) = False from by simp only [eq_iff_iff]; decide, show (nI 7 = 2) = False from by simp only [eq_iff_iff]; decide, show (nI 7 = 3) = False from by simp only [eq_iff_iff]; decide, show (nI 7 = 4) = False from by simp only [eq_iff_iff]; decide, show (nI 7 = 5) = False from by simp only [eq_iff_iff]; decide, show (nI 7 = 6) = False from by simp only [eq_iff_iff]; decide, show (nI 7 = 7) = True from by simp only [eq_iff_iff]; decide, show (nI 1 = 0) = False from by simp only [eq_iff_iff]; decide, show (nI 1 = 1) = True from by simp only [eq_iff_iff]; decide, show (nI 1 = 2) = False from by simp only [eq_iff_iff]; decide, show (nI 1 = 3) = False from by simp only [eq_iff_iff]; decide, show (nI 1 = 4) = False from by simp only [eq_iff_iff]; decide, show (nI 1 = 7) = False from by simp only [eq_iff_iff]; decide, show (nI 8 = 0) = False from by simp only [eq_iff_iff]; decide, show (nI 8 = 1) = False from by simp only [eq_iff_iff]; decide, show (nI 8 = 2) = False from by simp only [eq_iff_iff]; decide, show (nI 8 = 3) = False from by simp only [eq_iff_iff]; decide, show (nI 8 = 4) = False from by simp only [eq_iff_iff]; decide, show (nI 8 = 5) = False from by simp only [eq_iff_iff]; decide, show (nI 8 = 6) = False from by simp only [eq_iff_iff]; decide, show (nI 8 = 7) = False from by simp only [eq_iff_iff]; decide, show (nI 8 = 8) = True from by simp only [eq_iff_iff]; decide, show (nI 8 = 9) = False from by simp only [eq_iff_iff]; decide, show (nI 8 = 10) = False from by simp only [eq_iff_iff]; decide, if_true, if_false, ite_self]
  obtain ⟨a1, a2, a3, a4⟩ := sim_ext hO hF
  have b2 := ext_ok a3 a4
  refine ⟨wAt (ldB m0 (B.1 2) 2), sI B 2 (B.1 2 + nI 4), sI (sI (sI (sI M 13 (nI 1)) 12 2) 1 (B.1 2 + nI 4)) 14 (ldB m0 (B.1 2) 2), ?_, ?_, (hO.pc _).adr _, (hF.pc 4 (by decide) (by decide)).any 14 _ (by decide), Or.inr (Or.inr (Or.inl ⟨rfl, (congrArg wAt (sI_at _ 14 _)).symm⟩)), rfl⟩
  · rw [nl_ok hF, bd_some, pX0_at, bd_some, n4]
  · rw [a2, bd_some, b2, bd_some, sI_at, sI_I, ← ld_long, Int32.add_assoc, n22]
theorem loc_72 (e : Nat) (he : e < 3) (h : Ok c0 d0 B M) (hf : Fr m0 B M) : LocR c0 d0 m0 e 58 B M := by
  obtain ⟨k1, k2, k3⟩ := k3s 58 (by decide)
  have k1 : (nI 58 >>> ((3 : Int32) &&& 31)) &&& 7 = nI 7 := k1
  have k2 : nI 58 &&& 7 = nI 2 := k2
  have hkd : fX0_kind (nI 58) B = some (nI 9, B) := by rw [pX0_kind _ (by decide)]; rfl
  have hO : Ok c0 d0 B (sI (sI M 13 (nI 2)) 12 2) := h.tmp 2 2 (by decide)
  have hF : Fr m0 B (sI (sI M 13 (nI 2)) 12 2) := (hf.any 13 _ (by decide)).any 12 _ (by decide)
  unfold LocR
  rw [show sortOf 58 = 2 from rfl]
  unfold fX0_locate
  rw [gd_t he, lt_d, k2, pX4_get, bd_some, lt_d, hkd, bd_some]
  simp only [fX7_operand, lt, jn, k1, k2, show (nI 7 = 0) = False from by simp only [eq_iff_iff]; decide, show (nI 7 = 1) = False from by simp only [eq_iff_iff]; decide, show (nI 7 = 2) = False from by simp only [eq_iff_iff]; decide, show (nI 7 = 3) = False from by simp only [eq_iff_iff]; decide, show (nI 7 = 4) = False from by simp only [eq_iff_iff]; decide, show (nI 7 = 5) = False from by simp only [eq_iff_iff]; decide, show (nI 7 = 6) = False from by simp only [eq_iff_iff]; decide, show (nI 7 = 7) = True from by simp only [eq_iff_iff]; decide, show (nI 2 = 0) = False from by simp only [eq_iff_iff]; decide, show (nI 2 = 1) = False from by simp only [eq_iff_iff]; decide, show (nI 2 = 2) = True from by simp only [eq_iff_iff]; decide, show (nI 2 = 3) = False from by simp only [eq_iff_iff]; decide, show (nI 2 = 4) = False from by simp only [eq_iff_iff]; decide, show (nI 2 = 7) = False from by simp only [eq_iff_iff]; decide, show (nI 9 = 0) = False from by simp only [eq_iff_iff]; decide, show (nI 9 = 1) = False from by simp only [eq_iff_iff]; decide, show (nI 9 = 2) = False from by simp only [eq_iff_iff]; decide, show (nI 9 = 3) = False from by simp only [eq_iff_iff]; decide, show (nI 9 = 4) = False from by simp only [eq_iff_iff]; decide, show (nI 9 = 5) = False from by simp only [eq_iff_iff]; decide, show (nI 9 = 6) = False from by simp only [eq_iff_iff]; decide, show (nI 9 = 7) = False from by simp only [eq_iff_iff]; decide, show (nI 9 = 8) = False from by simp only [eq_iff_iff]; decide, show (nI 9 = 9) = True from by simp only [eq_iff_iff]; decide, show (nI 9 = 10) = False from by simp only [eq_iff_iff]; decide, if_true, if_false, ite_self]
  obtain ⟨a1, a2, a3, a4⟩ := sim_ext hO hF
  have hpc : (sI (sI M 13 (nI 2)) 12 2).1 1 = B.1 2 := hO.2.2.1
  rw [a1, bd_some, a2, bd_some, pX0_at, bd_some, hpc]
  exact ⟨_, _, _, rfl, rfl, a3.adr _, a4.any 14 _ (by decide), Or.inr (Or.inr (Or.inl ⟨rfl, rfl⟩)), rfl⟩
theorem loc_73 (e : Nat) (he : e < 3) (h : Ok c0 d0 B M) (hf : Fr m0 B M) : LocR c0 d0 m0 e 59 B M := by
  obtain ⟨k1, k2, k3⟩ := k3s 59 (by decide)
  have k1 : (nI 59 >>> ((3 : Int32) &&& 31)) &&& 7 = nI 7 := k1
  have k2 : nI 59 &&& 7 = nI 3 := k2
  have hkd : fX0_kind (nI 59) B = some (nI 10, B) := by rw [pX0_kind _ (by decide)]; rfl
  have hO : Ok c0 d0 B (sI (sI M 13 (nI 3)) 12 2) := h.tmp 2 3 (by decide)
  have hF : Fr m0 B (sI (sI M 13 (nI 3)) 12 2) := (hf.any 13 _ (by decide)).any 12 _ (by decide)
  unfold LocR
  rw [show sortOf 59 = 2 from rfl]
  unfold fX0_locate
  rw [gd_t he, lt_d, k2, pX4_get, bd_some, lt_d, hkd, bd_some]
  simp only [fX7_operand, lt, jn, k1, k2, show (nI 7 = 0) = False from by simp only [eq_iff_iff]; decide, show (nI 7 = 1) = False from by simp only [eq_iff_iff]; decide, show (nI 7 = 2) = False from by simp only [eq_iff_iff]; decide, show (nI 7 = 3) = False from by simp only [eq_iff_iff]; decide, show (nI 7 = 4) = False from by simp only [eq_iff_iff]; decide, show (nI 7 = 5) = False from by simp only [eq_iff_iff]; decide, show (nI 7 = 6) = False from by simp only [eq_iff_iff]; decide, show (nI 7 = 7) = True from by simp only [eq_iff_iff]; decide, show (nI 3 = 0) = False from by simp only [eq_iff_iff]; decide, show (nI 3 = 1) = False from by simp only [eq_iff_iff]; decide, show (nI 3 = 2) = False from by simp only [eq_iff_iff]; decide, show (nI 3 = 3) = True from by simp only [eq_iff_iff]; decide, show (nI 3 = 4) = False from by simp only [eq_iff_iff]; decide, show (nI 3 = 7) = False from by simp only [eq_iff_iff]; decide, show (nI 10 = 0) = False from by simp only [eq_iff_iff]; decide, show (nI 10 = 1) = False from by simp only [eq_iff_iff]; decide, show (nI 10 = 2) = False from by simp only [eq_iff_iff]; decide, show (nI 10 = 3) = False from by simp only [eq_iff_iff]; decide, show (nI 10 = 4) = False from by simp only [eq_iff_iff]; decide, show (nI 10 = 5) = False from by simp only [eq_iff_iff]; decide, show (nI 10 = 6) = False from by simp only [eq_iff_iff]; decide, show (nI 10 = 7) = False from by simp only [eq_iff_iff]; decide, show (nI 10 = 8) = False from by simp only [eq_iff_iff]; decide, show (nI 10 = 9) = False from by simp only [eq_iff_iff]; decide, show (nI 10 = 10) = True from by simp only [eq_iff_iff]; decide, if_true, if_false, ite_self]
  have hpc : (sI (sI M 13 (nI 3)) 12 2).1 1 = B.1 2 := hO.2.2.1
  obtain ⟨r, b1, b2⟩ := sim_indexed hO hF (B.1 2)
  obtain ⟨a1, a2, a3, a4⟩ := sim_ext hO hF
  rw [a1, bd_some] at b1
  rw [hpc, b2, bd_some, a1, bd_some, b1, bd_some, pX0_at, bd_some]
  exact ⟨_, _, _, rfl, rfl, a3.adr _, a4.any 14 _ (by decide), Or.inr (Or.inr (Or.inl ⟨rfl, rfl⟩)), rfl⟩
theorem loc_74 (e : Nat) (he : e < 3) (h : Ok c0 d0 B M) (hf : Fr m0 B M) : LocR c0 d0 m0 e 60 B M := by
  obtain ⟨k1, k2, k3⟩ := k3s 60 (by decide)
  have k1 : (nI 60 >>> ((3 : Int32) &&& 31)) &&& 7 = nI 7 := k1
  have k2 : nI 60 &&& 7 = nI 4 := k2
  have hkd : fX0_kind (nI 60) B = some (nI 11, B) := by rw [pX0_kind _ (by decide)]; rfl
  have hO : Ok c0 d0 B (sI (sI M 13 (nI 4)) 12 3) := h.tmp 3 4 (by decide)
  have hF : Fr m0 B (sI (sI M 13 (nI 4)) 12 3) := (hf.any 13 _ (by decide)).any 12 _ (by decide)
  unfold LocR
  rw [show sortOf 60 = 3 from rfl]
  unfold fX0_locate
  rw [gd_t he, lt_d, k2, pX4_get, bd_some, lt_d, hkd, bd_some]
  simp only [fX7_operand, lt, jn, k1, k2, show (nI 7 = 0) = False from by simp only [eq_iff_iff]; decide, show (nI 7 = 1) = False from by simp only [eq_iff_iff]; decide, show (nI 7 = 2) = False from by simp only [eq_iff_iff]; decide, show (nI 7 = 3) = False from by simp only [eq_iff_iff]; decide, show (nI 7 = 4) = False from by simp only [eq_iff_iff]; decide, show (nI 7 = 5) = False from by simp only [eq_iff_iff]; decide, show (nI 7 = 6) = False from by simp only [eq_iff_iff]; decide, show (nI 7 = 7) = True from by simp only [eq_iff_iff]; decide, show (nI 4 = 0) = False from by simp only [eq_iff_iff]; decide, show (nI 4 = 1) = False from by simp only [eq_iff_iff]; decide, show (nI 4 = 2) = False from by simp only [eq_iff_iff]; decide, show (nI 4 = 3) = False from by simp only [eq_iff_iff]; decide, show (nI 4 = 4) = True from by simp only [eq_iff_iff]; decide, show (nI 4 = 7) = False from by simp only [eq_iff_iff]; decide, show (nI 11 = 0) = False from by simp only [eq_iff_iff]; decide, show (nI 11 = 1) = False from by simp only [eq_iff_iff]; decide, show (nI 11 = 2) = False from by simp only [eq_iff_iff]; decide, show (nI 11 = 3) = False from by simp only [eq_iff_iff]; decide, show (nI 11 = 4) = False from by simp only [eq_iff_iff]; decide, show (nI 11 = 5) = False from by simp only [eq_iff_iff]; decide, show (nI 11 = 6) = False from by simp only [eq_iff_iff]; decide, show (nI 11 = 7) = False from by simp only [eq_iff_iff]; decide, show (nI 11 = 8) = False from by simp only [eq_iff_iff]; decide, show (nI 11 = 9) = False from by simp only [eq_iff_iff]; decide, show (nI 11 = 10) = False from by simp only [eq_iff_iff]; decide, if_true, if_false, ite_self]
  obtain ⟨a1, a2, a3, a4⟩ := sim_imm hO hF e he
  rw [a2, bd_some]
  have hI : ∃ a, fX0_lk e B = some (wAt a, sI B 2 (B.1 2 + il e)) ∧ od e a = false ∧ imm m0 (B.1 2) e = ldB m0 a e := lk_ok hf e he
  obtain ⟨a, q1, q2, q3⟩ := hI
  refine ⟨wAt a, _, _, q1, rfl, a3.num rfl _, a4.any 13 _ (by decide), Or.inr (Or.inr (Or.inr ⟨rfl, a, rfl, q2, q3⟩)), rfl⟩
theorem sim_locate (k : Nat) (hk : k < 61) (e : Nat) (he : e < 3) (h : Ok c0 d0 B M) (hf : Fr m0 B M) : LocR c0 d0 m0 e k B M := by
  have hm : k / 8 < 8 := by omega
  rcases (show k / 8 = 0 ∨ k / 8 = 1 ∨ k / 8 = 2 ∨ k / 8 = 3 ∨ k / 8 = 4 ∨ k / 8 = 5 ∨ k / 8 = 6 ∨ k = 56 ∨ k = 57 ∨ k = 58 ∨ k = 59 ∨ k = 60 by omega) with q | q | q | q | q | q | q | rfl | rfl | rfl | rfl | rfl
  · have := loc_0 (k - 0) (by omega) e he h hf
    rwa [show 0 + (k - 0) = k by omega] at this
  · have := loc_1 (k - 8) (by omega) e he h hf
    rwa [show 8 + (k - 8) = k by omega] at this
  · have := loc_2 (k - 16) (by omega) e he h hf
    rwa [show 16 + (k - 16) = k by omega] at this
  · have := loc_3 (k - 24) (by omega) e he h hf
    rwa [show 24 + (k - 24) = k by omega] at this
  · have := loc_4 (k - 32) (by omega) e he h hf
    rwa [show 32 + (k - 32) = k by omega] at this
  · have := loc_5 (k - 40) (by omega) e he h hf
    rwa [show 40 + (k - 40) = k by omega] at this
  · have := loc_6 (k - 48) (by omega) e he h hf
    rwa [show 48 + (k - 48) = k by omega] at this
  · exact loc_70 e he h hf
  · exact loc_71 e he h hf
  · exact loc_72 e he h hf
  · exact loc_73 e he h hf
  · exact loc_74 e he h hf
end LOC2
