/-! ===== many registers ===== -/
theorem bl_c {l : Nat} (hl : l < 65536) (j : Nat) (hj : j < 16) : (ush (nI l) (nI j)) &&& 1 = nI (l / 2 ^ j % 2) := by
  have h2 : l / 2 ^ j ≤ l := Nat.div_le_self _ _
  rw [ush_n hl j (by omega) (nI j) (s_u j (by omega)), pk_andN (by omega) (m := 1) 1 (by decide)]
theorem bl_r {l : Nat} (hl : l < 65536) (j : Nat) (hj : j < 16) : (nI l >>> (nI j &&& 31)) &&& 1 = nI (l / 2 ^ j % 2) := by
  have h2 : l / 2 ^ j ≤ l := Nat.div_le_self _ _
  rw [pk_shrN (by omega) (nI j &&& 31) j (s_l j (by omega)), pk_andN (by omega) (m := 1) 1 (by decide)]
theorem par_sub (a : Int32) : ∀ e, e = 1 ∨ e = 2 → (a - szB e) &&& 1 = a &&& 1 ∧ (a + szB e) &&& 1 = a &&& 1 := by
  have key : ∀ x : Int32, (a - x) &&& 1 = nI ((a.toBitVec.toNat + (4294967296 - x.toBitVec.toNat)) % 2) ∧ (a + x) &&& 1 = nI ((a.toBitVec.toNat + x.toBitVec.toNat) % 2) := by
    intro x
    have hx : x.toBitVec.toNat < 4294967296 := x.toBitVec.isLt
    rw [and1_v, and1_v, Int32.toBitVec_sub, BitVec.toNat_sub, Int32.toBitVec_add, BitVec.toNat_add]
    constructor
    · congr 1; omega
    · congr 1; omega
  intro e he
  rw [and1_v a]
  rcases he with rfl | rfl
  · obtain ⟨a1, a2⟩ := key (szB 1)
    rw [a1, a2, show (szB 1).toBitVec.toNat = 2 from by decide]
    constructor
    · congr 1; omega
    · congr 1; omega
  · obtain ⟨a1, a2⟩ := key (szB 2)
    rw [a1, a2, show (szB 2).toBitVec.toNat = 4 from by decide]
    constructor
    · congr 1; omega
    · congr 1; omega
theorem od12 (e : Nat) (he : e = 1 ∨ e = 2) (a : Int32) : od e a = !decide (a &&& 1 = 0) := by
  unfold od
  rw [decide_eq_false (by omega)]
  rfl
theorem n15 : ∀ j, j < 16 → (15 : Int32) - nI j = nI (15 - j) := by decide
theorem n88 : ∀ r, r < 16 → 8 ≤ r → nI r - 8 = nI (r - 8) := by decide
theorem l8r : ∀ r, r < 16 → (8 ≤ nI r ↔ 8 ≤ r) := by decide
theorem l16 : ∀ j, j < 16 → ¬ (16 : Int32) ≤ nI j := by decide
section HN
variable {c0 : CB} {d0 : CM} {m0 : Nat → Int32} {B M : St}
/-- a register's value on the reference's side -/
theorem rval {α : Type} {r : Nat} (hr : r < 16) (h : Ok c0 d0 B M) (K : Int32 → St → Option α) : (jn K fun K5 => (if 8 ≤ nI r then (bd (fX7_getA (nI r - 8) M) fun r1 S7 => (K5 r1 S7))
    else (gd (ixo (nI r) 8 = true) (K5 (M.2.2 1 (nI r).toNatClampNeg) M)))) = K (B.2.2 1 r) M := by
  rw [jn_d]
  by_cases q : 8 ≤ r
  · rw [if_pos ((l8r r hr).mpr q), n88 r hr q, h.gA _ (by omega), bd_some, show 8 + (r - 8) = r by omega]
  · rw [if_neg (fun z => q ((l8r r hr).mp z)), gd_t (ix8 (by omega)), cl8 (by omega), h.gD _ (by omega)]
theorem rvalT {α : Type} {r : Nat} (hr : r < 16) (M : St) (K : Int32 → St → Option α) : ∃ x, (jn K fun K5 => (if 8 ≤ nI r then (bd (fX7_getA (nI r - 8) M) fun r1 S7 => (K5 r1 S7))
    else (gd (ixo (nI r) 8 = true) (K5 (M.2.2 1 (nI r).toNatClampNeg) M)))) = K x M := by
  rw [jn_d]
  by_cases q : 8 ≤ r
  · rw [if_pos ((l8r r hr).mpr q), n88 r hr q, pX7_getA _ _ (by omega), bd_some]
    exact ⟨_, rfl⟩
  · rw [if_neg (fun z => q ((l8r r hr).mp z)), gd_t (ix8 (by omega)), cl8 (by omega)]
    exact ⟨_, rfl⟩
/-- where a row of stores stands: all well and even, or nothing written yet, or in trouble -/
def RS (c0 : CB) (d0 : CM) (m0 : Nat → Int32) (a : Int32) (B M : St) : Prop := (Ok c0 d0 B M ∧ (a &&& 1 = 0 ∨ Fr m0 B M)) ∨ Tr c0 d0 m0 B M
theorem RS.fin {a : Int32} (h : RS c0 d0 m0 a B M) : Fin1 c0 d0 m0 B M := h.elim (fun q => Or.inl q.1) Or.inr
theorem RS.st (e : Nat) (he : e = 1 ∨ e = 2) (a v : Int32) (a' : Int32) (ha' : a' &&& 1 = a &&& 1) (h : Ok c0 d0 B M ∧ (a &&& 1 = 0 ∨ Fr m0 B M)) : ∃ B' M', fX0_storeAt e a v B = some B' ∧ fX7_set a v (szB e) M = some M' ∧ RS c0 d0 m0 a' B' M' := by
  have he3 : e < 3 := by omega
  obtain ⟨hO, hp⟩ := h
  rw [pX0_storeAt0 _ _ _ hO.2.2.2.2.2.1 e he3]
  rcases pX7_set0 a v M hO.2.2.2.2.2.2.2.1 hO.2.2.2.2.2.2.2.2.2.2.2.1 e he3 with ⟨a1, a2⟩ | ⟨a1, M', a2, a3, a4⟩
  · rw [a1, if_pos rfl, a2]
    rcases hp with hp | hp
    · rw [od12 e he, decide_eq_true hp] at a1; cases a1
    · exact ⟨_, _, rfl, rfl, Or.inr (hO.tr hp 3 a (by decide))⟩
  · rw [a1, if_neg (by decide), a2]
    have ev : a &&& 1 = 0 := by
      rw [od12 e he] at a1
      cases q : decide (a &&& 1 = 0)
      · rw [q] at a1; cases a1
      · exact of_decide_eq_true q
    exact ⟨_, _, rfl, rfl, Or.inl ⟨hO.mem a v e he3 a3 a4, Or.inl (ha'.trans ev)⟩⟩
theorem Tr.sta (e : Nat) (he : e < 3) (a v n v' a' : Int32) (h : Tr c0 d0 m0 B M) : fX0_storeAt e a v B = some B ∧ fX7_set a' v' n M = some M := by
  obtain ⟨nn, o, m1, hn, hm, hB, hM⟩ := h
  exact ⟨pX0_storeAt1 _ _ _ (hB.ne hn) e he, pX7_set1 _ _ _ _ (hM.gt hn)⟩
/-! downward -/
theorem dn_loop (e : Nat) (he : e = 1 ∨ e = 2) {l y : Nat} (hl : l < 65536) (hy : y < 8) : ∀ m j a (B M : St), 16 = j + m → RS c0 d0 m0 a B M → ∃ B' M', fX2_storeDownward_l1 e (nI l) (8 + nI y) (m + 1) (nI j) a B = some B' ∧ fX7_toMemory_l1 (nI y) true (szB e) (nI l) (m + 1) (nI j) a M = some M' ∧ Fin1 c0 d0 m0 B' M' := by
  have he3 : e < 3 := by omega
  intro m
  induction m with
  | zero =>
    intro j a B M hj h
    have j16 : j = 16 := by omega
    subst j16
    show ∃ B' M', fX2_storeDownward_b1 e (nI l) (8 + nI y) (fX2_storeDownward_l1 e (nI l) (8 + nI y) 0) (nI 16) a B = some B' ∧ fX7_toMemory_b1 (nI y) true (szB e) (nI l) (fX7_toMemory_l1 (nI y) true (szB e) (nI l) 0) (nI 16) a M = some M' ∧ _
    unfold fX2_storeDownward_b1 fX7_toMemory_b1
    rw [if_pos (show (16 : Int32) ≤ nI 16 by decide), if_pos (show (16 : Int32) ≤ nI 16 by decide), pX4_set, bv_some, r4_8 _ hy, if_neg (show ¬ zI true = 0 by decide)]
    rcases h with ⟨hO, -⟩ | hT
    · obtain ⟨q1, q2⟩ := hO.sA_ _ hy a
      rw [if_pos hO.2.2.2.2.2.2.2.1, q1, bv_some]
      exact ⟨_, _, rfl, rfl, Or.inl q2⟩
    · rw [if_neg hT.ne]
      exact ⟨_, _, rfl, rfl, Or.inr (hT.B_ _ _)⟩
  | succ m ih =>
    intro j a B M hj h
    have hj16 : j < 16 := by omega
    show ∃ B' M', fX2_storeDownward_b1 e (nI l) (8 + nI y) (fX2_storeDownward_l1 e (nI l) (8 + nI y) (m + 1)) (nI j) a B = some B' ∧ fX7_toMemory_b1 (nI y) true (szB e) (nI l) (fX7_toMemory_l1 (nI y) true (szB e) (nI l) (m + 1)) (nI j) a M = some M' ∧ _
    unfold fX2_storeDownward_b1 fX7_toMemory_b1
    rw [if_neg (l16 j hj16), if_neg (l16 j hj16), bl_c hl j hj16, bl_r hl j hj16, jn_d, jn_d]
    by_cases q : l / 2 ^ j % 2 = 0
    · rw [q, if_pos (show nI 0 = 0 from rfl), if_neg (show ¬ nI 0 = 1 by decide)]
      dsimp only
      rw [lt_d, lt_d, nS64 j (by omega)]
      exact ih (j + 1) a B M (by omega) h
    · rw [show l / 2 ^ j % 2 = 1 by omega, if_neg (show ¬ nI 1 = 0 by decide), if_pos (show nI 1 = 1 from rfl), lt_d, pX4_get, bd_some, n15 j hj16, r4_n _ (by omega), selZj, if_pos rfl]
      rcases h with hO | hT
      · have pa := (par_sub a e he).1
        have hO' : Ok c0 d0 B M ∧ ((a - szB e) &&& 1 = 0 ∨ Fr m0 B M) := ⟨hO.1, by rw [pa]; exact hO.2⟩
        obtain ⟨B1, M1, p1, p2, p3⟩ := RS.st e he (a - szB e) (B.2.2 1 (15 - j)) (a - szB e) rfl hO'
        rw [p1, bv_some, rval (by omega) hO.1, selZj, if_pos rfl, p2, bv_some, selZj, if_pos rfl]
        dsimp only
        rw [lt_d, lt_d, nS64 j (by omega)]
        exact ih (j + 1) _ B1 M1 (by omega) p3
      · obtain ⟨x, hx⟩ := rvalT (r := 15 - j) (by omega) M (fun (v8 : Int32) (S5 : St) => (jn (fun (v9 : Int32) => (bv (fX7_set v9 v8 (szB e) S5) fun S6 => (jn (fun (v10 : Int32) => ((fun (v5 : Int32) (S4 : St) => (lt (nI j + 1) fun v6 => (fX7_toMemory_l1 (nI y) true (szB e) (nI l) (m + 1) v6 v5 S4))) v10 S6)) fun K7 =>
    (if (zI true) = 0 then (K7 (v9 + szB e))
    else (K7 v9))))) fun K6 =>
    (if (zI true) = 0 then (K6 a)
    else (K6 (a - szB e)))))
        rw [hx, (hT.sta e he3 (a - szB e) _ 0 0 0).1, bv_some, selZj, if_pos rfl, (hT.sta e he3 0 0 (szB e) x (a - szB e)).2, bv_some, selZj, if_pos rfl]
        dsimp only
        rw [lt_d, lt_d, nS64 j (by omega)]
        exact ih (j + 1) _ B M (by omega) (Or.inr hT)
/-! upward -/
theorem up_loop (e : Nat) (he : e = 1 ∨ e = 2) {l y : Nat} (hl : l < 65536) : ∀ m j a (B M : St), 16 = j + m → RS c0 d0 m0 a B M → ∃ B' M', fX2_storeUpward_l1 e (nI l) (m + 1) (nI j) a B = some B' ∧ fX7_toMemory_l1 (nI y) false (szB e) (nI l) (m + 1) (nI j) a M = some M' ∧ Fin1 c0 d0 m0 B' M' := by
  have he3 : e < 3 := by omega
  intro m
  induction m with
  | zero =>
    intro j a B M hj h
    have j16 : j = 16 := by omega
    subst j16
    show ∃ B' M', fX2_storeUpward_b1 e (nI l) (fX2_storeUpward_l1 e (nI l) 0) (nI 16) a B = some B' ∧ fX7_toMemory_b1 (nI y) false (szB e) (nI l) (fX7_toMemory_l1 (nI y) false (szB e) (nI l) 0) (nI 16) a M = some M' ∧ _
    unfold fX2_storeUpward_b1 fX7_toMemory_b1
    rw [if_pos (show (16 : Int32) ≤ nI 16 by decide), if_pos (show (16 : Int32) ≤ nI 16 by decide), if_pos zI_f]
    exact ⟨_, _, rfl, rfl, h.fin⟩
  | succ m ih =>
    intro j a B M hj h
    have hj16 : j < 16 := by omega
    show ∃ B' M', fX2_storeUpward_b1 e (nI l) (fX2_storeUpward_l1 e (nI l) (m + 1)) (nI j) a B = some B' ∧ fX7_toMemory_b1 (nI y) false (szB e) (nI l) (fX7_toMemory_l1 (nI y) false (szB e) (nI l) (m + 1)) (nI j) a M = some M' ∧ _
    unfold fX2_storeUpward_b1 fX7_toMemory_b1
    rw [if_neg (l16 j hj16), if_neg (l16 j hj16), bl_c hl j hj16, bl_r hl j hj16, jn_d, jn_d]
    by_cases q : l / 2 ^ j % 2 = 0
    · rw [q, if_pos (show nI 0 = 0 from rfl), if_neg (show ¬ nI 0 = 1 by decide)]
      dsimp only
      rw [lt_d, lt_d, nS64 j (by omega)]
      exact ih (j + 1) a B M (by omega) h
    · rw [show l / 2 ^ j % 2 = 1 by omega, if_neg (show ¬ nI 1 = 0 by decide), if_pos (show nI 1 = 1 from rfl), pX4_get, bd_some, r4_n _ hj16, selZj, if_neg (show ¬ (false = true) by decide)]
      rcases h with hO | hT
      · obtain ⟨B1, M1, p1, p2, p3⟩ := RS.st e he a (B.2.2 1 j) (a + szB e) (par_sub a e he).2 hO
        rw [p1, bv_some, lt_d, rval hj16 hO.1, selZj, if_neg (show ¬ (false = true) by decide), p2, bv_some, selZj, if_neg (show ¬ (false = true) by decide)]
        dsimp only
        rw [lt_d, lt_d, nS64 j (by omega)]
        exact ih (j + 1) _ B1 M1 (by omega) p3
      · obtain ⟨x, hx⟩ := rvalT (r := j) hj16 M (fun (v8 : Int32) (S5 : St) => (jn (fun (v9 : Int32) => (bv (fX7_set v9 v8 (szB e) S5) fun S6 => (jn (fun (v10 : Int32) => ((fun (v5 : Int32) (S4 : St) => (lt (nI j + 1) fun v6 => (fX7_toMemory_l1 (nI y) false (szB e) (nI l) (m + 1) v6 v5 S4))) v10 S6)) fun K7 =>
    (if (zI false) = 0 then (K7 (v9 + szB e))
    else (K7 v9))))) fun K6 =>
    (if (zI false) = 0 then (K6 a)
    else (K6 (a - szB e)))))
        rw [hx, (hT.sta e he3 a _ 0 0 0).1, bv_some, lt_d, selZj, if_neg (show ¬ (false = true) by decide), (hT.sta e he3 0 0 (szB e) x a).2, bv_some, selZj, if_neg (show ¬ (false = true) by decide)]
        dsimp only
        rw [lt_d, lt_d, nS64 j (by omega)]
        exact ih (j + 1) _ B M (by omega) (Or.inr hT)
end HN
