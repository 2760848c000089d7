/-! ===== in trouble: operands are still looked for, and nothing that counts changes ===== -/
section INERT2
variable {c : CB} {d : CM} {m : Nat → Int32} {n o : Int32} {B M : St}
theorem TM.tmp (h : TM d m n o M) (s : Int32) (k : Nat) (hk : k < 8) : TM d m n o (sI (sI M 13 (nI k)) 12 s) := ⟨h.1, h.2.1, h.2.2.1, h.2.2.2.1, h.2.2.2.2.1, fun _ => ⟨k, hk, rfl⟩⟩
theorem TM.adr (h : TM d m n o M) (v : Int32) : TM d m n o (sI M 14 v) := h
theorem TM.num (h : TM d m n o M) (hs : M.1 12 = 3) (v : Int32) : TM d m n o (sI M 13 v) := by
  refine ⟨h.1, h.2.1, h.2.2.1, h.2.2.2.1, h.2.2.2.2.1, fun q => ?_⟩
  have q : M.1 12 = 0 ∨ M.1 12 = 1 := q
  rw [hs] at q
  rcases q with q | q <;> exact absurd q (by decide)
theorem tM_ext (h : TM d m n o M) (hn : 0 < n) : fX7_extension M = some (0, sI M 1 (M.1 1 + 2)) := by
  unfold fX7_extension
  rw [pX7_get1 _ _ M (h.gt hn), bd_some]; rfl
theorem tM_indexed (h : TM d m n o M) (hn : 0 < n) (b : Int32) : ∃ r, fX7_indexed b M = some (r, sI M 1 (M.1 1 + 2)) := by
  unfold fX7_indexed
  rw [tM_ext h hn, bd_some]
  exact ⟨_, rfl⟩
theorem tM_imm (h : TM d m n o M) (hn : 0 < n) : ∀ e, e < 3 → ∃ r v, fX7_immediate (szB e) M = some (r, sI M 1 v) := by
  refine e3 ?_ ?_ ?_
  · unfold fX7_immediate
    rw [tM_ext h hn, bd_some]; exact ⟨_, _, rfl⟩
  · unfold fX7_immediate
    rw [tM_ext h hn, bd_some]; exact ⟨_, _, rfl⟩
  · unfold fX7_immediate
    rw [tM_ext h hn, bd_some, jn_d, szB2, if_pos rfl, tM_ext (h.pc _) hn, bd_some]
    refine ⟨((0 : Int32) <<< ((16 : Int32) &&& 31)) ||| 0, M.1 1 + 2 + 2, ?_⟩
    rw [sI_at, sI_I]; rfl
theorem tM_getA (M : St) (y : Nat) (hy : y < 8) : ∃ r, fX7_getA (nI y) M = some (r, M) := ⟨_, pX7_getA M y hy⟩
theorem tM_op0 (h : TM d m n o M) (hn : 0 < n) (y : Nat) (hy : y < 8) (e : Nat) (he : e < 3) : ∃ M', fX7_operand (nI (0 + y)) (szB e) M = some M' ∧ TM d m n o M' := by
  obtain ⟨k1, k2, k3⟩ := k3s (0 + y) (by omega)
  rw [show (0 + y) / 8 = 0 by omega] at k1; rw [show (0 + y) % 8 = y by omega] at k2
  have hO := h.tmp 0 y hy
  obtain ⟨ra, qa⟩ := tM_getA (sI (sI M 13 (nI y)) 12 0) y hy
  simp only [fX7_operand, lt, jn, k1, k2, show (nI 0 = 0) = True from by simp only [eq_iff_iff]; decide, show (nI 0 = 1) = False from by simp only [eq_iff_iff]; decide, show (nI 0 = 2) = False from by simp only [eq_iff_iff]; decide, show (nI 0 = 3) = False from by simp only [eq_iff_iff]; decide, show (nI 0 = 4) = False from by simp only [eq_iff_iff]; decide, show (nI 0 = 5) = False from by simp only [eq_iff_iff]; decide, show (nI 0 = 6) = False from by simp only [eq_iff_iff]; decide, show (nI 0 = 7) = False from by simp only [eq_iff_iff]; decide, if_true, if_false, ite_self]
  exact ⟨_, rfl, hO⟩
theorem tM_op1 (h : TM d m n o M) (hn : 0 < n) (y : Nat) (hy : y < 8) (e : Nat) (he : e < 3) : ∃ M', fX7_operand (nI (8 + y)) (szB e) M = some M' ∧ TM d m n o M' := by
  obtain ⟨k1, k2, k3⟩ := k3s (8 + y) (by omega)
  rw [show (8 + y) / 8 = 1 by omega] at k1; rw [show (8 + y) % 8 = y by omega] at k2
  have hO := h.tmp 1 y hy
  obtain ⟨ra, qa⟩ := tM_getA (sI (sI M 13 (nI y)) 12 1) y hy
  simp only [fX7_operand, lt, jn, k1, k2, show (nI 1 = 0) = False from by simp only [eq_iff_iff]; decide, show (nI 1 = 1) = True from by simp only [eq_iff_iff]; decide, show (nI 1 = 2) = False from by simp only [eq_iff_iff]; decide, show (nI 1 = 3) = False from by simp only [eq_iff_iff]; decide, show (nI 1 = 4) = False from by simp only [eq_iff_iff]; decide, show (nI 1 = 5) = False from by simp only [eq_iff_iff]; decide, show (nI 1 = 6) = False from by simp only [eq_iff_iff]; decide, show (nI 1 = 7) = False from by simp only [eq_iff_iff]; decide, if_true, if_false, ite_self]
  exact ⟨_, rfl, hO⟩
theorem tM_op2 (h : TM d m n o M) (hn : 0 < n) (y : Nat) (hy : y < 8) (e : Nat) (he : e < 3) : ∃ M', fX7_operand (nI (16 + y)) (szB e) M = some M' ∧ TM d m n o M' := by
  obtain ⟨k1, k2, k3⟩ := k3s (16 + y) (by omega)
  rw [show (16 + y) / 8 = 2 by omega] at k1; rw [show (16 + y) % 8 = y by omega] at k2
  have hO := h.tmp 2 y hy
  obtain ⟨ra, qa⟩ := tM_getA (sI (sI M 13 (nI y)) 12 2) y hy
  simp only [fX7_operand, lt, jn, k1, k2, show (nI 2 = 0) = False from by simp only [eq_iff_iff]; decide, show (nI 2 = 1) = False from by simp only [eq_iff_iff]; decide, show (nI 2 = 2) = True from by simp only [eq_iff_iff]; decide, show (nI 2 = 3) = False from by simp only [eq_iff_iff]; decide, show (nI 2 = 4) = False from by simp only [eq_iff_iff]; decide, show (nI 2 = 5) = False from by simp only [eq_iff_iff]; decide, show (nI 2 = 6) = False from by simp only [eq_iff_iff]; decide, show (nI 2 = 7) = False from by simp only [eq_iff_iff]; decide, if_true, if_false, ite_self]
  rw [qa, bd_some]; exact ⟨_, rfl, hO.adr _⟩
theorem tM_op3 (h : TM d m n o M) (hn : 0 < n) (y : Nat) (hy : y < 8) (e : Nat) (he : e < 3) : ∃ M', fX7_operand (nI (24 + y)) (szB e) M = some M' ∧ TM d m n o M' := by
  obtain ⟨k1, k2, k3⟩ := k3s (24 + y) (by omega)
  rw [show (24 + y) / 8 = 3 by omega] at k1; rw [show (24 + y) % 8 = y by omega] at k2
  have hO := h.tmp 2 y hy
  obtain ⟨ra, qa⟩ := tM_getA (sI (sI M 13 (nI y)) 12 2) y hy
  simp only [fX7_operand, lt, jn, k1, k2, show (nI 3 = 0) = False from by simp only [eq_iff_iff]; decide, show (nI 3 = 1) = False from by simp only [eq_iff_iff]; decide, show (nI 3 = 2) = False from by simp only [eq_iff_iff]; decide, show (nI 3 = 3) = True from by simp only [eq_iff_iff]; decide, show (nI 3 = 4) = False from by simp only [eq_iff_iff]; decide, show (nI 3 = 5) = False from by simp only [eq_iff_iff]; decide, show (nI 3 = 6) = False from by simp only [eq_iff_iff]; decide, show (nI 3 = 7) = False from by simp only [eq_iff_iff]; decide, if_true, if_false, ite_self]
  simp only [qa, bd_some, pX7_setA _ _ y hy, bv_some]
  by_cases a : szB e = 1
  · by_cases b : nI y = 7
    · rw [if_pos a, if_pos b]; exact ⟨_, rfl, (hO.adr _).A _ _⟩
    · rw [if_pos a, if_neg b]; exact ⟨_, rfl, (hO.adr _).A _ _⟩
  · rw [if_neg a]; exact ⟨_, rfl, (hO.adr _).A _ _⟩
theorem tM_op4 (h : TM d m n o M) (hn : 0 < n) (y : Nat) (hy : y < 8) (e : Nat) (he : e < 3) : ∃ M', fX7_operand (nI (32 + y)) (szB e) M = some M' ∧ TM d m n o M' := by
  obtain ⟨k1, k2, k3⟩ := k3s (32 + y) (by omega)
  rw [show (32 + y) / 8 = 4 by omega] at k1; rw [show (32 + y) % 8 = y by omega] at k2
  have hO := h.tmp 2 y hy
  obtain ⟨ra, qa⟩ := tM_getA (sI (sI M 13 (nI y)) 12 2) y hy
  simp only [fX7_operand, lt, jn, k1, k2, show (nI 4 = 0) = False from by simp only [eq_iff_iff]; decide, show (nI 4 = 1) = False from by simp only [eq_iff_iff]; decide, show (nI 4 = 2) = False from by simp only [eq_iff_iff]; decide, show (nI 4 = 3) = False from by simp only [eq_iff_iff]; decide, show (nI 4 = 4) = True from by simp only [eq_iff_iff]; decide, show (nI 4 = 5) = False from by simp only [eq_iff_iff]; decide, show (nI 4 = 6) = False from by simp only [eq_iff_iff]; decide, show (nI 4 = 7) = False from by simp only [eq_iff_iff]; decide, if_true, if_false, ite_self]
  simp only [qa, bd_some, pX7_setA _ _ y hy, bv_some, pX7_getA _ y hy]
  by_cases a : szB e = 1
  · by_cases b : nI y = 7
    · rw [if_pos a, if_pos b]; exact ⟨_, rfl, (hO.A _ _).adr _⟩
    · rw [if_pos a, if_neg b]; exact ⟨_, rfl, (hO.A _ _).adr _⟩
  · rw [if_neg a]; exact ⟨_, rfl, (hO.A _ _).adr _⟩
theorem tM_op5 (h : TM d m n o M) (hn : 0 < n) (y : Nat) (hy : y < 8) (e : Nat) (he : e < 3) : ∃ M', fX7_operand (nI (40 + y)) (szB e) M = some M' ∧ TM d m n o M' := by
  obtain ⟨k1, k2, k3⟩ := k3s (40 + y) (by omega)
  rw [show (40 + y) / 8 = 5 by omega] at k1; rw [show (40 + y) % 8 = y by omega] at k2
  have hO := h.tmp 2 y hy
  obtain ⟨ra, qa⟩ := tM_getA (sI (sI M 13 (nI y)) 12 2) y hy
  simp only [fX7_operand, lt, jn, k1, k2, show (nI 5 = 0) = False from by simp only [eq_iff_iff]; decide, show (nI 5 = 1) = False from by simp only [eq_iff_iff]; decide, show (nI 5 = 2) = False from by simp only [eq_iff_iff]; decide, show (nI 5 = 3) = False from by simp only [eq_iff_iff]; decide, show (nI 5 = 4) = False from by simp only [eq_iff_iff]; decide, show (nI 5 = 5) = True from by simp only [eq_iff_iff]; decide, show (nI 5 = 6) = False from by simp only [eq_iff_iff]; decide, show (nI 5 = 7) = False from by simp only [eq_iff_iff]; decide, if_true, if_false, ite_self]
  rw [qa, bd_some, tM_ext hO hn, bd_some]; exact ⟨_, rfl, (hO.pc _).adr _⟩
theorem tM_op6 (h : TM d m n o M) (hn : 0 < n) (y : Nat) (hy : y < 8) (e : Nat) (he : e < 3) : ∃ M', fX7_operand (nI (48 + y)) (szB e) M = some M' ∧ TM d m n o M' := by
  obtain ⟨k1, k2, k3⟩ := k3s (48 + y) (by omega)
  rw [show (48 + y) / 8 = 6 by omega] at k1; rw [show (48 + y) % 8 = y by omega] at k2
  have hO := h.tmp 2 y hy
  obtain ⟨ra, qa⟩ := tM_getA (sI (sI M 13 (nI y)) 12 2) y hy
  simp only [fX7_operand, lt, jn, k1, k2, show (nI 6 = 0) = False from by simp only [eq_iff_iff]; decide, show (nI 6 = 1) = False from by simp only [eq_iff_iff]; decide, show (nI 6 = 2) = False from by simp only [eq_iff_iff]; decide, show (nI 6 = 3) = False from by simp only [eq_iff_iff]; decide, show (nI 6 = 4) = False from by simp only [eq_iff_iff]; decide, show (nI 6 = 5) = False from by simp only [eq_iff_iff]; decide, show (nI 6 = 6) = True from by simp only [eq_iff_iff]; decide, show (nI 6 = 7) = False from by simp only [eq_iff_iff]; decide, if_true, if_false, ite_self]
  obtain ⟨r, q⟩ := tM_indexed hO hn ra
  rw [qa, bd_some, q, bd_some]; exact ⟨_, rfl, (hO.pc _).adr _⟩
theorem tM_op70 (h : TM d m n o M) (hn : 0 < n) (e : Nat) (he : e < 3) : ∃ M', fX7_operand (nI 56) (szB e) M = some M' ∧ TM d m n o M' := by
  obtain ⟨k1, k2, k3⟩ := k3s 56 (by decide)
  have k1 : (nI 56 >>> ((3 : Int32) &&& 31)) &&& 7 = nI 7 := k1
  have k2 : nI 56 &&& 7 = nI 0 := k2
  have hO := h.tmp 2 0 (by decide)
  simp only [fX7_operand, lt, jn, k1, k2, show (nI 7 = 0) = False from by simp only [eq_iff_iff]; decide, show (nI 7 = 1) = False from by simp only [eq_iff_iff]; decide, show (nI 7 = 2) = False from by simp only [eq_iff_iff]; decide, show (nI 7 = 3) = False from by simp only [eq_iff_iff]; decide, show (nI 7 = 4) = False from by simp only [eq_iff_iff]; decide, show (nI 7 = 5) = False from by simp only [eq_iff_iff]; decide, show (nI 7 = 6) = False from by simp only [eq_iff_iff]; decide, show (nI 7 = 7) = True from by simp only [eq_iff_iff]; decide, show (nI 0 = 0) = True from by simp only [eq_iff_iff]; decide, show (nI 0 = 1) = False from by simp only [eq_iff_iff]; decide, show (nI 0 = 2) = False from by simp only [eq_iff_iff]; decide, show (nI 0 = 3) = False from by simp only [eq_iff_iff]; decide, show (nI 0 = 4) = False from by simp only [eq_iff_iff]; decide, show (nI 0 = 7) = False from by simp only [eq_iff_iff]; decide, if_true, if_false, ite_self]
  rw [tM_ext hO hn, bd_some]; exact ⟨_, rfl, (hO.pc _).adr _⟩
theorem tM_op71 (h : TM d m n o M) (hn : 0 < n) (e : Nat) (he : e < 3) : ∃ M', fX7_operand (nI 57) (szB e) M = some M' ∧ TM d m n o M' := by
  obtain ⟨k1, k2, k3⟩ := k3s 57 (by decide)
  have k1 : (nI 57 >>> ((3 : Int32) &&& 31)) &&& 7 = nI 7 := k1
  have k2 : nI 57 &&& 7 = nI 1 := k2
  have hO := h.tmp 2 1 (by decide)
  simp only [fX7_operand, lt, jn, k1, k2, show (nI 7 = 0) = False from by simp only [eq_iff_iff]; decide, show (nI 7 = 1) = False from by simp only [eq_iff_iff]; decide, show (nI 7 = 2) = False from by simp only [eq_iff_iff]; decide, show (nI 7 = 3) = False from by simp only [eq_iff_iff]; decide, show (nI 7 = 4) = False from by simp only [eq_iff_iff]; decide, show (nI 7 = 5) = False from by simp only [eq_iff_iff]; decide, show (nI 7 = 6) = False from by simp only [eq_iff_iff]; decide, show (nI 7 = 7) = True from by simp only [eq_iff_iff]; decide, show (nI 1 = 0) = False from by simp only [eq_iff_iff]; decide, show (nI 1 = 1) = True from by simp only [eq_iff_iff]; decide, show (nI 1 = 2) = False from by simp only [eq_iff_iff]; decide, show (nI 1 = 3) = False from by simp only [eq_iff_iff]; decide, show (nI 1 = 4) = False from by simp only [eq_iff_iff]; decide, show (nI 1 = 7) = False from by simp only [eq_iff_iff]; decide, if_true, if_false, ite_self]
  rw [tM_ext hO hn, bd_some, tM_ext (hO.pc _) hn, bd_some]; exact ⟨_, rfl, ((hO.pc _).pc _).adr _⟩
theorem tM_op72 (h : TM d m n o M) (hn : 0 < n) (e : Nat) (he : e < 3) : ∃ M', fX7_operand (nI 58) (szB e) M = some M' ∧ TM d m n o M' := by
  obtain ⟨k1, k2, k3⟩ := k3s 58 (by decide)
  have k1 : (nI 58 >>> ((3 : Int32) &&& 31)) &&& 7 = nI 7 := k1
  have k2 : nI 58 &&& 7 = nI 2 := k2
  have hO := h.tmp 2 2 (by decide)
  simp only [fX7_operand, lt, jn, k1, k2, show (nI 7 = 0) = False from by simp only [eq_iff_iff]; decide, show (nI 7 = 1) = False from by simp only [eq_iff_iff]; decide, show (nI 7 = 2) = False from by simp only [eq_iff_iff]; decide, show (nI 7 = 3) = False from by simp only [eq_iff_iff]; decide, show (nI 7 = 4) = False from by simp only [eq_iff_iff]; decide, show (nI 7 = 5) = False from by simp only [eq_iff_iff]; decide, show (nI 7 = 6) = False from by simp only [eq_iff_iff]; decide, show (nI 7 = 7) = True from by simp only [eq_iff_iff]; decide, show (nI 2 = 0) = False from by simp only [eq_iff_iff]; decide, show (nI 2 = 1) = False from by simp only [eq_iff_iff]; decide, show (nI 2 = 2) = True from by simp only [eq_iff_iff]; decide, show (nI 2 = 3) = False from by simp only [eq_iff_iff]; decide, show (nI 2 = 4) = False from by simp only [eq_iff_iff]; decide, show (nI 2 = 7) = False from by simp only [eq_iff_iff]; decide, if_true, if_false, ite_self]
  rw [tM_ext hO hn, bd_some]; exact ⟨_, rfl, (hO.pc _).adr _⟩
theorem tM_op73 (h : TM d m n o M) (hn : 0 < n) (e : Nat) (he : e < 3) : ∃ M', fX7_operand (nI 59) (szB e) M = some M' ∧ TM d m n o M' := by
  obtain ⟨k1, k2, k3⟩ := k3s 59 (by decide)
  have k1 : (nI 59 >>> ((3 : Int32) &&& 31)) &&& 7 = nI 7 := k1
  have k2 : nI 59 &&& 7 = nI 3 := k2
  have hO := h.tmp 2 3 (by decide)
  simp only [fX7_operand, lt, jn, k1, k2, show (nI 7 = 0) = False from by simp only [eq_iff_iff]; decide, show (nI 7 = 1) = False from by simp only [eq_iff_iff]; decide, show (nI 7 = 2) = False from by simp only [eq_iff_iff]; decide, show (nI 7 = 3) = False from by simp only [eq_iff_iff]; decide, show (nI 7 = 4) = False from by simp only [eq_iff_iff]; decide, show (nI 7 = 5) = False from by simp only [eq_iff_iff]; decide, show (nI 7 = 6) = False from by simp only [eq_iff_iff]; decide, show (nI 7 = 7) = True from by simp only [eq_iff_iff]; decide, show (nI 3 = 0) = False from by simp only [eq_iff_iff]; decide, show (nI 3 = 1) = False from by simp only [eq_iff_iff]; decide, show (nI 3 = 2) = False from by simp only [eq_iff_iff]; decide, show (nI 3 = 3) = True from by simp only [eq_iff_iff]; decide, show (nI 3 = 4) = False from by simp only [eq_iff_iff]; decide, show (nI 3 = 7) = False from by simp only [eq_iff_iff]; decide, if_true, if_false, ite_self]
  obtain ⟨r, q⟩ := tM_indexed hO hn ((sI (sI M 13 (nI 3)) 12 2).1 1)
  rw [q, bd_some]; exact ⟨_, rfl, (hO.pc _).adr _⟩
theorem tM_op74 (h : TM d m n o M) (hn : 0 < n) (e : Nat) (he : e < 3) : ∃ M', fX7_operand (nI 60) (szB e) M = some M' ∧ TM d m n o M' := by
  obtain ⟨k1, k2, k3⟩ := k3s 60 (by decide)
  have k1 : (nI 60 >>> ((3 : Int32) &&& 31)) &&& 7 = nI 7 := k1
  have k2 : nI 60 &&& 7 = nI 4 := k2
  have hO := h.tmp 3 4 (by decide)
  simp only [fX7_operand, lt, jn, k1, k2, show (nI 7 = 0) = False from by simp only [eq_iff_iff]; decide, show (nI 7 = 1) = False from by simp only [eq_iff_iff]; decide, show (nI 7 = 2) = False from by simp only [eq_iff_iff]; decide, show (nI 7 = 3) = False from by simp only [eq_iff_iff]; decide, show (nI 7 = 4) = False from by simp only [eq_iff_iff]; decide, show (nI 7 = 5) = False from by simp only [eq_iff_iff]; decide, show (nI 7 = 6) = False from by simp only [eq_iff_iff]; decide, show (nI 7 = 7) = True from by simp only [eq_iff_iff]; decide, show (nI 4 = 0) = False from by simp only [eq_iff_iff]; decide, show (nI 4 = 1) = False from by simp only [eq_iff_iff]; decide, show (nI 4 = 2) = False from by simp only [eq_iff_iff]; decide, show (nI 4 = 3) = False from by simp only [eq_iff_iff]; decide, show (nI 4 = 4) = True from by simp only [eq_iff_iff]; decide, show (nI 4 = 7) = False from by simp only [eq_iff_iff]; decide, if_true, if_false, ite_self]
  obtain ⟨r, v, q⟩ := tM_imm hO hn e he
  rw [q, bd_some]; exact ⟨_, rfl, (hO.pc _).num rfl _⟩
theorem tM_operand (h : TM d m n o M) (hn : 0 < n) (k : Nat) (hk : k < 61) (e : Nat) (he : e < 3) : ∃ M', fX7_operand (nI k) (szB e) M = some M' ∧ TM d m n o M' := by
  rcases (show k / 8 = 0 ∨ k / 8 = 1 ∨ k / 8 = 2 ∨ k / 8 = 3 ∨ k / 8 = 4 ∨ k / 8 = 5 ∨ k / 8 = 6 ∨ k = 56 ∨ k = 57 ∨ k = 58 ∨ k = 59 ∨ k = 60 by omega) with q | q | q | q | q | q | q | rfl | rfl | rfl | rfl | rfl
  · have := tM_op0 h hn (k - 0) (by omega) e he
    rwa [show 0 + (k - 0) = k by omega] at this
  · have := tM_op1 h hn (k - 8) (by omega) e he
    rwa [show 8 + (k - 8) = k by omega] at this
  · have := tM_op2 h hn (k - 16) (by omega) e he
    rwa [show 16 + (k - 16) = k by omega] at this
  · have := tM_op3 h hn (k - 24) (by omega) e he
    rwa [show 24 + (k - 24) = k by omega] at this
  · have := tM_op4 h hn (k - 32) (by omega) e he
    rwa [show 32 + (k - 32) = k by omega] at this
  · have := tM_op5 h hn (k - 40) (by omega) e he
    rwa [show 40 + (k - 40) = k by omega] at this
  · have := tM_op6 h hn (k - 48) (by omega) e he
    rwa [show 48 + (k - 48) = k by omega] at this
  · exact tM_op70 h hn e he
  · exact tM_op71 h hn e he
  · exact tM_op72 h hn e he
  · exact tM_op73 h hn e he
  · exact tM_op74 h hn e he
theorem tB_locate (h : TB c m n o B) (k : Nat) (hk : k < 64) (e : Nat) (he : e < 3) : ∃ w B', fX0_locate e (nI k) B = some (w, B') ∧ TB c m n o B' := by
  obtain ⟨-, k2, -⟩ := k3s k hk
  unfold fX0_locate
  rw [gd_t he, lt_d, k2, pX4_get, bd_some, lt_d, pX0_kind k hk, bd_some]
  generalize (if 7 ≤ nI (k / 8) then 7 + nI (k % 8) else nI (k / 8)) = r2
  simp only [pX0_inRegister, pX0_at, pX0_stride _ _ e he, pX4_set, pX0_nextWord, pX0_nextLong, bd_some, bv_some]
  have ix : ∀ b w : Int32, ∀ S : St, ∃ r, fX0_indexed b w S = some (r, S) := by
    intro b w S
    unfold fX0_indexed
    rw [pX4_get, bd_some]
    split <;> exact ⟨_, rfl⟩
  by_cases q0 : r2 = 0
  · rw [if_pos q0]; exact ⟨_, _, rfl, h⟩
  rw [if_neg q0]
  by_cases q1 : r2 = 1
  · rw [if_pos q1]; exact ⟨_, _, rfl, h⟩
  rw [if_neg q1]
  by_cases q2 : r2 = 2
  · rw [if_pos q2]; exact ⟨_, _, rfl, h⟩
  rw [if_neg q2]
  by_cases q3 : r2 = 3
  · rw [if_pos q3]; exact ⟨_, _, rfl, h.A _ _⟩
  rw [if_neg q3]
  by_cases q4 : r2 = 4
  · rw [if_pos q4]; exact ⟨_, _, rfl, h.A _ _⟩
  rw [if_neg q4]
  by_cases q5 : r2 = 5
  · rw [if_pos q5]; exact ⟨_, _, rfl, h.pc _⟩
  rw [if_neg q5]
  by_cases q6 : r2 = 6
  · rw [if_pos q6]
    obtain ⟨r, hr⟩ := ix (B.2.2 1 (r4 (8 + nI (k % 8)))) (ldB (B.2.2 0) (B.1 2) 1) (sI B 2 (B.1 2 + 2))
    rw [hr, bd_some]; exact ⟨_, _, rfl, h.pc _⟩
  rw [if_neg q6]
  by_cases q7 : r2 = 7
  · rw [if_pos q7]; exact ⟨_, _, rfl, h.pc _⟩
  rw [if_neg q7]
  by_cases q8 : r2 = 8
  · rw [if_pos q8]; exact ⟨_, _, rfl, h.pc _⟩
  rw [if_neg q8]
  by_cases q9 : r2 = 9
  · rw [if_pos q9]; exact ⟨_, _, rfl, h.pc _⟩
  rw [if_neg q9]
  by_cases q10 : r2 = 10
  · rw [if_pos q10]
    obtain ⟨r, hr⟩ := ix (B.1 2) (ldB (B.2.2 0) (B.1 2) 1) (sI B 2 (B.1 2 + 2))
    rw [hr, bd_some]; exact ⟨_, _, rfl, h.pc _⟩
  rw [if_neg q10]
  simp only [jn, lt]
  by_cases z : e = 2
  · rw [if_pos z]
    by_cases z0 : e = 0
    · rw [if_pos z0]; exact ⟨_, _, rfl, h.pc _⟩
    · rw [if_neg z0]; exact ⟨_, _, rfl, h.pc _⟩
  · rw [if_neg z]
    by_cases z0 : e = 0
    · rw [if_pos z0]; exact ⟨_, _, rfl, h.pc _⟩
    · rw [if_neg z0]; exact ⟨_, _, rfl, h.pc _⟩
end INERT2
