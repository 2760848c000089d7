/-! ===== exceptions in step: enter, pushFault, leaveFor against exception ===== -/
def swn (n : Nat → Int32) (v sr : Int32) : Nat → Int32 := if ((v ^^^ sr) &&& 8192) = 0 then n else upd (upd n 16 (n 15)) 15 (n 16)
theorem swp_n (v : Int32) (B : St) : (swp v B).2.2 1 = swn (B.2.2 1) v (B.1 3) := by
  unfold swp swn
  by_cases h : ((v ^^^ (B.1 3)) &&& 8192) = 0
  · rw [if_pos h, if_pos h]
  · rw [if_neg h, if_neg h]; rfl
theorem swp_1 (v : Int32) (B : St) : (swp v B).1 = B.1 ∧ (swp v B).2.1 = B.2.1 ∧ (∀ j, j ≠ 1 → (swp v B).2.2 j = B.2.2 j) := by
  unfold swp
  split
  · exact ⟨rfl, rfl, fun _ _ => rfl⟩
  · refine ⟨rfl, rfl, fun j hj => ?_⟩
    show va_up (va_up B.2.2 1 _) 1 _ j = _
    rw [va_up_ne _ _ hj, va_up_ne _ _ hj]
theorem Rg.status {n d a s : Nat → Int32} {sr : Int32} (h : Rg n d a s sr) (v : Int32) : Rg (swn n v sr) d a s (v &&& 42783) := by
  have h8 : (v &&& 42783) &&& 8192 = v &&& 8192 := by rw [and_and]; rfl
  obtain ⟨r1, r2, r3, r4⟩ := h
  unfold swn
  by_cases hx : ((v ^^^ sr) &&& 8192) = 0
  · rw [if_pos hx]
    have hh : v &&& 8192 = sr &&& 8192 := by
      rw [xor_and] at hx
      rcases and_bit v with q | q <;> rcases and_bit sr with z | z
      · rw [q, z]
      · rw [q, z] at hx; exact absurd hx (by decide)
      · rw [q, z] at hx; exact absurd hx (by decide)
      · rw [q, z]
    refine ⟨r1, r2, ?_, ?_⟩
    · rw [h8, hh]; exact r3
    · rw [h8, hh]; exact r4
  · rw [if_neg hx]
    have e0 : ∀ j, j < 15 → (upd (upd n 16 (n 15)) 15 (n 16)) j = n j := by
      intro j hj
      rw [pk_un (by omega), pk_un (by omega)]
    rw [xor_and] at hx
    have f15 : (upd (upd n 16 (n 15)) 15 (n 16)) 15 = n 16 := pk_us
    have f16 : (upd (upd n 16 (n 15)) 15 (n 16)) 16 = n 15 := by rw [pk_un (by decide)]; exact pk_us
    refine ⟨fun j hj => ?_, fun j hj => ?_, ?_, ?_⟩
    · rw [e0 j (by omega)]; exact r1 j hj
    · rw [e0 (8 + j) (by omega)]; exact r2 j hj
    · rw [h8, r3, f15, f16]
      rcases and_bit v with q | q <;> rcases and_bit sr with z | z <;> rw [q, z] at hx ⊢
      · exact absurd rfl hx
      · rfl
      · rfl
      · exact absurd (by decide) hx
    · rw [h8, r4, f15, f16]
      rcases and_bit v with q | q <;> rcases and_bit sr with z | z <;> rw [q, z] at hx ⊢
      · exact absurd rfl hx
      · rfl
      · rfl
      · exact absurd (by decide) hx
/-- the top of the supervisor's stack moves -/
theorem Rg.top {n n' d a s : Nat → Int32} {sr q : Int32} (h : Rg n d a s sr) (hS : ¬ sr &&& 8192 = 0) (h15 : n' 15 = q) (hj : ∀ j, j ≠ 15 → n' j = n j) : Rg n' d a (upd s 1 q) sr := by
  obtain ⟨r1, r2, r3, r4⟩ := h
  refine ⟨fun j hj' => ?_, fun j hj' => ?_, ?_, ?_⟩
  · rw [hj j (by omega)]; exact r1 j hj'
  · rw [hj (8 + j) (by omega)]; exact r2 j hj'
  · rw [pk_un (by decide), if_neg hS, hj 16 (by decide), r3, if_neg hS]
  · rw [pk_us, if_neg hS, h15]
/-! the status on the way in -/
def inS (sr : Int32) : Int32 := (sr &&& (-32769 : Int32)) ||| 8192
def enS (B : St) : St := sI (swp (inS (B.1 3)) B) 3 (inS (B.1 3) &&& 42783)
theorem inS_fl (sr : Int32) (h : srOK sr) : fl (fl sr 8192 true) 32768 false = inS sr &&& 42783 := by
  unfold fl inS
  rw [if_pos rfl, if_neg (by decide)]
  unfold srOK at h
  apply b_ext
  intro i hi
  have hb : (bt sr i && bt 42783 i) = bt sr i := by rw [← b_and, h]
  simp only [b_and, b_or]
  have key : ∀ i, i < 32 → ∀ b : Bool, (b && bt 42783 i) = b → ((b || bt 8192 i) && bt ((32768 : Int32) ^^^ (-1)) i) = (((b && bt (-32769) i) || bt 8192 i) && bt 42783 i) := by decide +kernel
  exact key i hi _ hb
theorem inS_S (sr : Int32) : ¬ (inS sr &&& 42783) &&& 8192 = 0 := by
  intro h
  have := congrArg (fun x => bt x 13) h
  unfold inS at this
  simp only [b_and, b_or, b_0] at this
  rw [show bt 8192 13 = true by decide +kernel, show bt 42783 13 = true by decide +kernel] at this
  simp at this
theorem inS_in (sr : Int32) : inS (inS sr &&& 42783) &&& 42783 = inS sr &&& 42783 ∧ ((inS (inS sr &&& 42783)) ^^^ (inS sr &&& 42783)) &&& 8192 = 0 := by
  unfold inS
  refine ⟨?_, ?_⟩
  · apply b_ext
    intro i hi
    simp only [b_and, b_or]
    have key : ∀ i, i < 32 → ∀ b : Bool, ((((((b && bt (-32769) i) || bt 8192 i) && bt 42783 i) && bt (-32769) i) || bt 8192 i) && bt 42783 i) = (((b && bt (-32769) i) || bt 8192 i) && bt 42783 i) := by decide +kernel
    exact key i hi _
  · apply b_ext
    intro i hi
    simp only [b_and, b_or, b_xor, b_0]
    have key : ∀ i, i < 32 → ∀ b : Bool, (((((((b && bt (-32769) i) || bt 8192 i) && bt 42783 i) && bt (-32769) i) || bt 8192 i) ^^ (((b && bt (-32769) i) || bt 8192 i) && bt 42783 i)) && bt 8192 i) = false := by decide +kernel
    exact key i hi _
theorem srOK_m (v : Int32) : srOK (v &&& 42783) := by unfold srOK; rw [and_and]; rfl
theorem enS_1 (B : St) : (enS B).1 = upd B.1 3 (inS (B.1 3) &&& 42783) := by
  unfold enS
  show upd (swp _ B).1 3 _ = _
  rw [(swp_1 _ B).1]
theorem enS_k (B : St) (k : Nat) (hk : k ≠ 3) : (enS B).1 k = B.1 k := by rw [enS_1, pk_un hk]
theorem enS_3 (B : St) : (enS B).1 3 = inS (B.1 3) &&& 42783 := by rw [enS_1, pk_us]
theorem enS_z (B : St) : (enS B).2.1 = B.2.1 := (swp_1 _ B).2.1
theorem enS_r (B : St) (j : Nat) (hj : j ≠ 1) : (enS B).2.2 j = B.2.2 j := (swp_1 _ B).2.2 j hj
theorem enS_n (B : St) : (enS B).2.2 1 = swn (B.2.2 1) (inS (B.1 3)) (B.1 3) := swp_n _ B
theorem push_ev {B : St} (h6 : B.1 6 = 0) (e : Nat) (he : e = 1 ∨ e = 2) (v : Int32) (hp : B.2.2 1 15 &&& 1 = 0) : fX0_push e v B = some (sR (sA B 1 15 (B.2.2 1 15 - szB e)) 0 (wrB (B.2.2 0) (B.2.2 1 15 - szB e) v e)) := by
  rw [pX0_push0 e (by omega) v h6, od12 e he, (par_sub _ e he).1, decide_eq_true hp]
  rfl
/-- a value pushed: the class's state behind -/
def puS (B : St) (e : Nat) (v : Int32) : St := sR (sA B 1 15 (B.2.2 1 15 - szB e)) 0 (wrB (B.2.2 0) (B.2.2 1 15 - szB e) v e)
theorem puS_1 (B : St) (e : Nat) (v : Int32) : (puS B e v).1 = B.1 := rfl
theorem puS_z (B : St) (e : Nat) (v : Int32) : (puS B e v).2.1 = B.2.1 := rfl
theorem puS_15 (B : St) (e : Nat) (v : Int32) : (puS B e v).2.2 1 15 = B.2.2 1 15 - szB e := by
  unfold puS
  rw [sR_ne _ _ (by decide), sA_R, sR_at, pk_us]
theorem puS_j (B : St) (e : Nat) (v : Int32) (j : Nat) (hj : j ≠ 15) : (puS B e v).2.2 1 j = B.2.2 1 j := by
  unfold puS
  rw [sR_ne _ _ (by decide), sA_R, sR_at, pk_un hj]
theorem puS_0 (B : St) (e : Nat) (v : Int32) : (puS B e v).2.2 0 = wrB (B.2.2 0) (B.2.2 1 15 - szB e) v e := sR_at _ _ _
theorem puS_r (B : St) (e : Nat) (v : Int32) (j : Nat) (h0 : j ≠ 0) (h1 : j ≠ 1) : (puS B e v).2.2 j = B.2.2 j := by
  unfold puS
  rw [sR_ne _ _ h0, sA_R, sR_ne _ _ h1]
theorem puS_ev {B : St} (h6 : B.1 6 = 0) (e : Nat) (he : e = 1 ∨ e = 2) (v : Int32) (hp : B.2.2 1 15 &&& 1 = 0) : fX0_push e v B = some (puS B e v) ∧ (puS B e v).2.2 1 15 &&& 1 = 0 := by
  refine ⟨push_ev h6 e he v hp, ?_⟩
  rw [puS_15, (par_sub _ e he).1]; exact hp
theorem sb (x : Int32) : x - 4 - 2 = x - 6 ∧ x - 6 - 2 = x - 8 ∧ x - 8 - 4 = x - 12 ∧ x - 12 - 2 = x - 14 ∧ x - 6 - 6 = x - 12 ∧ x - 6 - 8 = x - 14 := by
  refine ⟨?_, ?_, ?_, ?_, ?_, ?_⟩ <;> (simp only [Int32.sub_eq_add_neg, Int32.add_assoc]; rfl)
/-! the class's way in -/
def cnt (f : Nat → Int32) (n : Nat) : Nat → Int32 := upd (upd f n (f n + 1)) 0 (upd f n (f n + 1) 0 + 1)
def enB (B : St) (n : Nat) : St := sR (puS (puS (enS B) 2 (B.1 2)) 1 (B.1 3)) 3 (cnt (B.2.2 3) n)
theorem ix64 {n : Nat} (h : n < 64) : ixo (nI n) 64 = true := ixo_of (nI_pos (by omega)) (by rw [nI_clamp (by omega)]; exact h)
theorem m63 {n : Nat} (h : n < 64) : nI n &&& 63 = nI n := by rw [pk_andN (by omega) (m := 63) 6 (by decide), Nat.mod_eq_of_lt (by omega)]
theorem r15 : r4 15 = 15 := by decide +kernel
theorem enter_odd (B : St) (n : Nat) (h : ¬ (enS B).2.2 1 15 &&& 1 = 0) : fX6_enter (nI n) B = some (false, sI (enS B) 1 2) := by
  unfold fX6_enter
  rw [lt_d, pX4_setStatus, bv_some, pX4_get, bd_some, r15]
  show (if ((enS B).2.2 1 15 &&& 1) = 0 then _ else _) = _
  rw [if_neg h, lt_d]
  rfl
theorem enter_ok (B : St) (n : Nat) (hn : n < 64) (h6 : B.1 6 = 0) (h : (enS B).2.2 1 15 &&& 1 = 0) : fX6_enter (nI n) B = some (true, enB B n) := by
  obtain ⟨p1, q1⟩ := puS_ev (B := enS B) (by rw [enS_k _ _ (by decide)]; exact h6) 2 (Or.inr rfl) (B.1 2) h
  obtain ⟨p2, q2⟩ := puS_ev (B := puS (enS B) 2 (B.1 2)) (by rw [puS_1, enS_k _ _ (by decide)]; exact h6) 1 (Or.inl rfl) (B.1 3) q1
  unfold fX6_enter
  rw [lt_d, pX4_setStatus, bv_some, pX4_get, bd_some, r15]
  show (if ((enS B).2.2 1 15 &&& 1) = 0 then (bv (fX0_push 2 ((enS B).1 2) (enS B)) _) else _) = _
  rw [if_pos h, enS_k _ _ (by decide), p1, bv_some, p2, bv_some, m63 hn, gd_t (ix64 hn), gd_t (ix64 hn), nI_clamp (by omega), lt_d, gd_t (by decide), gd_t (by decide), lt_d]
  unfold enB
  rw [sA_R, sA_R, sR_R, sR_at, puS_r _ _ _ 3 (by decide) (by decide), puS_r _ _ _ 3 (by decide) (by decide), enS_r _ 3 (by decide)]
  rfl
/-! the reference's way in -/
theorem sA_f (S : St) (k j : Nat) (v : Int32) : (sA S k j v).1 = S.1 := rfl

def ExM (M M' : St) (n : Nat) (m' : Nat → Int32) (q : Int32) : Prop := M'.2.2 0 = m' ∧ M'.2.2 1 = M.2.2 1 ∧ M'.2.2 2 = M.2.2 2 ∧ M'.2.2 3 = upd (M.2.2 3) 1 q ∧ M'.2.2 4 = upd (M.2.2 4) n (M.2.2 4 n + 1) ∧
  M'.1 1 = ldg (fun i => m' (a12 (4 * nI n + i))) 2 ∧ M'.1 2 = inS (M.1 2) &&& 42783 ∧ M'.1 4 = M.1 4 + 1 ∧ (∀ k, k ≠ 1 → k ≠ 2 → k ≠ 4 → k ≠ 11 → M'.1 k = M.1 k) ∧ M'.2.1 = M.2.1 ∧ ¬ M'.1 11 < 0
theorem exc_end {M1 M2 : St} {n : Nat} (hn : n < 64) (q : Int32) (hc : Ch M1 M2) : ∃ M', (gd (ixo 1 2 = true) (lt (sA M2 3 (1 : Int32).toNatClampNeg q) fun S6 => (bd (fX7_fetch (4 * nI n) 4 S6) fun r1 S7 => (lt (sI S7 1 r1) fun S8 => (gd (ixo (nI n) 64 = true) (gd (ixo (nI n) 64 = true) (lt (sA S8 4 (nI n).toNatClampNeg ((S8.2.2 4 (nI n).toNatClampNeg) + 1)) fun S9 => (lt (sI S9 4 ((S9.1 4) + 1)) fun S10 => (some (true, S10)))))))))) = some (true, M') ∧
    M'.2.2 0 = M2.2.2 0 ∧ M'.2.2 1 = M1.2.2 1 ∧ M'.2.2 2 = M1.2.2 2 ∧ M'.2.2 3 = upd (M1.2.2 3) 1 q ∧ M'.2.2 4 = upd (M1.2.2 4) n (M1.2.2 4 n + 1) ∧ M'.1 1 = ldg (fun i => M2.2.2 0 (a12 (4 * nI n + i))) 2 ∧ M'.1 4 = M1.1 4 + 1 ∧ (∀ k, k ≠ 1 → k ≠ 4 → k ≠ 11 → M'.1 k = M1.1 k) ∧ M'.2.1 = M1.2.1 ∧ ¬ M'.1 11 < 0 := by
  obtain ⟨k1, k2, k3, k4⟩ := hc
  have hf := pX7_fetch (4 * nI n) (sA M2 3 1 q) 2 (by decide)
  rw [szB2] at hf
  rw [gd_t (by decide), lt_d, show (1 : Int32).toNatClampNeg = 1 from rfl, hf, bd_some, lt_d, gd_t (ix64 hn), gd_t (ix64 hn), nI_clamp (by omega), lt_d, lt_d]
  refine ⟨_, rfl, ?_, ?_, ?_, ?_, ?_, ?_, ?_, ?_, ?_, ?_⟩
  · rw [sI_2, sA_R, sR_ne _ _ (by decide), sI_2, sA_R, sR_ne _ _ (by decide)]
  · rw [sI_2, sA_R, sR_ne _ _ (by decide), sI_2, sA_R, sR_ne _ _ (by decide)]; exact k3 1 (by decide) (by decide) (by decide)
  · rw [sI_2, sA_R, sR_ne _ _ (by decide), sI_2, sA_R, sR_ne _ _ (by decide)]; exact k3 2 (by decide) (by decide) (by decide)
  · rw [sI_2, sA_R, sR_ne _ _ (by decide), sI_2, sA_R, sR_at, k3 3 (by decide) (by decide) (by decide)]
  · rw [sI_2, sA_R, sR_at, sI_2, sA_R, sR_ne _ _ (by decide), k3 4 (by decide) (by decide) (by decide)]
  · rw [sI_ne _ _ (by decide), sA_f, sI_at, sA_R, sR_ne _ _ (by decide)]
  · rw [sI_at, sA_f, sI_ne _ _ (by decide), sA_f, k1 4 (by decide)]
  · intro k h1 h4 h11
    rw [sI_ne _ _ h4, sA_f, sI_ne _ _ h1, sA_f]
    exact k1 k h11
  · exact k2
  · rw [sI_ne _ _ (by decide), sA_f, sI_ne _ _ (by decide), sA_f]; exact k4
theorem exc_odd (M : St) (x y : Int32) (z : Bool) (hs : srOK (M.1 2)) (h : (M.2.2 3 1) &&& 1 = 1) : fX7_exception x z y M = some (false, sZ (sI (sI M 2 (fl (M.1 2) 8192 true)) 2 (inS (M.1 2) &&& 42783)) 1 true) := by
  unfold fX7_exception
  rw [lt_d, pX7_flag, bv_some, pX7_flag, bv_some, sI_at, inS_fl _ hs, gd_t (by decide)]
  show (if (M.2.2 3 1 &&& 1) = 1 then _ else _) = _
  rw [if_pos h, lt_d]
theorem exc_ok (M : St) (n : Nat) (y : Int32) (z : Bool) (hs : srOK (M.1 2)) (hn : n < 64) (h : (M.2.2 3 1) &&& 1 = 0) (hc : ¬ M.1 11 < 0) :
    ∃ M', fX7_exception (nI n) z y M = some (true, M') ∧
      ExM M M' n (if z = true then wrM (wrM (wrM (wrM (wrM (M.2.2 0) (M.2.2 3 1 - 4) (M.1 1) 2) (M.2.2 3 1 - 6) (M.1 2) 1) (M.2.2 3 1 - 8) (M.1 5) 1) (M.2.2 3 1 - 12) y 2) (M.2.2 3 1 - 14) 0 1 else wrM (wrM (M.2.2 0) (M.2.2 3 1 - 4) (M.1 1) 2) (M.2.2 3 1 - 6) (M.1 2) 1) (if z = true then M.2.2 3 1 - 14 else M.2.2 3 1 - 6) := by
  unfold fX7_exception
  rw [lt_d, pX7_flag, bv_some, pX7_flag, bv_some, sI_at, inS_fl _ hs, gd_t (by decide)]
  generalize hM1 : sI (sI M 2 (fl (M.1 2) 8192 true)) 2 (inS (M.1 2) &&& 42783) = M1
  have a1 : ∀ k, k ≠ 2 → M1.1 k = M.1 k := fun k hk => by rw [← hM1, sI_ne _ _ hk, sI_ne _ _ hk]
  have a2 : M1.1 2 = inS (M.1 2) &&& 42783 := by rw [← hM1, sI_at]
  have a3 : M1.2 = M.2 := by rw [← hM1]; rfl
  have hc1 : ¬ M1.1 11 < 0 := by rw [a1 11 (by decide)]; exact hc
  rw [show (1 : Int32).toNatClampNeg = 1 from rfl, a3, if_neg (by rw [h]; decide), gd_t (by decide), lt_d, a1 1 (by decide)]
  obtain ⟨M2, s1, c1, m1⟩ := pX7_store (M.2.2 3 1 - 4) (M.1 1) M1 hc1 2 (by decide)
  obtain ⟨M3, s2, c2, m2⟩ := pX7_store (M.2.2 3 1 - 6) (M.1 2) M2 c1.2.2.2 1 (by decide)
  rw [szB2] at s1
  rw [szB1] at s2
  rw [s1, bv_some, s2, bv_some, lt_d, jn_d]
  have fin : ∀ (M4 : St) (q : Int32) (m' : Nat → Int32), Ch M1 M4 → M4.2.2 0 = m' → ∃ M', (gd (ixo 1 2 = true) (lt (sA M4 3 (1 : Int32).toNatClampNeg q) fun S6 => (bd (fX7_fetch (4 * nI n) 4 S6) fun r1 S7 => (lt (sI S7 1 r1) fun S8 => (gd (ixo (nI n) 64 = true) (gd (ixo (nI n) 64 = true) (lt (sA S8 4 (nI n).toNatClampNeg ((S8.2.2 4 (nI n).toNatClampNeg) + 1)) fun S9 => (lt (sI S9 4 ((S9.1 4) + 1)) fun S10 => (some (true, S10)))))))))) = some (true, M') ∧ ExM M M' n m' q := by
    intro M4 q m' hC hm
    obtain ⟨M', e0, e1, e2, e3, e4, e5, e6, e7, e8, e9, e10⟩ := exc_end hn q hC
    refine ⟨M', e0, e1.trans hm, ?_, ?_, ?_, ?_, ?_, ?_, ?_, ?_, ?_, e10⟩
    · rw [e2, a3]
    · rw [e3, a3]
    · rw [e4, a3]
    · rw [e5, a3]
    · rw [e6, hm]
    · rw [e8 2 (by decide) (by decide) (by decide), a2]
    · rw [e7, a1 4 (by decide)]
    · intro k h1 h2 h4 h11
      rw [e8 k h1 h4 h11, a1 k h2]
    · rw [e9, a3]
  have mm : M3.2.2 0 = wrM (wrM (M.2.2 0) (M.2.2 3 1 - 4) (M.1 1) 2) (M.2.2 3 1 - 6) (M.1 2) 1 := by rw [m2, m1, a3]
  cases z with
  | false =>
    rw [if_pos zI_f, if_neg (by decide), if_neg (by decide)]
    exact fin M3 _ _ (c1.tr c2) mm
  | true =>
    rw [if_neg (show ¬ zI true = 0 by decide), if_pos rfl, if_pos rfl]
    obtain ⟨t1, t2, t3, t4, t5, t6⟩ := sb (M.2.2 3 1)
    rw [t2, t5, t6]
    have o5 : M3.1 5 = M.1 5 := by rw [(c1.tr c2).1 5 (by decide), a1 5 (by decide)]
    obtain ⟨M4, s3, c3, m3⟩ := pX7_store (M.2.2 3 1 - 8) (M3.1 5) M3 c2.2.2.2 1 (by decide)
    obtain ⟨M5, s4, c4, m4⟩ := pX7_store (M.2.2 3 1 - 12) y M4 c3.2.2.2 2 (by decide)
    obtain ⟨M6, s5, c5, m5⟩ := pX7_store (M.2.2 3 1 - 14) 0 M5 c4.2.2.2 1 (by decide)
    rw [szB1] at s3 s5
    rw [szB2] at s4
    rw [s3, bv_some, s4, bv_some, s5, bv_some, lt_d]
    refine fin M6 _ _ ((((c1.tr c2).tr c3).tr c4).tr c5) ?_
    rw [m5, m4, m3, mm, o5]
