/-! ===== the relation between the two systems' states within an instruction ===== -/
abbrev CB : Type := Int32 × Int32 × Int32 × Int32 × (Nat → Int32) × (Nat → Int32)
abbrev CM : Type := (Int32 × Int32 × Int32 × Int32 × Int32 × Int32) × (Bool × Bool) × (Nat → Int32) × (Nat → Int32) × (Nat → Int32) × (Nat → Int32)
/-- what no instruction touches: wanted, phase, the kept row, the counts -/
def cB (B : St) : CB := (B.1 0, B.1 1, B.1 4, B.1 5, B.2.2 2, B.2.2 3)
def cM (M : St) : CM := ((M.1 0, M.1 3, M.1 4, M.1 5, M.1 9, M.1 10), (M.2.1 0, M.2.1 1), M.2.2 4, M.2.2 5, M.2.2 6, M.2.2 7)
def Rg (n d a s : Nat → Int32) (sr : Int32) : Prop := (∀ k, k < 8 → d k = n k) ∧ (∀ k, k < 7 → a k = n (8 + k)) ∧ s 0 = (if (sr &&& 8192) = 0 then n 15 else n 16) ∧ s 1 = (if (sr &&& 8192) = 0 then n 16 else n 15)
def numOK (M : St) : Prop := M.1 12 = 0 ∨ M.1 12 = 1 → ∃ k, k < 8 ∧ M.1 13 = nI k
def srOK (x : Int32) : Prop := x &&& 42783 = x
/-- no trouble so far -/
def Ok (c0 : CB) (d0 : CM) (B M : St) : Prop := memR (B.2.2 0) (M.2.2 0) ∧ Rg (B.2.2 1) (M.2.2 1) (M.2.2 2) (M.2.2 3) (B.1 3) ∧ M.1 1 = B.1 2 ∧ M.1 2 = B.1 3 ∧ srOK (B.1 3) ∧ B.1 6 = 0 ∧ B.1 7 = 0 ∧ M.1 6 = 0 ∧ M.1 8 = 0 ∧ B.2.1 0 = M.2.1 2 ∧ numOK M ∧ ¬ M.1 11 < 0 ∧ cB B = c0 ∧ cM M = d0
/-- nothing written so far, and the next word is at an even place -/
def Fr (m0 : Nat → Int32) (B M : St) : Prop := B.2.2 0 = m0 ∧ M.1 11 = 0 ∧ (B.1 2) &&& 1 = 0 ∧ B.2.1 0 = false
/-- in trouble: what counts is kept -/
abbrev Un (n : Int32) : Prop := 0 < n ∧ (n = 3 ∨ n = 4 ∨ n = 8 ∨ n = 10 ∨ n = 11)
def TB (c0 : CB) (m0 : Nat → Int32) (n o : Int32) (B : St) : Prop := cB B = c0 ∧ B.2.2 0 = m0 ∧ B.1 6 = n ∧ B.1 7 = o ∧ Un n
def TM (d0 : CM) (m1 : Nat → Int32) (n o : Int32) (M : St) : Prop := cM M = d0 ∧ M.2.2 0 = m1 ∧ M.1 6 = n ∧ M.1 7 = o ∧ M.1 11 = 0 ∧ numOK M
def Tr (c0 : CB) (d0 : CM) (m0 : Nat → Int32) (B M : St) : Prop := ∃ n o m1, 0 < n ∧ memR m0 m1 ∧ TB c0 m0 n o B ∧ TM d0 m1 n o M
section REL
variable {c0 : CB} {d0 : CM} {B M : St}
theorem Rg.A {n d a s : Nat → Int32} {sr : Int32} (h : Rg n d a s sr) : ∀ k, k < 8 → (if k = 7 then (if (sr &&& 8192) = 0 then s 0 else s 1) else a k) = n (8 + k) := by
  intro k hk
  obtain ⟨-, h2, h3, h4⟩ := h
  by_cases h : k = 7
  · subst h
    rw [if_pos rfl]
    by_cases hs : (sr &&& 8192) = 0
    · rw [if_pos hs, h3, if_pos hs]
    · rw [if_neg hs, h4, if_neg hs]
  · rw [if_neg h]; exact h2 k (by omega)
theorem Ok.gA (h : Ok c0 d0 B M) (k : Nat) (hk : k < 8) : fX7_getA (nI k) M = some (B.2.2 1 (8 + k), M) := by
  rw [pX7_getA M k hk]
  unfold mA
  rw [h.2.2.2.1, h.2.1.A k hk]
theorem Ok.gD (h : Ok c0 d0 B M) (k : Nat) (hk : k < 8) : M.2.2 1 k = B.2.2 1 k := h.2.1.1 k hk
theorem Ok.sD (h : Ok c0 d0 B M) (k : Nat) (hk : k < 8) (v : Int32) : Ok c0 d0 (sA B 1 k v) (sA M 1 k v) := by
  obtain ⟨h1, ⟨r1, r2, r3, r4⟩, h3⟩ := h
  refine ⟨h1, ⟨fun j hj => ?_, fun j hj => ?_, ?_, ?_⟩, h3⟩
  · show upd _ k v j = upd _ k v j
    unfold upd
    by_cases h : j = k
    · simp [h]
    · simp [h, r1 j hj]
  · show _ = upd _ k v (8 + j)
    rw [pk_un (by omega)]; exact r2 j hj
  · show M.2.2 3 0 = if _ then upd _ k v 15 else upd _ k v 16
    rw [pk_un (by omega), pk_un (by omega)]; exact r3
  · show M.2.2 3 1 = if _ then upd _ k v 16 else upd _ k v 15
    rw [pk_un (by omega), pk_un (by omega)]; exact r4
theorem Ok.sA_ (h : Ok c0 d0 B M) (k : Nat) (hk : k < 8) (v : Int32) : fX7_setA (nI k) v M = some (mA' M k v) ∧ Ok c0 d0 (sA B 1 (8 + k) v) (mA' M k v) := by
  refine ⟨pX7_setA M v k hk, ?_⟩
  obtain ⟨h1, ⟨r1, r2, r3, r4⟩, h3, hsr, h5⟩ := h
  unfold mA'
  by_cases h7 : k = 7
  · subst h7
    rw [if_pos rfl]
    by_cases hs : ((M.1 2) &&& 8192) = 0
    · have hs' : ((B.1 3) &&& 8192) = 0 := by rw [← hsr]; exact hs
      rw [if_pos hs' ] at r3 r4
      rw [if_pos hs]
      refine ⟨h1, ⟨fun j hj => ?_, fun j hj => ?_, ?_, ?_⟩, h3, hsr, h5⟩
      · show _ = upd _ 15 v j
        rw [pk_un (by omega)]; exact r1 j hj
      · show _ = upd _ 15 v (8 + j)
        rw [pk_un (by omega)]; exact r2 j hj
      · show upd (M.2.2 3) 0 v 0 = if ((B.1 3) &&& 8192) = 0 then upd (B.2.2 1) 15 v 15 else upd (B.2.2 1) 15 v 16
        rw [if_pos hs', pk_us, pk_us]
      · show upd (M.2.2 3) 0 v 1 = if ((B.1 3) &&& 8192) = 0 then upd (B.2.2 1) 15 v 16 else upd (B.2.2 1) 15 v 15
        rw [if_pos hs', pk_un (by decide), pk_un (by decide)]; exact r4
    · have hs' : ¬ ((B.1 3) &&& 8192) = 0 := by rw [← hsr]; exact hs
      rw [if_neg hs'] at r3 r4
      rw [if_neg hs]
      refine ⟨h1, ⟨fun j hj => ?_, fun j hj => ?_, ?_, ?_⟩, h3, hsr, h5⟩
      · show _ = upd _ 15 v j
        rw [pk_un (by omega)]; exact r1 j hj
      · show _ = upd _ 15 v (8 + j)
        rw [pk_un (by omega)]; exact r2 j hj
      · show upd (M.2.2 3) 1 v 0 = if ((B.1 3) &&& 8192) = 0 then upd (B.2.2 1) 15 v 15 else upd (B.2.2 1) 15 v 16
        rw [if_neg hs', pk_un (by decide), pk_un (by decide)]; exact r3
      · show upd (M.2.2 3) 1 v 1 = if ((B.1 3) &&& 8192) = 0 then upd (B.2.2 1) 15 v 16 else upd (B.2.2 1) 15 v 15
        rw [if_neg hs', pk_us, pk_us]
  · rw [if_neg h7]
    refine ⟨h1, ⟨fun j hj => ?_, fun j hj => ?_, ?_, ?_⟩, h3, hsr, h5⟩
    · show _ = upd _ (8 + k) v j
      rw [pk_un (by omega)]; exact r1 j hj
    · show upd _ k v j = upd _ (8 + k) v (8 + j)
      unfold upd
      by_cases h : j = k
      · simp [h]
      · simp [h, r2 j hj]
    · show M.2.2 3 0 = if _ then upd _ (8 + k) v 15 else upd _ (8 + k) v 16
      rw [pk_un (by omega), pk_un (by omega)]; exact r3
    · show M.2.2 3 1 = if _ then upd _ (8 + k) v 16 else upd _ (8 + k) v 15
      rw [pk_un (by omega), pk_un (by omega)]; exact r4
theorem Ok.pc (h : Ok c0 d0 B M) (v : Int32) : Ok c0 d0 (sI B 2 v) (sI M 1 v) := by
  obtain ⟨h1, h2, h3, h4⟩ := h
  exact ⟨h1, h2, rfl, h4⟩
/-- flags that leave S as it is -/
theorem Ok.sr (h : Ok c0 d0 B M) (v : Int32) (hs : v &&& 8192 = B.1 3 &&& 8192) (hv : srOK v) : Ok c0 d0 (sI B 3 v) (sI M 2 v) := by
  obtain ⟨h1, ⟨r1, r2, r3, r4⟩, h3, h4, h5, h6⟩ := h
  refine ⟨h1, ⟨r1, r2, ?_, ?_⟩, h3, rfl, hv, h6⟩
  · show M.2.2 3 0 = if (v &&& 8192) = 0 then B.2.2 1 15 else B.2.2 1 16
    rw [hs]; exact r3
  · show M.2.2 3 1 = if (v &&& 8192) = 0 then B.2.2 1 16 else B.2.2 1 15
    rw [hs]; exact r4
theorem and_bit (v : Int32) : v &&& 8192 = 0 ∨ v &&& 8192 = 8192 := by
  by_cases h : bt v 13
  · right
    apply b_ext
    intro i hi
    rw [b_and]
    by_cases hi' : i = 13
    · subst hi'; rw [h]; rfl
    · have : bt 8192 i = false := by
        have : ∀ i, i < 32 → i ≠ 13 → bt 8192 i = false := by decide +kernel
        exact this i hi hi'
      rw [this, Bool.and_false]
  · left
    apply b_ext
    intro i hi
    rw [b_and, b_0]
    by_cases hi' : i = 13
    · subst hi'; simp [h]
    · have : bt 8192 i = false := by
        have : ∀ i, i < 32 → i ≠ 13 → bt 8192 i = false := by decide +kernel
        exact this i hi hi'
      rw [this, Bool.and_false]
theorem xor_and (a b : Int32) : (a ^^^ b) &&& 8192 = (a &&& 8192) ^^^ (b &&& 8192) := by
  apply b_ext; intro i hi; simp only [b_and, b_xor]; cases bt a i <;> cases bt b i <;> cases bt 8192 i <;> rfl
theorem Ok.status (h : Ok c0 d0 B M) (v : Int32) : Ok c0 d0 (sI (swp v B) 3 (v &&& 42783)) (sI M 2 (v &&& 42783)) := by
  have hv : srOK (v &&& 42783) := by unfold srOK; rw [and_and]; rfl
  have h8 : (v &&& 42783) &&& 8192 = v &&& 8192 := by rw [and_and]; rfl
  unfold swp
  by_cases hx : ((v ^^^ (B.1 3)) &&& 8192) = 0
  · rw [if_pos hx]
    refine h.sr _ ?_ hv
    rw [h8]
    rw [xor_and] at hx
    rcases and_bit v with q | q <;> rcases and_bit (B.1 3) with z | z
    · rw [q, z]
    · rw [q, z] at hx; exact absurd hx (by decide)
    · rw [q, z] at hx; exact absurd hx (by decide)
    · rw [q, z]
  · rw [if_neg hx]
    obtain ⟨h1, ⟨r1, r2, r3, r4⟩, h3, h4, h5, h6⟩ := h
    have e0 : ∀ j, j < 15 → (upd (upd (B.2.2 1) 16 (B.2.2 1 15)) 15 (B.2.2 1 16)) j = B.2.2 1 j := by
      intro j hj
      rw [pk_un (by omega), pk_un (by omega)]
    have hN : (sA (sA B 1 16 (B.2.2 1 15)) 1 15 (B.2.2 1 16)).2.2 1 = upd (upd (B.2.2 1) 16 (B.2.2 1 15)) 15 (B.2.2 1 16) := rfl
    rw [xor_and] at hx
    refine ⟨h1, ⟨fun j hj => ?_, fun j hj => ?_, ?_, ?_⟩, h3, rfl, hv, h6⟩
    · show _ = (upd (upd (B.2.2 1) 16 (B.2.2 1 15)) 15 (B.2.2 1 16)) j
      rw [e0 j (by omega)]; exact r1 j hj
    · show _ = (upd (upd (B.2.2 1) 16 (B.2.2 1 15)) 15 (B.2.2 1 16)) (8 + j)
      rw [e0 (8 + j) (by omega)]; exact r2 j hj
    · show M.2.2 3 0 = if ((v &&& 42783) &&& 8192) = 0 then B.2.2 1 16 else B.2.2 1 15
      rw [h8, r3]
      rcases and_bit v with q | q <;> rcases and_bit (B.1 3) with z | z <;> rw [q, z] at hx ⊢
      · exact absurd rfl hx
      · rfl
      · rfl
      · exact absurd (by decide) hx
    · show M.2.2 3 1 = if ((v &&& 42783) &&& 8192) = 0 then B.2.2 1 15 else B.2.2 1 16
      rw [h8, r4]
      rcases and_bit v with q | q <;> rcases and_bit (B.1 3) with z | z <;> rw [q, z] at hx ⊢
      · exact absurd rfl hx
      · rfl
      · rfl
      · exact absurd (by decide) hx
theorem Ok.mem (h : Ok c0 d0 B M) {M' : St} (a v : Int32) (e : Nat) (he : e < 3) (hc : Ch M M') (hm : M'.2.2 0 = wrM (M.2.2 0) a v e) : Ok c0 d0 (sR B 0 (wrB (B.2.2 0) a v e)) M' := by
  obtain ⟨h1, h2, h3, h4, h5, h6, h6', h7, h8, h9, h10, h11, h12, h13⟩ := h
  obtain ⟨k1, k2, k3, k4⟩ := hc
  refine ⟨?_, ?_, ?_, ?_, h5, h6, h6', ?_, ?_, ?_, ?_, k4, h12, ?_⟩
  · show memR (wrB (B.2.2 0) a v e) (M'.2.2 0)
    rw [hm]; exact memW h1 a v e he
  · show Rg (B.2.2 1) (M'.2.2 1) (M'.2.2 2) (M'.2.2 3) (B.1 3)
    rw [k3 1 (by decide) (by decide) (by decide), k3 2 (by decide) (by decide) (by decide), k3 3 (by decide) (by decide) (by decide)]; exact h2
  · rw [k1 1 (by decide)]; exact h3
  · rw [k1 2 (by decide)]; exact h4
  · rw [k1 6 (by decide)]; exact h7
  · rw [k1 8 (by decide)]; exact h8
  · rw [k2]; exact h9
  · unfold numOK; rw [k1 12 (by decide), k1 13 (by decide)]; exact h10
  · rw [← h13]; unfold cM
    rw [k1 0 (by decide), k1 3 (by decide), k1 4 (by decide), k1 5 (by decide), k1 9 (by decide), k1 10 (by decide), k2, k3 4 (by decide) (by decide) (by decide), k3 5 (by decide) (by decide) (by decide), k3 6 (by decide) (by decide) (by decide), k3 7 (by decide) (by decide) (by decide)]
end REL
