/-! ===== classes of operands ===== -/
def S0 : St := (fun _ => 0, fun _ => false, fun _ _ => 0)
theorem pX7_fits0 (x b n : Int32) (M : St) : fX7_fits x b n M = ((fX7_fits x b n S0).map Prod.fst).map (fun q => (q, M)) := by
  unfold fX7_fits
  simp only [lt, jn, apply_ite (Option.map Prod.fst), apply_ite (Option.map (fun q : Bool => (q, M))), Option.map_some]
def kd (k : Nat) : Int32 := if 7 ≤ nI (k / 8) then 7 + nI (k % 8) else nI (k / 8)
def mf (kinds : Int32) (k : Nat) : Bool := decide ((ush kinds (kd k)) &&& 1 = 0)
def rs (S : St) (n : Int32) : St := if S.1 6 = 0 then sI S 6 n else S
theorem pX0_raise (n : Int32) (S : St) : fX0_raise n S = some (rs S n) := by
  unfold fX0_raise rs; split <;> rfl
theorem pX2_illegal (S : St) : fX2_illegal S = some (rs S 4) := by
  unfold fX2_illegal; rw [pX0_raise, bv_some]
theorem pX2_misfits (kinds : Int32) (k : Nat) (hk : k < 64) (S : St) : fX2_misfits kinds (nI k) S = some (mf kinds k, if mf kinds k = true then rs S 4 else S) := by
  unfold fX2_misfits mf
  rw [pX0_kind k hk, bd_some, pX0_raise]
  show (if (ush kinds (kd k)) &&& 1 = 0 then _ else _) = _
  by_cases h : (ush kinds (kd k)) &&& 1 = 0
  · rw [if_pos h, bv_some, decide_eq_true h, if_pos rfl]
  · rw [if_neg h, decide_eq_false h, if_neg (by decide)]
def oz (kinds : Int32) (e : Nat) : Int32 := if e = 0 then kinds &&& 4093 else kinds
theorem pX2_ofSize (kinds : Int32) (S : St) : ∀ e, e < 3 → fX2_ofSize kinds e S = some (oz kinds e, S) := by
  intro e he
  unfold fX2_ofSize oz
  rw [gd_t he]; split <;> rfl
theorem ft_of {x b n : Int32} {z : Bool} (h : (fX7_fits x b n S0).map Prod.fst = some z) (M : St) : fX7_fits x b n M = some (z, M) := by
  rw [pX7_fits0, h]; rfl
theorem ft_ANY : ∀ e, e < 3 → ∀ k, k < 64 → (fX7_fits (nI k) 0 (szB e) S0).map Prod.fst = some (!mf (oz 4095 e) k) := by decide +kernel
theorem ft_DATA : ∀ e, e < 3 → ∀ k, k < 64 → (fX7_fits (nI k) 1 (szB e) S0).map Prod.fst = some (!mf 4093 k) := by decide +kernel
theorem ft_MEMA : ∀ e, e < 3 → ∀ k, k < 64 → (fX7_fits (nI k) 2 (szB e) S0).map Prod.fst = some (!mf 508 k) := by decide +kernel
theorem ft_CONT : ∀ e, e < 3 → ∀ k, k < 64 → (fX7_fits (nI k) 3 (szB e) S0).map Prod.fst = some (!mf 2020 k) := by decide +kernel
theorem ft_DALT : ∀ e, e < 3 → ∀ k, k < 64 → (fX7_fits (nI k) 4 (szB e) S0).map Prod.fst = some (!mf 509 k) := by decide +kernel
theorem ft_ALT : ∀ e, e < 3 → ∀ k, k < 64 → (fX7_fits (nI k) 5 (szB e) S0).map Prod.fst = some (!mf (oz 511 e) k) := by decide +kernel
theorem ft_CALT : ∀ e, e < 3 → ∀ k, k < 64 → (fX7_fits (nI k) 6 (szB e) S0).map Prod.fst = some (!mf 484 k) := by decide +kernel
/-- what fits is one that can be found; a data alterable one lies in D or memory -/
theorem mf_61 : ∀ k, k < 64 → mf 4095 k = false → k < 61 := by decide +kernel
theorem mf_sub : ∀ k, k < 64 → (mf 4093 k = false → mf 4095 k = false) ∧ (mf 508 k = false → mf 509 k = false) ∧ (mf 509 k = false → mf 4093 k = false) ∧ (mf 2020 k = false → mf 4093 k = false) ∧ (mf 511 k = false → mf 4095 k = false) ∧ (mf 2045 k = false → mf 4093 k = false) := by decide +kernel
theorem mf_oz : ∀ e, e < 3 → ∀ k, k < 64 → (mf (oz 4095 e) k = false → mf 4095 k = false) ∧ (mf (oz 511 e) k = false → mf 511 k = false) := by decide +kernel
theorem sort_DA : ∀ k, k < 64 → mf 509 k = false → sortOf k = 0 ∨ sortOf k = 2 := by decide +kernel
theorem sort_CO : ∀ k, k < 64 → mf 2020 k = false → sortOf k = 2 := by decide +kernel
/-! ===== S only ===== -/
theorem pX2_permitted (S : St) : fX2_permitted S = some (!decide (S.1 3 &&& 8192 = 0), if S.1 3 &&& 8192 = 0 then rs S 8 else S) := by
  unfold fX2_permitted
  rw [pX4_has, bd_some]
  by_cases h : S.1 3 &&& 8192 = 0
  · rw [decide_eq_true h, if_pos (show zI (!true) = 0 from rfl), pX0_raise, bv_some, if_pos h]; rfl
  · rw [decide_eq_false h, if_neg (show ¬ zI (!false) = 0 by decide), if_neg h]; rfl
def ft7 (M : St) (n w : Int32) : St := if M.1 6 = 0 then tbB M n w else M
theorem pX7_fault (n w : Int32) (M : St) : fX7_fault n w M = some (ft7 M n w) := by
  unfold fX7_fault ft7; split <;> rfl
theorem pX7_isUser0 (M : St) (h : M.1 6 = 0) : fX7_isUser M = some (decide (M.1 2 &&& 8192 = 0), if M.1 2 &&& 8192 = 0 then tbB M 8 0 else M) := by
  unfold fX7_isUser
  rw [pX7_has, bd_some, jn_d]
  by_cases q : M.1 2 &&& 8192 = 0
  · rw [decide_eq_true q, if_pos (show zI (!true) = 0 from rfl), if_pos q, pX7_fault, bv_some]
    unfold ft7
    rw [if_pos h]; rfl
  · rw [decide_eq_false q, if_neg (show ¬ zI (!false) = 0 by decide), if_neg q]
    dsimp only
    rw [if_pos (le0 h)]
