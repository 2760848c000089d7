/-! ===== flags keep S and the bits that SR has ===== -/
theorem fl_and (s b m : Int32) (z : Bool) (hb : b &&& m = 0) : fl s b z &&& m = s &&& m := by
  apply b_ext
  intro i hi
  rw [b_and, b_and, bt_fl]
  have h := congrArg (fun x => bt x i) hb
  simp only [b_and, b_0] at h
  rw [b_xor, b_m1 i hi]
  cases z <;> cases h1 : bt b i <;> cases h2 : bt m i <;> simp_all
theorem fl_ok (s b : Int32) (z : Bool) (h : srOK s) (hb : b &&& 42783 = b) : srOK (fl s b z) := by
  unfold srOK at h ⊢
  apply b_ext
  intro i hi
  have h1 := congrArg (fun x => bt x i) h
  have h2 := congrArg (fun x => bt x i) hb
  simp only [b_and] at h1 h2
  rw [b_and, bt_fl]
  rw [b_xor, b_m1 i hi]
  cases z <;> cases e1 : bt b i <;> cases e2 : bt s i <;> cases e3 : bt 42783 i <;> simp_all
def fOK (s s' : Int32) : Prop := s' &&& 8192 = s &&& 8192 ∧ (srOK s → srOK s')
theorem fOK.rf (s : Int32) : fOK s s := ⟨rfl, id⟩
theorem fOK.fl {s s' : Int32} (h : fOK s s') (b : Int32) (z : Bool) (hb : b &&& 42783 = b) (hb2 : b &&& 8192 = 0) : fOK s (fl s' b z) := ⟨(fl_and s' b 8192 z hb2).trans h.1, fun q => fl_ok _ _ _ (h.2 q) hb⟩
theorem f4_ok (s : Int32) (n z v c : Bool) : fOK s (f4 s n z v c) := ((((fOK.rf s).fl 8 n rfl rfl).fl 4 z rfl rfl).fl 2 v rfl rfl).fl 1 c rfl rfl
theorem rk_ok (s : Int32) (n z v c ex kz : Bool) : fOK s (rk s n z v c ex kz) := by
  have h1 := ((fOK.rf s).fl 8 n rfl rfl).fl 4 z rfl rfl
  cases ex <;> cases kz
  · exact (h1.fl 2 v rfl rfl).fl 1 c rfl rfl
  · exact ((h1.fl 4 _ rfl rfl).fl 2 v rfl rfl).fl 1 c rfl rfl
  · exact ((h1.fl 2 v rfl rfl).fl 1 c rfl rfl).fl 16 _ rfl rfl
  · exact (((h1.fl 4 _ rfl rfl).fl 2 v rfl rfl).fl 1 c rfl rfl).fl 16 _ rfl rfl
theorem Ok.fl {c0 : CB} {d0 : CM} {B M : St} (h : Ok c0 d0 B M) {s' : Int32} (hf : fOK (B.1 3) s') : Ok c0 d0 (sI B 3 s') (sI M 2 s') := h.sr s' hf.1 (hf.2 h.2.2.2.2.1)
/-! ===== what becomes of two operands ===== -/
/-- the value and the new SR, of OR 0, AND 1, LESS 2, MORE 3, else exclusive or -/
def jVal (how : Int32) (e : Nat) (a b : Int32) : Int32 := if how = 0 then (a ||| b) &&& szM e else if how = 1 then (a &&& b) &&& szM e else if how = 2 then nI (dN e (u e a) (u e b) 0) else if how = 3 then nI (tN e (u e a) (u e b) 0) else (a ^^^ b) &&& szM e
def lgS (e : Nat) (v sr : Int32) : Int32 := f4 sr (cn e v) (cz e v) false false
def dS (e : Nat) (a b : Int32) (m : Nat) (sr : Int32) (ex kz : Bool) : Int32 := rk sr (cn e (nI (dN e (u e a) (u e b) m))) (cz e (nI (dN e (u e a) (u e b) m))) (dV e (u e a) (u e b) m) (dC (u e a) (u e b) m) ex kz
def tS (e : Nat) (a b : Int32) (m : Nat) (sr : Int32) (ex kz : Bool) : Int32 := rk sr (cn e (nI (tN e (u e a) (u e b) m))) (cz e (nI (tN e (u e a) (u e b) m))) (aV e (u e a) (u e b) m) (aC e (u e a) (u e b) m) ex kz
def jSr (how : Int32) (e : Nat) (a b sr : Int32) : Int32 := if how = 0 then lgS e (a ||| b) sr else if how = 1 then lgS e (a &&& b) sr else if how = 2 then dS e a b 0 sr true false else if how = 3 then tS e a b 0 sr true false else lgS e (a ^^^ b) sr
theorem jSr_ok (how : Int32) (e : Nat) (a b sr : Int32) : fOK sr (jSr how e a b sr) := by
  unfold jSr
  split
  · exact f4_ok ..
  · split
    · exact f4_ok ..
    · split
      · exact rk_ok ..
      · split
        · exact rk_ok ..
        · exact f4_ok ..
theorem pX1_withCarryToX (r : Int32) (S : St) : fX1_withCarryToX r S = some (r, sI S 3 (fl (S.1 3) 16 (!decide (S.1 3 &&& 1 = 0)))) := by
  unfold fX1_withCarryToX
  rw [pX4_has, bd_some, pX4_mark, bv_some]
theorem pX1_joined (how a b : Int32) (S : St) : ∀ e, e < 3 → fX1_joined how e a b S = some (jVal how e a b, sI S 3 (jSr how e a b (S.1 3))) := by
  intro e he
  unfold fX1_joined jVal jSr
  rw [gd_t he]
  by_cases h0 : how = 0
  · rw [if_pos h0, if_pos h0, if_pos h0, pX1_logic _ S e he]; rfl
  rw [if_neg h0, if_neg h0, if_neg h0]
  by_cases h1 : how = 1
  · rw [if_pos h1, if_pos h1, if_pos h1, pX1_logic _ S e he]; rfl
  rw [if_neg h1, if_neg h1, if_neg h1]
  by_cases h2 : how = 2
  · rw [if_pos h2, if_pos h2, if_pos h2, show (0 : Int32) = nI 0 from rfl, pX1_subtracted a b 0 (by decide) S e he, bd_some, pX1_withCarryToX, bd_some]
    show some (_, sI (sI S 3 _) 3 _) = _
    rw [sI_I]; rfl
  rw [if_neg h2, if_neg h2, if_neg h2]
  by_cases h3 : how = 3
  · rw [if_pos h3, if_pos h3, if_pos h3, show (0 : Int32) = nI 0 from rfl, pX1_added a b 0 (by decide) S e he, bd_some, pX1_withCarryToX, bd_some]
    show some (_, sI (sI S 3 _) 3 _) = _
    rw [sI_I]; rfl
  rw [if_neg h3, if_neg h3, if_neg h3, pX1_logic _ S e he]; rfl
theorem pX1_compare (a b : Int32) (S : St) : ∀ e, e < 3 → fX1_compare e a b S = some (sI S 3 (dS e a b 0 (S.1 3) false false)) := by
  intro e he
  unfold fX1_compare
  rw [gd_t he, show (0 : Int32) = nI 0 from rfl, pX1_subtracted a b 0 (by decide) S e he]; rfl
theorem pX7_compare (a b : Int32) (M : St) : ∀ e, e < 3 → fX7_compare a b (szB e) M = some (sI M 2 (dS e a b 0 (M.1 2) false false)) := by
  intro e he
  unfold fX7_compare
  rw [show (0 : Int32) = nI 0 from rfl, pX7_reckonD a b 0 (by decide) false false M e he]; rfl
/-- X as a number -/
def xN (sr : Int32) : Nat := if sr &&& 16 = 0 then 0 else 1
theorem xN_lt (sr : Int32) : xN sr < 2 := by unfold xN; split <;> decide
theorem pX1_xAsNumber (S : St) : fX1_xAsNumber S = some (nI (xN (S.1 3)), S) := by
  unfold fX1_xAsNumber xN
  rw [pX4_has, bd_some]
  by_cases h : S.1 3 &&& 16 = 0
  · rw [decide_eq_true h, if_pos (show zI (!true) = 0 from rfl), if_pos h]; rfl
  · rw [decide_eq_false h, if_neg (show ¬ zI (!false) = 0 by decide), if_neg h]; rfl
theorem pX7_x (M : St) : fX7_x M = some (nI (xN (M.1 2)), M) := by
  unfold fX7_x xN
  rw [pX7_has, bd_some]
  by_cases h : M.1 2 &&& 16 = 0
  · rw [decide_eq_true h, if_pos (show zI (!true) = 0 from rfl), if_pos h]; rfl
  · rw [decide_eq_false h, if_neg (show ¬ zI (!false) = 0 by decide), if_neg h]; rfl
theorem kz_b : ∀ (n z v c k : Bool) (i : Nat), i < 32 → ∀ x : Bool, (let s8 := if n = true then x || bt 8 i else x && bt (8 ^^^ (-1)) i; let s4 := if z = true then s8 || bt 4 i else s8 && bt (4 ^^^ (-1)) i; let s2 := if v = true then s4 || bt 2 i else s4 && bt (2 ^^^ (-1)) i; let s1 := if c = true then s2 || bt 1 i else s2 && bt (1 ^^^ (-1)) i; if k = true then s1 || bt 4 i else s1 && bt (4 ^^^ (-1)) i) = (let s8 := if n = true then x || bt 8 i else x && bt (8 ^^^ (-1)) i; let s4 := if z = true then s8 || bt 4 i else s8 && bt (4 ^^^ (-1)) i; let s5 := if k = true then s4 || bt 4 i else s4 && bt (4 ^^^ (-1)) i; let s2 := if v = true then s5 || bt 2 i else s5 && bt (2 ^^^ (-1)) i; if c = true then s2 || bt 1 i else s2 && bt (1 ^^^ (-1)) i) := by decide +kernel
theorem kz_e (sr : Int32) (n z v c k : Bool) : fl (f4 sr n z v c) 4 k = fl (fl (fl (fl (fl sr 8 n) 4 z) 4 k) 2 v) 1 c := by
  apply b_ext
  intro i hi
  unfold f4
  rw [bt_fl, bt_fl, bt_fl, bt_fl, bt_fl, bt_fl, bt_fl, bt_fl, bt_fl, bt_fl]
  exact kz_b n z v c k i hi (bt sr i)
theorem cz_nI {k : Nat} : ∀ e, e < 3 → k < Nn e → (nI k = 0 ↔ nI k &&& szM e = 0) := by
  intro e he hk
  rw [u_and _ e he, u_nI k e he, Nat.mod_eq_of_lt hk]
def jxVal (how : Int32) (e : Nat) (a b : Int32) (m : Nat) : Int32 := if how = 2 then nI (dN e (u e a) (u e b) m) else nI (tN e (u e a) (u e b) m)
def jxSr (how : Int32) (e : Nat) (a b : Int32) (m : Nat) (sr : Int32) : Int32 := if how = 2 then dS e a b m sr true true else tS e a b m sr true true
theorem jxSr_ok (how : Int32) (e : Nat) (a b : Int32) (m : Nat) (sr : Int32) : fOK sr (jxSr how e a b m sr) := by
  unfold jxSr; split <;> exact rk_ok ..
theorem jx_tail (k : Nat) (n v c had : Bool) (sr : Int32) (S : St) (e : Nat) (he : e < 3) (hk : k < Nn e) (hh : had = !decide (sr &&& 4 = 0)) :
    (jn (fun (b2 : Bool) => (bv (fX4_mark 4 b2 (sI S 3 (f4 sr n (cz e (nI k)) v c))) fun S3 => (bd (fX1_withCarryToX (nI k) S3) fun r1 S4 => (some (r1, S4))))) fun K2 =>
    (if (zI had) = 0 then (K2 false)
    else (if nI k = 0 then (K2 true)
    else (K2 false)))) = some (nI k, sI S 3 (rk sr n (cz e (nI k)) v c true true)) := by
  have fin : ∀ b2 : Bool, b2 = (had && cz e (nI k)) → (bv (fX4_mark 4 b2 (sI S 3 (f4 sr n (cz e (nI k)) v c))) fun S3 => (bd (fX1_withCarryToX (nI k) S3) fun r1 S4 => (some (r1, S4)))) = some (nI k, sI S 3 (rk sr n (cz e (nI k)) v c true true)) := by
    intro b2 hb
    rw [pX4_mark, bv_some, pX1_withCarryToX, bd_some, hb, hh]
    show some (_, sI (sI (sI S 3 _) 3 _) 3 _) = _
    rw [sI_I, sI_I]
    show some (nI k, sI S 3 (fl (fl (f4 sr n (cz e (nI k)) v c) 4 _) 16 (!decide (fl (f4 sr n (cz e (nI k)) v c) 4 _ &&& 1 = 0)))) = _
    rw [kz_e]; rfl
  rw [jn_d]
  cases had
  · rw [if_pos (show zI false = 0 from rfl)]; exact fin false rfl
  · rw [if_neg (show ¬ zI true = 0 by decide)]
    by_cases h : nI k = 0
    · rw [if_pos h]; exact fin true (by unfold cz; rw [decide_eq_true ((cz_nI e he hk).mp h)]; rfl)
    · rw [if_neg h]; exact fin false (by unfold cz; rw [decide_eq_false (fun q => h ((cz_nI e he hk).mpr q))]; rfl)
theorem pX1_joinedWithX (how a b : Int32) (S : St) : ∀ e, e < 3 → fX1_joinedWithX how e a b S = some (jxVal how e a b (xN (S.1 3)), sI S 3 (jxSr how e a b (xN (S.1 3)) (S.1 3))) := by
  intro e he
  unfold fX1_joinedWithX jxVal jxSr
  have hp := Nn_pos e he
  rw [gd_t he, pX4_has, bd_some, jn_d]
  by_cases h2 : how = 2
  · rw [if_pos h2, if_pos h2, if_pos h2, pX1_xAsNumber, bd_some, pX1_subtracted a b _ (xN_lt _) S e he, bd_some]
    exact jx_tail _ _ _ _ _ _ S e he (Nat.mod_lt _ hp) rfl
  · rw [if_neg h2, if_neg h2, if_neg h2, pX1_xAsNumber, bd_some, pX1_added a b _ (xN_lt _) S e he, bd_some]
    exact jx_tail _ _ _ _ _ _ S e he (Nat.mod_lt _ hp) rfl
