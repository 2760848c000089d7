/-! ===== a shift, in step ===== -/
theorem selZ {α β : Type} (c : Bool) (f : β → α) (a b : β) : (if zI c = 0 then f a else f b) = f (if c = true then b else a) := by
  cases c
  · rw [if_pos zI_f, if_neg (by decide)]
  · rw [if_neg (show ¬ zI true = 0 by decide), if_pos rfl]
theorem selP {α β : Type} (c : Prop) [Decidable c] (f : β → α) (a b : β) : (if c then f a else f b) = f (if c then a else b) := by
  by_cases h : c
  · rw [if_pos h, if_pos h]
  · rw [if_neg h, if_neg h]
def cinF (kd : Nat) (last extra sign : Bool) : Bool := if kd = 0 then sign else if kd = 1 then false else if kd = 2 then extra else last
theorem pX1_comingIn (kd : Nat) (hkd : kd < 4) (a b c : Bool) (S : St) : fX1_comingIn (nI kd) a b c S = some (cinF kd a b c, S) := by
  have q : kd = 0 ∨ kd = 1 ∨ kd = 2 ∨ kd = 3 := by omega
  rcases q with rfl | rfl | rfl | rfl <;> rfl
theorem bxor_d (a b : Bool) (x y t : Int32) (k : Nat) (hk : k < 32) (ht : ∀ i, i < 32 → bt t i = decide (i = k)) (ha : bt x k = a) (hb : bt y k = b) : (a ^^ b) = !decide ((x ^^^ y) &&& t = 0) := by
  have h := top_b (x ^^^ y) k t hk ht
  rw [b_xor, ha, hb] at h
  cases e : (a ^^ b)
  · rw [decide_eq_true (h.mpr e)]; rfl
  · rw [decide_eq_false (fun z => by rw [h.mp z] at e; cases e)]; rfl
theorem bt_d (x t : Int32) (k : Nat) (hk : k < 32) (ht : ∀ i, i < 32 → bt t i = decide (i = k)) : bt x k = !decide (x &&& t = 0) := by
  have h := top_b x k t hk ht
  cases e : bt x k
  · rw [decide_eq_true (h.mpr e)]; rfl
  · rw [decide_eq_false (fun z => by rw [h.mp z] at e; cases e)]; rfl
theorem lb_d (w t : Int64) (k : Nat) (hk : k < 64) (ht : ∀ i, i < 64 → lb t i = decide (i = k)) : lb w k = !decide (lg_cmp (w &&& t) 0 = 0) := by
  have h := topL w t k hk ht
  cases e : lb w k
  · rw [decide_eq_true (by rw [h]; exact e)]; rfl
  · rw [decide_eq_false (fun z => by rw [h] at z; rw [z] at e; cases e)]; rfl
theorem kk32 : ∀ e, e < 3 → kk e < 32 := by decide
def shN (left : Bool) (e : Nat) (v : Int32) (c : Bool) : Int32 := if left = true then shL e v c else shR e v c
def shO (left : Bool) (e : Nat) (v : Int32) : Bool := if left = true then bt v (kk e) else bt v 0
def shC (left : Bool) (e kd : Nat) (v : Int32) (x : Bool) : Bool := cinF kd (shO left e v) x (!left && bt v (kk e))
theorem shN_m (left : Bool) (e : Nat) (he : e < 3) (v : Int32) (c : Bool) (hv : v &&& szM e = v) : shN left e v c &&& szM e = shN left e v c := by
  unfold shN
  split
  · exact shL_m e he v c
  · exact shR_m e he v c hv
theorem selZj {α β : Type} (c : Bool) (K : β → α) (a b : β) : (jn K fun K1 => if zI c = 0 then K1 a else K1 b) = K (if c = true then b else a) := selZ c K a b
theorem selPj {α β : Type} (c : Prop) [Decidable c] (K : β → α) (a b : β) : (jn K fun K1 => if c then K1 a else K1 b) = K (if c then a else b) := selP c K a b
theorem jB8 {α : Type} (l : Bool) (c : Prop) [Decidable c] (K : Bool → α) : (jn K fun K5 => (if (zI l) = 0 then (if c then (K5 false) else (K5 true)) else (K5 false))) = K (!l && !decide c) := by
  rw [jn_d]
  cases l
  · rw [if_pos zI_f]
    by_cases h : c
    · rw [if_pos h, decide_eq_true h]; rfl
    · rw [if_neg h, decide_eq_false h]; rfl
  · rw [if_neg (show ¬ zI true = 0 by decide)]; rfl
theorem jK4 {α : Type} (l b5 : Bool) (c : Prop) [Decidable c] (K : Bool → α) : (jn K fun K4 => (if (zI l) = 0 then (if c then (K4 false) else (K4 true)) else (K4 b5))) = K (if l = true then b5 else !decide c) := by
  rw [jn_d]
  cases l
  · rw [if_pos zI_f, if_neg (show ¬ (false = true) by decide)]
    by_cases h : c
    · rw [if_pos h, decide_eq_true h]; rfl
    · rw [if_neg h, decide_eq_false h]; rfl
  · rw [if_neg (show ¬ zI true = 0 by decide), if_pos rfl]
theorem jK6 {α : Type} (l b9 : Bool) (x y t : Int32) (K : Int32 → α) : (jn K fun K6 => (if (zI l) = 0 then (jn (fun (v7 : Int32) => (K6 (x ||| v7))) fun K9 =>
    (if (zI b9) = 0 then (K9 0)
    else (K9 t)))
    else (jn (fun (b13 : Bool) => (K6 (y ||| (zI b13)))) fun K10 =>
    (if (zI b9) = 0 then (K10 false)
    else (K10 true))))) = K (if l = true then y ||| zI b9 else x ||| (if b9 = true then t else 0)) := by
  cases l <;> cases b9 <;> rfl
theorem jK7 {α : Type} (l c : Bool) (w4 t : Int64) (K : Int64 → α) : (jn K fun K7 => (if (zI c) = 0 then (K7 w4)
    else (jn (fun (w6 : Int64) => (K7 (w4 ||| w6))) fun K11 =>
    (if (zI l) = 0 then (K11 t)
    else (K11 1))))) = K (if c = true then w4 ||| (if l = true then 1 else t) else w4) := by
  cases l <;> cases c <;> rfl
theorem sh_c (e : Nat) (he : e < 3) (kd : Nat) (hkd : kd < 4) (t : Int32) (left : Bool) (f i : Nat) (hi : ¬ t ≤ nI i) (b3 b4 b5 : Bool) (v : Int32) (B : St) : fX1_shifted_l1 e t (nI kd) left (f + 1) (nI i) b3 b4 b5 v B = fX1_shifted_l1 e t (nI kd) left f (nI i + 1) (b3 || (bt v (kk e) ^^ bt (shN left e v (shC left e kd v b5)) (kk e))) (shO left e v) (if nI kd = 3 then b5 else shO left e v) (shN left e v (shC left e kd v b5)) B := by
  show fX1_shifted_b1 e t (nI kd) left (fX1_shifted_l1 e t (nI kd) left f) (nI i) b3 b4 b5 v B = _
  have k32 := kk32 e he
  have hT := bt_d v (szT e) (kk e) k32 (szT_b e he)
  have h4 : shO left e v = !decide (v &&& (if left = true then szT e else 1) = 0) := by
    unfold shO
    cases left
    · rw [if_neg (by decide), if_neg (by decide)]
      exact bt_d v 1 0 (by decide) (fun i hi => b1_0 i hi)
    · rw [if_pos rfl, if_pos rfl]
      exact hT
  have e2 : ∀ c, (if left = true then ((v <<< ((1 : Int32) &&& 31)) &&& szM e) ||| zI c else ush v 1 ||| (if c = true then szT e else 0)) = shN left e v c := fun c => rfl
  have e1 : cinF kd (shO left e v) b5 (!left && bt v (kk e)) = shC left e kd v b5 := rfl
  unfold fX1_shifted_b1
  rw [if_neg hi, selZj, jV h4, jB8, ← hT, pX1_comingIn kd hkd, bd_some, jK6, e1, e2, jV (bxor_d _ _ v (shN left e v (shC left e kd v b5)) (szT e) (kk e) k32 (szT_b e he) rfl rfl), lt_d, selPj, lt_d]
theorem r_cin {α : Type} (kd : Nat) (hkd : kd < 4) (left b5 b6 x : Bool) (s : Int32) (M : St) (K : Bool → St → Option α) : (jn K fun K => (if nI kd = 0 then (if (zI left) = 0 then (if (zI b5) = 0 then (K false (sI M 2 (fl s 16 x)))
    else (K true (sI M 2 (fl s 16 x))))
    else (K false (sI M 2 (fl s 16 x))))
    else (if nI kd = 2 then (bd (fX7_has 16 (sI M 2 (fl s 16 x))) fun b10 S10 => (K b10 S10))
    else (if nI kd = 3 then (if (zI b6) = 0 then (K false (sI M 2 (fl s 16 x)))
    else (K true (sI M 2 (fl s 16 x))))
    else (K false (sI M 2 (fl s 16 x))))))) = K (cinF kd b6 x (!left && b5)) (sI M 2 (fl s 16 x)) := by
  rw [jn_d]
  have q : kd = 0 ∨ kd = 1 ∨ kd = 2 ∨ kd = 3 := by omega
  rcases q with rfl | rfl | rfl | rfl
  · rw [if_pos (show nI 0 = 0 from rfl)]
    cases left <;> cases b5 <;> rfl
  · rw [if_neg (show ¬ nI 1 = 0 by decide), if_neg (show ¬ nI 1 = 2 by decide), if_neg (show ¬ nI 1 = 3 by decide)]
    rfl
  · rw [if_neg (show ¬ nI 2 = 0 by decide), if_pos (show nI 2 = 2 from rfl), pX7_has, bd_some, sI_at, has_fl]
    rfl
  · rw [if_neg (show ¬ nI 3 = 0 by decide), if_neg (show ¬ nI 3 = 2 by decide), if_pos (show nI 3 = 3 from rfl)]
    cases b6 <;> rfl
theorem r_chg {α : Type} (b2 b5 b9 : Bool) (w : Int64) (t : Int64) (h9 : b9 = !decide (lg_cmp (w &&& t) 0 = 0)) (K : Bool → α) : (jn K fun K => (if (zI b2) = 0 then (jn (fun (b9 : Bool) => (if (zI b5) = (zI b9) then (K false)
    else (K true))) fun K10 =>
    (if (lg_cmp (w &&& t) 0) = 0 then (K10 false)
    else (K10 true)))
    else (K true))) = K (b2 || (b5 ^^ b9)) := by
  rw [jn_d, jV h9]
  cases b2 <;> cases b5 <;> cases b9 <;> rfl
theorem r_x {α : Type} (kd : Nat) (hkd : kd < 4) (x o : Bool) (s : Int32) (M : St) (K : St → Option α) : (jn K fun K => (if 3 ≤ nI kd then (K (sI M 2 (fl s 16 x))) else (bv (fX7_flag 16 o (sI M 2 (fl s 16 x))) fun S9 => (K S9)))) = K (sI M 2 (fl s 16 (if nI kd = 3 then x else o))) := by
  rw [jn_d]
  have q : kd = 0 ∨ kd = 1 ∨ kd = 2 ∨ kd = 3 := by omega
  have e : ¬ nI kd = 3 → (bv (fX7_flag 16 o (sI M 2 (fl s 16 x))) fun S9 => (K S9)) = K (sI M 2 (fl s 16 o)) := by
    intro _
    rw [pX7_flag, bv_some, sI_at, sI_I, fl_fl]
  rcases q with rfl | rfl | rfl | rfl
  · rw [if_neg (show ¬ 3 ≤ nI 0 by decide), if_neg (show ¬ nI 0 = 3 by decide)]; exact e (by decide)
  · rw [if_neg (show ¬ 3 ≤ nI 1 by decide), if_neg (show ¬ nI 1 = 3 by decide)]; exact e (by decide)
  · rw [if_neg (show ¬ 3 ≤ nI 2 by decide), if_neg (show ¬ nI 2 = 3 by decide)]; exact e (by decide)
  · rw [if_pos (show 3 ≤ nI 3 by decide), if_pos (show nI 3 = 3 from rfl)]
theorem lb_plk (e : Nat) (he : e < 3) (v : Int32) : lb (pl e v) (kk e) = bt v (kk e) ∧ lb (pl e v) 0 = bt v 0 := by
  have hb := bE_k e he
  have k32 := kk32 e he
  constructor
  · rw [lb_pl v e he (kk e) (by omega), decide_eq_true (by omega), Bool.true_and]
  · rw [lb_pl v e he 0 (by omega), decide_eq_true (by omega), Bool.true_and]
theorem sh_r (e : Nat) (he : e < 3) (kd : Nat) (hkd : kd < 4) (t : Int32) (left : Bool) (f i : Nat) (hi : ¬ t ≤ nI i) (b3 b4 b5 : Bool) (v : Int32) (hv : v &&& szM e = v) (s : Int32) (M : St) : fX7_shifted_l1 (tL e) (szB e) (nI kd) left t (f + 1) (nI i) b3 b4 (pl e v) (sI M 2 (fl s 16 b5)) = fX7_shifted_l1 (tL e) (szB e) (nI kd) left t f (nI i + 1) (b3 || (bt v (kk e) ^^ bt (shN left e v (shC left e kd v b5)) (kk e))) (shO left e v) (pl e (shN left e v (shC left e kd v b5))) (sI M 2 (fl s 16 (if nI kd = 3 then b5 else shO left e v))) := by
  show fX7_shifted_b1 (tL e) (szB e) (nI kd) left t (fX7_shifted_l1 (tL e) (szB e) (nI kd) left t f) (nI i) b3 b4 (pl e v) (sI M 2 (fl s 16 b5)) = _
  have k32 := kk32 e he
  obtain ⟨pk, p0⟩ := lb_plk e he v
  have hT := lb_d (pl e v) (tL e) (kk e) (by omega) (tL_b e he)
  have h1 := lb_d (pl e v) 1 0 (by decide) one_l
  rw [pk] at hT
  rw [p0] at h1
  have h9 : ∀ c, bt (shN left e v c) (kk e) = !decide (lg_cmp (pl e (shN left e v c) &&& tL e) 0 = 0) := by
    intro c
    have := lb_d (pl e (shN left e v c)) (tL e) (kk e) (by omega) (tL_b e he)
    rw [(lb_plk e he (shN left e v c)).1] at this
    exact this
  have e3 : (if left = true then bt v (kk e) else !decide (lg_cmp (pl e v &&& 1) 0 = 0)) = shO left e v := by unfold shO; rw [← h1]
  have e1 : cinF kd (shO left e v) b5 (!left && bt v (kk e)) = shC left e kd v b5 := rfl
  have e2 : ∀ c : Bool, (if c = true then (if left = true then (pl e v <<< ((1 : Int32).toInt64 &&& 63)) &&& ((tL e <<< ((1 : Int32).toInt64 &&& 63)) - 1) else pl e v >>> ((1 : Int32).toInt64 &&& 63)) ||| (if left = true then 1 else tL e) else (if left = true then (pl e v <<< ((1 : Int32).toInt64 &&& 63)) &&& ((tL e <<< ((1 : Int32).toInt64 &&& 63)) - 1) else pl e v >>> ((1 : Int32).toInt64 &&& 63))) = pl e (shN left e v c) := by
    intro c
    unfold shN
    cases left
    · simp only [ft, if_false]
      exact (plR e he v c hv).symm
    · simp only [if_true]
      exact (plL e he v c).symm
  unfold fX7_shifted_b1
  rw [if_neg hi, jV hT, jK4, e3, r_cin kd hkd, e1, selZj, jK7, e2, r_chg _ _ _ _ _ (h9 _), r_x kd hkd, lt_d]
theorem k2v {α : Type} (kd : Nat) (hkd : kd < 4) (left b : Bool) (K : Bool → α) : (jn K fun K => if nI kd = 0 then (if (zI left) = 0 then (K false) else (if (zI b) = 0 then (K false) else (K true))) else (K false)) = K (decide (kd = 0) && left && b) := by
  have q : kd = 0 ∨ kd = 1 ∨ kd = 2 ∨ kd = 3 := by omega
  rcases q with rfl | rfl | rfl | rfl <;> cases left <;> cases b <;> rfl
theorem nS64 (i : Nat) (hi : i < 64) : nI i + 1 = nI (i + 1) := by
  have : ∀ i, i < 64 → nI i + 1 = nI (i + 1) := by decide
  exact this i hi
theorem nLe {a b : Nat} (ha : a < 65536) (hb : b < 65536) : (nI a ≤ nI b) ↔ a ≤ b := by
  have e : ∀ n, n < 65536 → (nI n).toInt = (n : Int) := by
    intro n hn
    rw [tI_tn, pk_tn (by omega), if_pos (by omega)]
  rw [Int32.le_iff_toInt_le, e a ha, e b hb]
  omega
theorem sh_loop (e : Nat) (he : e < 3) (kd : Nat) (hkd : kd < 4) (left : Bool) (t : Nat) (ht : t ≤ 63) (B M : St) : ∀ m i fuel b3 b4 b5 v, t = i + m → m < fuel → v &&& szM e = v → ∃ v' s', fX1_shifted_l1 e (nI t) (nI kd) left fuel (nI i) b3 b4 b5 v B = some (v', sI B 3 s') ∧ fX7_shifted_l1 (tL e) (szB e) (nI kd) left (nI t) fuel (nI i) b3 b4 (pl e v) (sI M 2 (fl (B.1 3) 16 b5)) = some (v', sI M 2 s') ∧ fOK (B.1 3) s' ∧ v' &&& szM e = v' := by
  intro m
  induction m with
  | zero =>
    intro i fuel b3 b4 b5 v hti hfu hv
    obtain ⟨f, rfl⟩ : ∃ f, fuel = f + 1 := ⟨fuel - 1, by omega⟩
    have hle : nI t ≤ nI i := (nLe (by omega) (by omega)).mpr (by omega)
    refine ⟨v, f4 (fl (B.1 3) 16 b5) (cn e v) (cz e v) (decide (kd = 0) && left && b3) b4, ?_, ?_, ?_, hv⟩
    · show fX1_shifted_b1 e (nI t) (nI kd) left (fX1_shifted_l1 e (nI t) (nI kd) left f) (nI i) b3 b4 b5 v B = _
      unfold fX1_shifted_b1
      rw [if_pos hle, k2v kd hkd, pX1_note _ _ _ _ _ he, bv_some, pX4_mark, bv_some, sI_at, sI_I, sh_e]
    · show fX7_shifted_b1 (tL e) (szB e) (nI kd) left (nI t) (fX7_shifted_l1 (tL e) (szB e) (nI kd) left (nI t) f) (nI i) b3 b4 (pl e v) (sI M 2 (fl (B.1 3) 16 b5)) = _
      unfold fX7_shifted_b1
      rw [if_pos hle, pl_i' he hv, pX7_signs _ _ _ he, bv_some, sI_at, sI_I, k2v kd hkd, pX7_flag, bv_some, sI_at, sI_I, pX7_flag, bv_some, sI_at, sI_I]
      rfl
    · have a := (fOK.rf (B.1 3)).fl 16 b5 rfl rfl
      have b := f4_ok (fl (B.1 3) 16 b5) (cn e v) (cz e v) (decide (kd = 0) && left && b3) b4
      exact ⟨b.1.trans a.1, fun q => b.2 (a.2 q)⟩
  | succ m ih =>
    intro i fuel b3 b4 b5 v hti hfu hv
    obtain ⟨f, rfl⟩ : ∃ f, fuel = f + 1 := ⟨fuel - 1, by omega⟩
    have hle : ¬ nI t ≤ nI i := fun q => absurd ((nLe (by omega) (by omega)).mp q) (by omega)
    rw [sh_c e he kd hkd _ left f i hle, sh_r e he kd hkd _ left f i hle b3 b4 b5 v hv, nS64 i (by omega)]
    exact ih (i + 1) f _ _ _ _ (by omega) (by omega) (shN_m left e he v _ hv)
theorem sh_both (e : Nat) (he : e < 3) (kd : Nat) (hkd : kd < 4) (left : Bool) (t : Nat) (ht : t ≤ 63) (x : Int32) (B M : St) (hsr : M.1 2 = B.1 3) : ∃ v' s', fX1_shifted e x (nI t) (nI kd) left B = some (v', sI B 3 s') ∧ fX7_shifted x (szB e) (nI kd) left (nI t) M = some (v', sI M 2 s') ∧ fOK (B.1 3) s' ∧ v' &&& szM e = v' := by
  have hx := fl_has (B.1 3) 16 4 (by decide) (by decide +kernel)
  have hM : sI M 2 (fl (B.1 3) 16 (!decide (B.1 3 &&& 16 = 0))) = M := by rw [hx, ← hsr, sI_self]
  have hp : pl e x = pl e (x &&& szM e) := by rw [pl_N x e he, pl_N (x &&& szM e) e he, u_m x e he]
  unfold fX1_shifted fX7_shifted
  rw [gd_t he, lt_d, pX4_has, bd_some, lt_d, pX7_plain _ _ _ he, bd_some, lt_d, jn_d, jn_d]
  by_cases k2 : kd = 2
  · rw [k2, if_pos (show nI 2 = 2 from rfl), if_pos (show nI 2 = 2 from rfl), pX7_has, bd_some, hsr]
    have := sh_loop e he 2 (by decide) left t ht B M t 0 64 false (!decide (B.1 3 &&& 16 = 0)) (!decide (B.1 3 &&& 16 = 0)) (x &&& szM e) (by omega) (by omega) (mask_mask x e he)
    rw [hM, ← hp] at this
    cases hb : (!decide (B.1 3 &&& 16 = 0))
    · rw [hb] at this
      rw [if_pos zI_f, if_pos zI_f]
      exact this
    · rw [hb] at this
      rw [if_neg (show ¬ zI true = 0 by decide), if_neg (show ¬ zI true = 0 by decide)]
      exact this
  · rw [if_neg (show ¬ nI kd = 2 from nI_ne (b := 2) (by omega) (by decide) k2), if_neg (show ¬ nI kd = 2 from nI_ne (b := 2) (by omega) (by decide) k2)]
    have := sh_loop e he kd hkd left t ht B M t 0 64 false false (!decide (B.1 3 &&& 16 = 0)) (x &&& szM e) (by omega) (by omega) (mask_mask x e he)
    rw [hM, ← hp] at this
    exact this
