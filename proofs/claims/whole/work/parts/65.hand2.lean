/-! ===== an instruction's end on both sides ===== -/
def OkF (c0 : CB) (d0 : CM) (B M : St) : Prop := Ok c0 d0 B M ∨ ∃ n B1 M1, Ok c0 d0 B1 M1 ∧ B1.2.1 0 = false ∧ 0 < n ∧ n < 64 ∧ ¬ (n = 3 ∨ n = 4 ∨ n = 8 ∨ n = 10 ∨ n = 11) ∧ B = sI B1 6 n ∧ M = sI M1 8 n
def Hd (c0 : CB) (d0 : CM) (m0 : Nat → Int32) (x : Option St) (y : Option (Bool × St)) : Prop :=
  ∃ B' b M', x = some B' ∧ y = some (b, M') ∧ ((b = true ∧ (OkF c0 d0 B' M' ∨ Tr c0 d0 m0 B' M')) ∨ (b = false ∧ ∃ B1, Ok c0 d0 B1 M' ∧ Fr m0 B1 M' ∧ B' = sI B1 6 4))
theorem bd_c {α β : Type} {x : Option (α × St)} {f g : α → St → Option β} (h : ∀ r S, f r S = g r S) : bd x f = bd x g := by
  have : f = g := by funext r S; exact h r S
  rw [this]
theorem bv_c {β : Type} {x : Option St} {f g : St → Option β} (h : ∀ S, f S = g S) : bv x f = bv x g := by
  have : f = g := by funext S; exact h S
  rw [this]
section H2
variable {c0 : CB} {d0 : CM} {m0 : Nat → Int32} {B M : St}
theorem Hd.fin {x : Option St} {y : Option (Bool × St)} {B' M' : St} (hx : x = some B') (hy : y = some (true, M')) (h : Fin1 c0 d0 m0 B' M') : Hd c0 d0 m0 x y := ⟨B', true, M', hx, hy, Or.inl ⟨rfl, h.elim (fun q => Or.inl (Or.inl q)) Or.inr⟩⟩
theorem rs_0 (h : Ok c0 d0 B M) (n : Int32) : rs B n = sI B 6 n := by unfold rs; rw [if_pos h.2.2.2.2.2.1]
theorem Hd.ill {x : Option St} {y : Option (Bool × St)} (h : Ok c0 d0 B M) (hf : Fr m0 B M) (hx : x = some (rs B 4)) (hy : y = some (false, M)) : Hd c0 d0 m0 x y := ⟨rs B 4, false, M, hx, hy, Or.inr ⟨rfl, B, h, hf, rs_0 h 4⟩⟩
theorem op_of {M1 : St} (h : cM M1 = cM M) : M1.1 5 = M.1 5 := congrArg (fun q : CM => q.1.2.2.2.1) h
theorem Ok.op {B1 M1 : St} (h : Ok c0 d0 B M) (h1 : Ok c0 d0 B1 M1) : M1.1 5 = M.1 5 := op_of (h1.2.2.2.2.2.2.2.2.2.2.2.2.2.trans h.2.2.2.2.2.2.2.2.2.2.2.2.2.symm)
theorem cmb_ill {k : Nat} (hk : k < 65536) (hs : k / 64 % 4 < 3) (how kinds : Int32) (hm : mf (oz kinds (k / 64 % 4)) (k % 64) = true) (B : St) : fX2_combine (nI k) how kinds B = some (rs B 4) := by
  unfold fX2_combine
  rw [f_sizeBits hk, bd_some, f_of _ _ hs, bd_some, gd_t hs, pX2_ofSize _ _ _ hs, bd_some, f_operand hk, bd_some, pX2_misfits _ _ (by omega), bd_some, hm, if_pos rfl, if_neg (show ¬ zI true = 0 by decide)]
theorem cmb_run {k : Nat} (hk : k < 65536) (hs : k / 64 % 4 < 3) (how kinds : Int32) (hm : mf (oz kinds (k / 64 % 4)) (k % 64) = false) (B : St) : fX2_combine (nI k) how kinds B = (bd (fX0_locate (k / 64 % 4) (nI (k % 64)) B) fun w1 S7 => (bd (fX0_load (k / 64 % 4) w1 S7) fun r6 S10 => (bd (fX0_load (k / 64 % 4) (wRg (nI (k / 512 % 8))) S10) fun r7 S11 => (if k / 256 % 2 = 0 then (bd (fX1_joined how (k / 64 % 4) r7 r6 S11) fun r8 S13 => (fX0_store (k / 64 % 4) (wRg (nI (k / 512 % 8))) r8 S13)) else (bd (fX1_joined how (k / 64 % 4) r6 r7 S11) fun r9 S15 => (fX0_store (k / 64 % 4) w1 r9 S15)))))) := by
  unfold fX2_combine
  rw [f_sizeBits hk, bd_some, f_of _ _ hs, bd_some, gd_t hs, pX2_ofSize _ _ _ hs, bd_some, f_operand hk, bd_some, pX2_misfits _ _ (by omega), bd_some, hm, if_pos (show zI false = 0 from rfl), if_neg (show ¬ (false = true) by decide), f_operand hk, bd_some]
  refine bd_c (fun w1 S7 => ?_)
  rw [f_upper hk, bd_some, pX0_inRegister, bd_some]
  refine bd_c (fun r6 S10 => ?_)
  refine bd_c (fun r7 S11 => ?_)
  rw [f_isTo hk, bd_some]
  by_cases q : k / 256 % 2 = 0
  · rw [decide_eq_true q, if_pos (show zI (!true) = 0 from rfl), if_pos q]
    refine bd_c (fun r8 S13 => ?_)
    rw [q_bv]
  · rw [decide_eq_false q, if_neg (show ¬ zI (!false) = 0 by decide), if_neg q]
    refine bd_c (fun r8 S13 => ?_)
    rw [q_bv]
/-- the two sides' results of a pair, by the low part: class (a with d masked) against reference -/
def logF (how' : Int32) (a d : Int32) : Int32 := if how' = 0 then a ||| d else if how' = 1 then a &&& d else a ^^^ d
theorem pX7_mixed (how' a d : Int32) (M : St) : fX7_mixed how' a d M = some (logF how' a d, M) := by
  unfold fX7_mixed logF
  split
  · rfl
  · split <;> rfl
def hwR (how how' : Int32) : Prop := (how = 0 ∧ how' = 0) ∨ (how = 1 ∧ how' = 1) ∨ (how = 5 ∧ how' = 2)
theorem jV0 (e : Nat) (a b : Int32) : jVal 0 e a b = (a ||| b) &&& szM e := if_pos rfl
theorem jV1 (e : Nat) (a b : Int32) : jVal 1 e a b = (a &&& b) &&& szM e := by unfold jVal; rw [if_neg (by decide), if_pos rfl]
theorem jV2 (e : Nat) (a b : Int32) : jVal 2 e a b = nI (dN e (u e a) (u e b) 0) := by unfold jVal; rw [if_neg (by decide), if_neg (by decide), if_pos rfl]
theorem jV3 (e : Nat) (a b : Int32) : jVal 3 e a b = nI (tN e (u e a) (u e b) 0) := by unfold jVal; rw [if_neg (by decide), if_neg (by decide), if_neg (by decide), if_pos rfl]
theorem jV5 (e : Nat) (a b : Int32) : jVal 5 e a b = (a ^^^ b) &&& szM e := by unfold jVal; rw [if_neg (by decide), if_neg (by decide), if_neg (by decide), if_neg (by decide)]
theorem jS0 (e : Nat) (a b s : Int32) : jSr 0 e a b s = lgS e (a ||| b) s := if_pos rfl
theorem jS1 (e : Nat) (a b s : Int32) : jSr 1 e a b s = lgS e (a &&& b) s := by unfold jSr; rw [if_neg (by decide), if_pos rfl]
theorem jS2 (e : Nat) (a b s : Int32) : jSr 2 e a b s = dS e a b 0 s true false := by unfold jSr; rw [if_neg (by decide), if_neg (by decide), if_pos rfl]
theorem jS3 (e : Nat) (a b s : Int32) : jSr 3 e a b s = tS e a b 0 s true false := by unfold jSr; rw [if_neg (by decide), if_neg (by decide), if_neg (by decide), if_pos rfl]
theorem jS5 (e : Nat) (a b s : Int32) : jSr 5 e a b s = lgS e (a ^^^ b) s := by unfold jSr; rw [if_neg (by decide), if_neg (by decide), if_neg (by decide), if_neg (by decide)]
theorem lF0 (a b : Int32) : logF 0 a b = a ||| b := if_pos rfl
theorem lF1 (a b : Int32) : logF 1 a b = a &&& b := by unfold logF; rw [if_neg (by decide), if_pos rfl]
theorem lF2 (a b : Int32) : logF 2 a b = a ^^^ b := by unfold logF; rw [if_neg (by decide), if_neg (by decide)]
theorem log_j {how how' : Int32} (h : hwR how how') (e : Nat) (he : e < 3) (a d sr : Int32) :
    (jVal how e a (d &&& szM e) &&& szM e = logF how' a d &&& szM e ∧ jSr how e a (d &&& szM e) sr = lgS e (logF how' a d) sr) ∧ (jVal how e (d &&& szM e) a &&& szM e = logF how' a d &&& szM e ∧ jSr how e (d &&& szM e) a sr = lgS e (logF how' a d) sr) := by
  have mm : ∀ x, (x &&& szM e) &&& szM e = x &&& szM e := fun x => mask_mask x e he
  rcases h with ⟨rfl, rfl⟩ | ⟨rfl, rfl⟩ | ⟨rfl, rfl⟩
  · have c := or_c a d (szM e)
    rw [jV0, jV0, jS0, jS0, lF0, mm, mm]
    exact ⟨⟨c.1, lgS_c e he c.1 sr⟩, c.2, lgS_c e he c.2 sr⟩
  · have c := and_c a d (szM e)
    rw [jV1, jV1, jS1, jS1, lF1, mm, mm]
    exact ⟨⟨c.1, lgS_c e he c.1 sr⟩, c.2, lgS_c e he c.2 sr⟩
  · have c := xor_c a d (szM e)
    rw [jV5, jV5, jS5, jS5, lF2, mm, mm]
    exact ⟨⟨c.1, lgS_c e he c.1 sr⟩, c.2, lgS_c e he c.2 sr⟩
theorem ix8 {r : Nat} (hr : r < 8) : ixo (nI r) 8 = true := ixo_of (nI_pos (by omega)) (by rw [nI_clamp (by omega)]; exact hr)
theorem cl8 {r : Nat} (hr : r < 8) : (nI r).toNatClampNeg = r := nI_clamp (by omega)
/-- what the reference's logicPair does, its choices made -/
theorem lp_run {k : Nat} (hk : k < 65536) (hs : k / 64 % 4 < 3) (hop : M.1 5 = nI k) (how' by_ : Int32) (hby : by_ = (if how' = 2 then 4 else if k / 256 % 2 = 0 then 1 else 2)) : fX7_logicPair how' M = (bd (fX7_fits (nI (k % 64)) by_ (szB (k / 64 % 4)) M) fun b2 S2 => (if zI b2 = 0 then some (false, S2) else (bv (fX7_operand ((S2.1 5) &&& 63) (szB (k / 64 % 4)) S2) fun S3 => (bd (fX7_take (szB (k / 64 % 4)) S3) fun r2 S4 => (bd (fX7_mixed how' r2 (S4.2.2 1 (k / 512 % 8)) S4) fun r3 S5 => (bv (fX7_logic r3 (szB (k / 64 % 4)) S5) fun S6 => (if k / 256 % 2 = 0 then (if (S6.1 6) = 0 then (bd (fX7_joined (S6.2.2 1 (k / 512 % 8)) r3 (szB (k / 64 % 4)) S6) fun r4 S7 => some (true, sA S7 1 (k / 512 % 8) r4)) else some (true, S6)) else (bv (fX7_give r3 (szB (k / 64 % 4)) S6) fun S9 => some (true, S9))))))))) := by
  unfold fX7_logicPair
  have hr : k / 512 % 8 < 8 := by omega
  rw [hop, o_6 hk, m_sizeOf M _ hs, bd_some, hop, o_9 hk, o_63 hk]
  simp only [lt]
  have hb : (!decide (k / 256 % 2 = 0)) = !decide (nI k &&& 256 = 0) := by
    by_cases q : k / 256 % 2 = 0
    · rw [decide_eq_true q, decide_eq_true ((b8 hk).mpr q)]
    · rw [decide_eq_false q, decide_eq_false (fun z => q ((b8 hk).mp z))]
  rw [jV hb, jn_d]
  simp only [gd_t (ix8 hr), cl8 hr]
  subst hby
  by_cases h2 : how' = 2
  · rw [if_pos h2, if_pos h2]
    by_cases q : k / 256 % 2 = 0
    · simp only [decide_eq_true q, if_pos q, if_pos (show zI (!true) = 0 from rfl)]
    · simp only [decide_eq_false q, if_neg q, if_neg (show ¬ zI (!false) = 0 by decide)]
  · rw [if_neg h2, if_neg h2]
    by_cases q : k / 256 % 2 = 0
    · simp only [decide_eq_true q, if_pos q, if_pos (show zI (!true) = 0 from rfl)]
    · simp only [decide_eq_false q, if_neg q, if_neg (show ¬ zI (!false) = 0 by decide)]
end H2
