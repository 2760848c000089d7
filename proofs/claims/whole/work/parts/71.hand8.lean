/-! ===== steps of both sides at once ===== -/
section H8
variable {c0 : CB} {d0 : CM} {m0 : Nat → Int32} {B M : St}
theorem Hd.rd {e k6 : Nat} (hk : k6 < 61) (he : e < 3) (h : Ok c0 d0 B M) (hf : Fr m0 B M) {f : Int64 → Int32 → St → Option St} {g : Int32 → St → Option (Bool × St)}
    (H1 : ∀ w r B1 M1, Ok c0 d0 B1 M1 → Fr m0 B1 M1 → PlR e w M1 m0 → M1.1 12 = sortOf k6 → M1.1 5 = M.1 5 → r &&& szM e = r → Hd c0 d0 m0 (f w r B1) (g r M1))
    (H2 : ∀ w B1 M1, Tr c0 d0 m0 B1 M1 → M1.1 5 = M.1 5 → Hd c0 d0 m0 (f w 0 B1) (g 0 M1)) :
    Hd c0 d0 m0 (bd (fX0_locate e (nI k6) B) fun w S => (bd (fX0_load e w S) fun r S' => f w r S')) (bv (fX7_operand (nI k6) (szB e) M) fun S => (bd (fX7_take (szB e) S) fun r S' => g r S')) := by
  obtain ⟨w, B1, M1, a1, a2, a3, a4, a5, a6, ld⟩ := sim_ll k6 hk e he h hf
  have o1 : M1.1 5 = M.1 5 := h.op a3
  rw [a1, bd_some, a2, bv_some]
  rcases ld with ⟨r, l1, l2, l3⟩ | ⟨a, l1, l2, l3⟩
  · rw [l1, bd_some, l2, bd_some]
    exact H1 w r B1 M1 a3 a4 a5 a6 o1 l3
  · rw [l1, bd_some, l2, bd_some]
    exact H2 w _ _ l3 o1
theorem Hd.lc {e k6 : Nat} (hk : k6 < 61) (he : e < 3) (h : Ok c0 d0 B M) (hf : Fr m0 B M) {f : Int64 → St → Option St} {g : St → Option (Bool × St)}
    (H1 : ∀ w B1 M1, Ok c0 d0 B1 M1 → Fr m0 B1 M1 → PlR e w M1 m0 → M1.1 12 = sortOf k6 → M1.1 5 = M.1 5 → Hd c0 d0 m0 (f w B1) (g M1)) :
    Hd c0 d0 m0 (bd (fX0_locate e (nI k6) B) f) (bv (fX7_operand (nI k6) (szB e) M) g) := by
  obtain ⟨w, B1, M1, a1, a2, a3, a4, a5, a6⟩ := sim_locate k6 hk e he h hf
  rw [a1, bd_some, a2, bv_some]
  exact H1 w B1 M1 a3 a4 a5 a6 (h.op a3)
theorem Hd.st {e : Nat} {w : Int64} {v v' s' : Int32} (he : e < 3) (h : Ok c0 d0 B M) (hf : Fr m0 B M) (hp : PlR e w M m0) (hs : M.1 12 = 0 ∨ M.1 12 = 2) (hk : fOK (B.1 3) s') (hv : v &&& szM e = v' &&& szM e) :
    Hd c0 d0 m0 (fX0_store e w v (sI B 3 s')) (bv (fX7_give v' (szB e) (sI M 2 s')) fun S => some (true, S)) := by
  obtain ⟨B', M', s1, s2, s3⟩ := fin_store e he w v v' s' h hf hp hs hk hv
  exact Hd.fin s1 (by rw [s2, bv_some]) s3
theorem Hd.st0 {e : Nat} {w : Int64} {v v' : Int32} (he : e < 3) (h : Ok c0 d0 B M) (hf : Fr m0 B M) (hp : PlR e w M m0) (hs : M.1 12 = 0 ∨ M.1 12 = 2) (hv : v &&& szM e = v' &&& szM e) :
    Hd c0 d0 m0 (fX0_store e w v B) (bv (fX7_give v' (szB e) M) fun S => some (true, S)) := by
  obtain ⟨B', M', s1, s2, s3⟩ := sim_store e he w v v' h hf hp hs hv
  exact Hd.fin s1 (by rw [s2, bv_some]) s3
theorem Hd.stT {e : Nat} {w : Int64} {v v' n : Int32} (he : e < 3) (h : Tr c0 d0 m0 B M) : Hd c0 d0 m0 (fX0_store e w v B) (bv (fX7_give v' n M) fun S => some (true, S)) := by
  obtain ⟨B', M', s1, s2, s3⟩ := trb_store e he w v v' n h
  exact Hd.fin s1 (by rw [s2, bv_some]) (Or.inr s3)
theorem Hd.ok (h : Ok c0 d0 B M) : Hd c0 d0 m0 (some B) (some (true, M)) := Hd.fin rfl rfl (Or.inl h)
theorem Hd.t (h : Tr c0 d0 m0 B M) : Hd c0 d0 m0 (some B) (some (true, M)) := Hd.fin rfl rfl (Or.inr h)
theorem lgS_ok (e : Nat) (v sr : Int32) : fOK sr (lgS e v sr) := f4_ok ..
theorem ls2 : lsR 2 true := Or.inl ⟨rfl, rfl⟩
theorem ls3 : lsR 3 false := Or.inr ⟨rfl, rfl⟩
theorem DA6 {k6 : Nat} (hk : k6 < 64) (h : mf 509 k6 = false) : k6 < 61 := mf_61' (Or.inr (Or.inr rfl)) hk h
theorem q_ill {x : Option St} {y : Option (Bool × St)} (h : Ok c0 d0 B M) (hf : Fr m0 B M) (hx : x = some (rs B 4)) (hy : y = some (false, M)) : Hd c0 d0 m0 x y := Hd.ill h hf hx hy
/-- an operand alone: with X from 0, 0, from 0, turned, tested -/
theorem one_op {k : Nat} {w : Int32} (hk : k < 65536) (hs : k / 64 % 4 < 3) (q : k / 256 % 2 = 0) (hu : (k / 512 % 8 = 0 ∧ w = 0) ∨ (k / 512 % 8 = 1 ∧ w = 2) ∨ (k / 512 % 8 = 2 ∧ w = 4) ∨ (k / 512 % 8 = 3 ∧ w = 6) ∨ (k / 512 % 8 = 5 ∧ w = 10)) (hop : M.1 5 = nI k) (h : Ok c0 d0 B M) (hf : Fr m0 B M) : Hd c0 d0 m0 (fX2_single (nI k) B) (fX7_unary w M) := by
  have h6 : k % 64 < 64 := by omega
  unfold fX2_single fX7_unary
  have u5 : (nI (k / 512 % 8) ≤ 5) = True := eq_true (by rcases hu with h | h | h | h | h <;> (rw [h.1]; decide))
  simp only [f_upper hk, bd_some, f_isTo hk, decide_eq_true q, Bool.not_true, zf, if_true, f_sizeBits hk, nI3 hs, if_false, u5, f_operand hk, pX2_misfits _ _ h6, f_of _ _ hs, gd_t hs, hop, o_6 hk, m_sizeOf M _ hs, o_63 hk, ft_of (ft_DALT _ hs _ h6), q_bv]
  cases hm : mf 509 (k % 64)
  · simp only [zf, if_true, Bool.not_false, zt, if_false, if_neg (show ¬ (false = true) by decide), hop, o_63 hk]
    refine Hd.rd (DA6 h6 hm) hs h hf ?_ ?_
    · intro w r B1 M1 hO hF hP hS hp hr
      have hsrt : M1.1 12 = 0 ∨ M1.1 12 = 2 := by rw [hS]; exact sort_DA _ h6 hm
      rcases hu with ⟨e1, e2⟩ | ⟨e1, e2⟩ | ⟨e1, e2⟩ | ⟨e1, e2⟩ | ⟨e1, e2⟩
      · rw [e1, e2, if_pos (show nI 0 = 0 from rfl), if_pos rfl, pX1_joinedWithX _ _ _ _ _ hs, bd_some, pX7_x, bd_some, rk_jx ls2 _ _ _ (xN_lt _) _ _ hs, bd_some, ok_sr hO]
        exact Hd.st hs hO hF hP hsrt (jxSr_ok ..) rfl
      · rw [e1, e2, if_neg (show ¬ nI 1 = 0 by decide), if_pos (show nI 1 = 1 from rfl), if_neg (by decide), if_pos rfl, pX1_lg _ _ _ hs, bd_some, pX7_lg _ _ _ hs, bv_some, ok_sr hO]
        exact Hd.st hs hO hF hP hsrt (lgS_ok ..) (mask_mask _ _ hs)
      · rw [e1, e2, if_neg (show ¬ nI 2 = 0 by decide), if_neg (show ¬ nI 2 = 1 by decide), if_pos (show nI 2 = 2 from rfl), if_neg (by decide), if_neg (by decide), if_pos rfl, pX1_joined _ _ _ _ _ hs, bd_some, rk_j ls2 _ _ _ _ hs, bd_some, ok_sr hO]
        exact Hd.st hs hO hF hP hsrt (jSr_ok ..) rfl
      · rw [e1, e2, if_neg (show ¬ nI 3 = 0 by decide), if_neg (show ¬ nI 3 = 1 by decide), if_neg (show ¬ nI 3 = 2 by decide), if_pos (show nI 3 = 3 from rfl), if_neg (by decide), if_neg (by decide), if_neg (by decide), if_pos rfl, pX1_lg _ _ _ hs, bd_some, pX7_lg _ _ _ hs, bv_some, ok_sr hO]
        exact Hd.st hs hO hF hP hsrt (lgS_ok ..) (mask_mask _ _ hs)
      · rw [e1, e2, if_neg (show ¬ nI 5 = 0 by decide), if_neg (show ¬ nI 5 = 1 by decide), if_neg (show ¬ nI 5 = 2 by decide), if_neg (show ¬ nI 5 = 3 by decide), if_neg (by decide), if_neg (by decide), if_neg (by decide), if_neg (by decide), pX1_lg _ _ _ hs, bd_some, pX7_lg _ _ _ hs, bv_some, ok_sr hO]
        exact Hd.ok (hO.fl (lgS_ok ..))
    · intro w B1 M1 hT hp
      rcases hu with ⟨e1, e2⟩ | ⟨e1, e2⟩ | ⟨e1, e2⟩ | ⟨e1, e2⟩ | ⟨e1, e2⟩
      · rw [e1, e2, if_pos (show nI 0 = 0 from rfl), if_pos rfl, pX1_joinedWithX _ _ _ _ _ hs, bd_some, pX7_x, bd_some, rk_jx ls2 _ _ _ (xN_lt _) _ _ hs, bd_some]
        exact Hd.stT hs (hT.sr _ _)
      · rw [e1, e2, if_neg (show ¬ nI 1 = 0 by decide), if_pos (show nI 1 = 1 from rfl), if_neg (by decide), if_pos rfl, pX1_lg _ _ _ hs, bd_some, pX7_lg _ _ _ hs, bv_some]
        exact Hd.stT hs (hT.sr _ _)
      · rw [e1, e2, if_neg (show ¬ nI 2 = 0 by decide), if_neg (show ¬ nI 2 = 1 by decide), if_pos (show nI 2 = 2 from rfl), if_neg (by decide), if_neg (by decide), if_pos rfl, pX1_joined _ _ _ _ _ hs, bd_some, rk_j ls2 _ _ _ _ hs, bd_some]
        exact Hd.stT hs (hT.sr _ _)
      · rw [e1, e2, if_neg (show ¬ nI 3 = 0 by decide), if_neg (show ¬ nI 3 = 1 by decide), if_neg (show ¬ nI 3 = 2 by decide), if_pos (show nI 3 = 3 from rfl), if_neg (by decide), if_neg (by decide), if_neg (by decide), if_pos rfl, pX1_lg _ _ _ hs, bd_some, pX7_lg _ _ _ hs, bv_some]
        exact Hd.stT hs (hT.sr _ _)
      · rw [e1, e2, if_neg (show ¬ nI 5 = 0 by decide), if_neg (show ¬ nI 5 = 1 by decide), if_neg (show ¬ nI 5 = 2 by decide), if_neg (show ¬ nI 5 = 3 by decide), if_neg (by decide), if_neg (by decide), if_neg (by decide), if_neg (by decide), pX1_lg _ _ _ hs, bd_some, pX7_lg _ _ _ hs, bv_some]
        exact Hd.t (hT.sr _ _)
  · simp only [zt, if_false, Bool.not_true, zf, if_true]
    exact Hd.ill h hf rfl rfl
end H8
