/-! ===== lines 5, 6, 7 ===== -/
theorem mf_al : ∀ k, k < 64 → mf 511 k = false → ¬ k / 8 = 1 → mf 509 k = false := by decide +kernel
theorem u_sub1 (x : Int32) : u 1 (x - 1) = (u 1 x + 65535) % 65536 := by
  show (x - 1).toBitVec.toNat % 65536 = (x.toBitVec.toNat % 65536 + 65535) % 65536
  rw [Int32.toBitVec_sub, BitVec.toNat_sub]
  have e : (1 : Int32).toBitVec.toNat = 1 := by decide
  have : x.toBitVec.toNat < 4294967296 := x.toBitVec.isLt
  rw [e]
  omega
theorem db_v (d : Int32) : ((d &&& szM 1) - 1) &&& szM 1 = (d - 1) &&& szM 1 := by
  rw [u_and ((d &&& szM 1) - 1) 1 (by decide), u_and (d - 1) 1 (by decide), u_sub1, u_sub1, u_m d 1 (by decide)]
theorem db_c (d : Int32) : ((d &&& szM 1) - 1 = (-1 : Int32)) = ((d - 1).toInt16.toInt32 = (-1 : Int32)) := by
  have h1 : ((d &&& szM 1) - 1 = (-1 : Int32)) ↔ u 1 d = 0 := by
    rw [u_and d 1 (by decide), ← nI_0' (show u 1 d < 2 ^ 32 by have := u_lt d 1 (by decide); have e : Nn 1 = 65536 := rfl; omega)]
    constructor
    · intro h
      have := congrArg (fun x : Int32 => x + 1) h
      simp only [Int32.sub_add_cancel] at this
      exact this
    · intro h; rw [h]; rfl
  have h2 : ((d - 1).toInt16.toInt32 = (-1 : Int32)) ↔ u 1 (d - 1) = 65535 := by
    have e := ext_sg (d - 1) 1 (by decide)
    have el : ext 1 (d - 1) = (d - 1).toInt16.toInt32 := rfl
    have ul := u_lt (d - 1) 1 (by decide)
    have e1 : Nn 1 = 65536 := rfl
    rw [e1] at ul
    have e2 : sg 1 (u 1 (d - 1)) = if u 1 (d - 1) < 32768 then ((u 1 (d - 1) : Nat) : Int) else ((u 1 (d - 1) : Nat) : Int) - 65536 := rfl
    rw [← el, ← Int32.toInt_inj, e, e2, show ((-1 : Int32)).toInt = -1 from by decide]
    split <;> omega
  have ul := u_lt d 1 (by decide)
  have e1 : Nn 1 = 65536 := rfl
  rw [e1] at ul
  apply propext
  rw [h1, h2, u_sub1]
  omega
theorem lt_x {α β : Type} (x : α) (f : α → β) : lt x f = f x := Eq.trans (Eq.refl _) (Eq.refl _)
theorem jn_x {κ γ : Type} (k : κ) (x : κ → γ) : jn k x = x k := Eq.trans (Eq.refl _) (Eq.refl _)
theorem bd_x {α β : Type} {r : α} {S : St} {f : α → St → Option β} : bd (some (r, S)) f = f r S := Eq.trans (Eq.refl _) (Eq.refl _)
theorem bv_x {β : Type} {S : St} {f : St → Option β} : bv (some S) f = f S := Eq.trans (Eq.refl _) (Eq.refl _)
theorem inR_x (k : Int32) (S : St) : fX0_inRegister k S = some (wRg k, S) := Eq.trans (Eq.refl _) (Eq.refl _)
section HC
variable {c0 : CB} {d0 : CM} {m0 : Nat → Int32} {B M : St}
theorem Hd.lc3 {e k6 : Nat} (hk : k6 < 61) (he : e < 3) (h : Ok c0 d0 B M) (hf : Fr m0 B M) {f : Int64 → St → Option St} {g : St → Option (Bool × St)}
    (H1 : ∀ w B1 M1, Ok c0 d0 B1 M1 → Fr m0 B1 M1 → PlR e w M1 m0 → M1.1 12 = sortOf k6 → M1.1 5 = M.1 5 → B1.1 3 = B.1 3 → Hd c0 d0 m0 (f w B1) (g M1)) :
    Hd c0 d0 m0 (bd (fX0_locate e (nI k6) B) f) (bv (fX7_operand (nI k6) (szB e) M) g) := by
  obtain ⟨w, B1, M1, a1, a2, a3, a4, a5, a6⟩ := sim_locate k6 hk e he h hf
  have q := loc_sr k6 (by omega) e he B w B1 a1
  rw [a1, bd_some, a2, bv_some]
  exact H1 w B1 M1 a3 a4 a5 a6 (h.op a3) q
theorem g5_q {k : Nat} (hk : k < 65536) (hs : k / 64 % 4 < 3) (hop : M.1 5 = nI k) (h : Ok c0 d0 B M) (hf : Fr m0 B M) : Hd c0 d0 m0 (fX2_quick (nI k) B) (fX7_group5 M) := by
  have h6 : k % 64 < 64 := by omega
  have hy : k % 8 < 8 := by omega
  unfold fX2_quick fX7_group5
  simp only [lt, jn, hop, o_6 hk, o_8 hk, o_63 hk, nI3 hs, if_false, m_sizeOf M _ hs, bd_some, f_sizeBits hk, f_of _ _ hs, gd_t hs, pX2_ofSize _ _ _ hs, f_operand hk, pX2_misfits _ _ h6, ft_of (ft_ALT _ hs _ h6), f_upper hk, f_lower hk, f_isTo hk, (k6s _ h6).1, (k6s _ h6).2, nqL (a := k % 64 / 8) 1 (L := 1) rfl (by omega) (by decide), nqL (a := k / 512 % 8) 0 (L := 0) rfl (by omega) (by decide), q_bv]
  cases hm : mf (oz 511 (k / 64 % 4)) (k % 64)
  · have hm5 := (mf_oz _ hs _ h6).2 hm
    simp only [zf, zt, if_true, if_false, Bool.not_false, ft, hop, o_9 hk, o_7 hk, nqL (a := k / 512 % 8) 0 (L := 0) rfl (by omega) (by decide)]
    by_cases u0 : k / 512 % 8 = 0 <;> by_cases q : k / 256 % 2 = 0 <;> by_cases an : k % 64 / 8 = 1
    all_goals first | simp (decide := true) only [e256 hk q, u0, an, decide_eq_true q, if_true, if_false, Bool.not_true, zf, zt] | simp (decide := true) only [n256 hk q, u0, an, decide_eq_false q, if_true, if_false, Bool.not_false, zf, zt]
    all_goals first
      | (simp only [pX4_get, bd_some, r4_8 _ hy, pX4_set, h.gA _ hy, pX7_setA _ _ _ hy, bv_some, ← Int32.sub_eq_add_neg]; exact Hd.ok (h.sA_ _ hy _).2)
      | (refine Hd.rd (mf_61 _ h6 ((mf_sub _ h6).2.2.2.2.1 hm5)) hs h hf ?_ ?_
         · intro w r B1 M1 hO hF hP hS hp hr
           rw [pX1_joined _ _ _ _ _ hs, bd_some]
           first | rw [rk_j ls2 _ _ _ _ hs] | rw [rk_j ls3 _ _ _ _ hs]
           rw [bd_some, ok_sr hO]
           exact Hd.st hs hO hF hP (by rw [hS]; exact sort_DA _ h6 (mf_al _ h6 hm5 an)) (jSr_ok ..) rfl
         · intro w B1 M1 hT hp
           rw [pX1_joined _ _ _ _ _ hs, bd_some]
           first | rw [rk_j ls2 _ _ _ _ hs] | rw [rk_j ls3 _ _ _ _ hs]
           rw [bd_some]
           exact Hd.stT hs (hT.sr _ _))
  · simp only [zt, if_false, Bool.not_true, zf, if_true]
    exact Hd.ill h hf rfl rfl
theorem sI_self (S : St) (j : Nat) : sI S j (S.1 j) = S := by
  show (upd S.1 j (S.1 j), S.2.1, S.2.2) = S
  have : upd S.1 j (S.1 j) = S.1 := by
    funext x
    by_cases hx : x = j
    · rw [hx]; exact pk_us
    · exact pk_un hx
  rw [this]
theorem pj1 (o v : Int32) (S : St) : fX7_joined o v 2 S = some (jo 1 o v, S) := by
  have := pX7_joined o v S 1 (by decide)
  rw [szB1] at this
  exact this
theorem db_tail {k : Nat} (hy : k % 8 < 8) (v12 v13 : Int32) (h : Ok c0 d0 B M) : Hd c0 d0 m0 (bd (fX0_load 1 (wRg (nI (k % 8))) B) fun r3 S5 => (bv (fX0_store 1 (wRg (nI (k % 8))) (r3 - 1) S5) fun S6 => (if r3 - 1 = (-1 : Int32) then (some S6) else (some (sI S6 2 (v12 + v13)))))) (bd (fX7_joined (M.2.2 1 (k % 8)) (M.2.2 1 (k % 8) - 1) 2 M) fun r12 S31 => (if ((M.2.2 1 (k % 8) - 1).toInt16.toInt32) = (-1 : Int32) then (some (true, sI (sA S31 1 (k % 8) r12) 1 ((sA S31 1 (k % 8) r12).1 1))) else (some (true, sI (sA S31 1 (k % 8) r12) 1 (v12 + v13))))) := by
  rw [pX0_load_rg 1 (by decide) _ (show k % 8 < 16 by omega), bd_some, pX0_store_rg 1 (by decide) _ (show k % 8 < 16 by omega), bv_some, h.gD _ hy, pj1, bd_some, jo_c _ _ _ 1 (by decide) (db_v _), sI_self]
  have hO2 := h.sD _ hy (jo 1 (B.2.2 1 (k % 8)) (B.2.2 1 (k % 8) - 1))
  by_cases q : ((B.2.2 1 (k % 8) - 1).toInt16.toInt32) = (-1 : Int32)
  · rw [if_pos q, if_pos (by rw [db_c]; exact q)]
    exact Hd.ok hO2
  · rw [if_neg q, if_neg (by rw [db_c]; exact q)]
    exact Hd.ok (hO2.pc _)
theorem g5_d {k : Nat} (hk : k < 65536) (hs3 : k / 64 % 4 = 3) (an : k % 64 / 8 = 1) (hop : M.1 5 = nI k) (h : Ok c0 d0 B M) (hf : Fr m0 B M) : Hd c0 d0 m0 (fX2_countDown (nI k) B) (fX7_group5 M) := by
  have h6 : k % 64 < 64 := by omega
  have hy : k % 8 < 8 := by omega
  have hc : k / 256 % 16 < 16 := by omega
  have an1 : (nI (k % 64 / 8) = 1) = True := eq_true (by rw [an]; rfl)
  have eB : fX2_countDown (nI k) B = (bd (fX0_nextWord B) fun r1 S1 => (bd (fX4_holds (nI (k / 256 % 16)) S1) fun b1 S2 => (if (zI b1) = 0 then (bd (fX0_load 1 (wRg (nI (k % 8))) S2) fun r3 S5 => (bv (fX0_store 1 (wRg (nI (k % 8))) (r3 - 1) S5) fun S6 => (if r3 - 1 = (-1 : Int32) then (some S6) else (some (sI S6 2 (B.1 2 + r1.toInt16.toInt32)))))) else (some S2)))) := by
    unfold fX2_countDown
    rw [lt_d, u_8 hk]
    refine bd_c (fun r1 S1 => ?_)
    rw [lt_d]
    refine bd_c (fun b1 S2 => ?_)
    by_cases z : zI b1 = 0
    · rw [if_pos z, if_pos z, f_lower hk, bd_some, pX0_inRegister, bd_some]
      refine bd_c (fun r3 S5 => ?_)
      rw [lt_d]
      refine bv_c (fun S6 => ?_)
      rw [lt_d]
    · rw [if_neg z, if_neg z]
  have eM : fX7_group5 M = (bd (fX7_extension M) fun r1 S1 => (bd (fX7_holds (nI (k / 256 % 16)) S1) fun b1 S2 => (if (zI b1) = 0 then (gd (ixo ((S2.1 5) &&& 7) 8 = true) (gd (ixo ((S2.1 5) &&& 7) 8 = true) (bd (fX7_joined (S2.2.2 1 ((S2.1 5) &&& 7).toNatClampNeg) (S2.2.2 1 ((S2.1 5) &&& 7).toNatClampNeg - 1) 2 S2) fun r12 S31 => (gd (ixo ((S2.1 5) &&& 7) 8 = true) (if ((S2.2.2 1 ((S2.1 5) &&& 7).toNatClampNeg - 1).toInt16.toInt32) = (-1 : Int32) then (some (true, sI (sA S31 1 ((S2.1 5) &&& 7).toNatClampNeg r12) 1 ((sA S31 1 ((S2.1 5) &&& 7).toNatClampNeg r12).1 1))) else (some (true, sI (sA S31 1 ((S2.1 5) &&& 7).toNatClampNeg r12) 1 (B.1 2 + r1.toInt16.toInt32)))))))) else (some (true, S2))))) := by
    unfold fX7_group5
    rw [lt_d, lt_d, lt_d, hop, o_6 hk, o_8 hk, o_63 hk, hs3, if_pos (show nI 3 = 3 from rfl), (k6s _ h6).2, an, if_pos (show nI 1 = 1 from rfl), lt_d, h.2.2.1]
    rfl
  rw [eB, eM]
  refine Hd.ex h hf ?_
  intro j hj hO hF
  rw [pX4_holds _ _ hc, bd_some, pX7_holds _ _ hc, bd_some]
  have e5 : (sI M 1 (B.1 2 + 2)).1 5 = nI k := by rw [sI_ne _ _ (by decide)]; exact hop
  have e3 : (sI M 1 (B.1 2 + 2)).1 2 = (sI B 2 (B.1 2 + 2)).1 3 := ok_sr hO
  simp only [e3, e5, o_7 hk]
  cases hh : hs (k / 256 % 16) ((sI B 2 (B.1 2 + 2)).1 3)
  · simp only [zf, if_true, gd_t (ix8 hy), cl8 hy]
    exact db_tail hy _ _ hO
  · simp only [zt, if_false]
    exact Hd.ok hO
theorem g5_s {k : Nat} (hk : k < 65536) (hs3 : k / 64 % 4 = 3) (an : ¬ k % 64 / 8 = 1) (hop : M.1 5 = nI k) (h : Ok c0 d0 B M) (hf : Fr m0 B M) : Hd c0 d0 m0 (fX2_lineFive (nI k) B) (fX7_group5 M) := by
  have h6 : k % 64 < 64 := by omega
  have hy : k % 8 < 8 := by omega
  have hc : k / 256 % 16 < 16 := by omega
  have hft := ft_DALT 0 (by decide) (k % 64) h6
  rw [szB0] at hft
  unfold fX2_lineFive fX7_group5
  simp only [lt, jn, hop, o_6 hk, o_8 hk, u_8 hk, o_63 hk, nI33 hs3, if_true, bd_some, f_sizeBits hk, f_operand hk, pX2_misfits _ _ h6, ft_of hft, (k6s _ h6).1, (k6s _ h6).2, nqL (a := k % 64 / 8) 1 (L := 1) rfl (by omega) (by decide), pX4_holds _ _ hc, pX7_holds _ _ hc, q_bv, an, if_false]
  cases hm : mf 509 (k % 64)
  · simp only [zf, zt, if_true, if_false, Bool.not_false, ft]
    refine Hd.lc3 (e := 0) (DA6 h6 hm) (by decide) h hf ?_
    intro w B1 M1 hO hF hP hS hp h3
    have hsrt : M1.1 12 = 0 ∨ M1.1 12 = 2 := by rw [hS]; exact sort_DA _ h6 hm
    rw [ok_sr hO, h3]
    cases hh : hs (k / 256 % 16) (B.1 3)
    · rw [if_pos zI_f, if_pos zI_f]
      exact Hd.st0 (e := 0) (by decide) hO hF hP hsrt rfl
    · rw [if_neg (show ¬ zI true = 0 by decide), if_neg (show ¬ zI true = 0 by decide)]
      exact Hd.st0 (e := 0) (by decide) hO hF hP hsrt rfl
  · simp only [zt, if_false, Bool.not_true, zf, if_true]
    exact Hd.ill h hf rfl rfl
theorem line5 {k : Nat} (hk : k < 65536) (hop : M.1 5 = nI k) (h : Ok c0 d0 B M) (hf : Fr m0 B M) : Hd c0 d0 m0 (fX2_lineFive (nI k) B) (fX7_group5 M) := by
  by_cases s3 : k / 64 % 4 = 3
  · by_cases an : k % 64 / 8 = 1
    · have := g5_d hk s3 an hop h hf
      unfold fX2_lineFive
      rw [f_sizeBits hk, bd_some, s3, if_pos (show nI 3 = 3 from rfl), f_operand hk, bd_some, (k6s _ (by omega)).1, an, if_pos (show nI 1 = 1 from rfl), q_bv]
      exact this
    · exact g5_s hk s3 an hop h hf
  · have hs : k / 64 % 4 < 3 := by omega
    have := g5_q hk hs hop h hf
    unfold fX2_lineFive
    rw [f_sizeBits hk, bd_some, if_neg (show ¬ nI (k / 64 % 4) = 3 from nI_ne (b := 3) (by omega) (by decide) s3), q_bv]
    exact this
/-! branches -/
theorem br_key {c : Nat} (hc : c < 16) (v1 v3 : Int32) (h : Ok c0 d0 B M) (hf : Fr m0 B M) : Hd c0 d0 m0 (jn (fun (S2 : St) => (if nI c = 1 then (lt (sI S2 2 (v1 + v3)) fun S3 => (some S3))
    else (bd (fX4_holds (nI c) S2) fun b1 S4 => (if (zI b1) = 0 then (some S4)
    else (lt (sI S4 2 (v1 + v3)) fun S5 => (some S5)))))) fun K2 =>
    (if nI c = 1 then (bv (fX0_push 2 (B.1 2) B) fun S6 => (K2 S6))
    else (K2 B))) (jn (fun (S2 : St) => (if nI c < 2 then (lt (sI S2 1 (v1 + v3)) fun S3 => (some (true, S3)))
    else (bd (fX7_holds (nI c) S2) fun b1 S4 => (if (zI b1) = 0 then (some (true, S4))
    else (lt (sI S4 1 (v1 + v3)) fun S5 => (some (true, S5))))))) fun K2 =>
    (if nI c = 1 then (bv (fX7_push (M.1 1) 4 M) fun S6 => (K2 S6))
    else (K2 M))) := by
  simp only [jn, lt, nqL (a := c) 1 (L := 1) rfl (by omega) (by decide), h.2.2.1]
  by_cases c1 : c = 1
  · rw [c1]
    simp (decide := true) only [if_true]
    refine Hd.ps (e := 2) (by decide) h hf ?_ ?_
    · intro B1 M1 hO _ _ _
      exact Hd.ok (hO.pc _)
    · intro B1 M1 hT
      exact Hd.t (hT.pc _ _)
  · simp only [eq_false c1, if_false, pX4_holds _ _ hc, pX7_holds _ _ hc, bd_some, ok_sr h]
    by_cases c0' : c = 0
    · have e0 : ∀ s, hs 0 s = true := fun s => rfl
      rw [c0', e0]
      simp (decide := true) only [zt, if_false, if_true]
      exact Hd.ok (h.pc _)
    · have l2 : ¬ nI c < 2 := by
        have : ∀ c, c < 16 → ¬ c = 0 → ¬ c = 1 → ¬ nI c < 2 := by decide
        exact this c hc c0' c1
      simp only [if_neg l2]
      split
      · exact Hd.ok h
      · exact Hd.ok (h.pc _)
theorem line6 {k : Nat} (hk : k < 65536) (hop : M.1 5 = nI k) (h : Ok c0 d0 B M) (hf : Fr m0 B M) : Hd c0 d0 m0 (fX2_branch (nI k) B) (fX7_group6 M) := by
  have hc : k / 256 % 16 < 16 := by omega
  unfold fX2_branch fX7_group6
  rw [hop, o_8 hk, u_8 hk, h.2.2.1, lt_d, lt_d, lt_d, lt_d, lt_d, jn_d, jn_d]
  by_cases z : (nI k).toInt8.toInt32 = 0
  · rw [if_pos z, if_pos z]
    refine Hd.ex h hf ?_
    intro j hj hO hF
    exact br_key hc _ _ hO hF
  · rw [if_neg z, if_neg z]
    exact br_key hc _ _ h hf
theorem line7 {k : Nat} (hk : k < 65536) (hop : M.1 5 = nI k) (h : Ok c0 d0 B M) (hf : Fr m0 B M) : Hd c0 d0 m0 (fX2_moveQuick (nI k) B) (fX7_group7 M) := by
  have hu : k / 512 % 8 < 8 := by omega
  unfold fX2_moveQuick fX7_group7
  rw [f_isTo hk, bd_some, hop]
  by_cases q : k / 256 % 2 = 0
  · have e5 : ∀ v, (sA M 1 (k / 512 % 8) v).1 5 = nI k := fun _ => hop
    have pl7 : ∀ (v : Int32) (S : St), fX7_logic v 4 S = some (sI S 2 (lgS 2 v (S.1 2))) := fun v S => pX7_lg v S 2 (by decide)
    rw [decide_eq_true q, if_pos (show zI (!true) = 0 from rfl), if_pos ((b8 hk).mpr q), f_upper hk, bd_some, pX1_lg _ _ 2 (by decide), bd_some, pX4_set, bv_some, r4_n _ (by omega), o_9 hk, gd_t (ix8 hu), cl8 hu, lt_d, e5, pl7, bv_some]
    refine Hd.fin rfl rfl (Or.inl ?_)
    have hO := (h.sD _ hu ((nI k).toInt8.toInt32)).fl (lgS_ok 2 ((nI k).toInt8.toInt32) (B.1 3))
    have e0 : M.1 2 = B.1 3 := ok_sr h
    have e1 : (sA M 1 (k / 512 % 8) ((nI k).toInt8.toInt32)).1 2 = B.1 3 := e0
    rw [e1, show szM 2 = -1 from rfl, and_m1]
    exact hO
  · rw [decide_eq_false q, if_neg (show ¬ zI (!false) = 0 by decide), if_neg (fun z => q ((b8 hk).mp z)), pX2_illegal, bv_some]
    exact Hd.ill h hf rfl rfl
end HC
