/-! ===== bytes of every second place ===== -/
theorem bput (v g : Int32) (n : Nat) (hn : n ≤ 24) (hg : ∀ i, 8 ≤ i → bt g i = false) (i : Nat) (hi : i < 32) : bt ((v &&& (((255 : Int32) <<< (nI n &&& 31)) ^^^ (-1 : Int32))) ||| (g <<< (nI n &&& 31))) i = if n ≤ i ∧ i < n + 8 then bt g (i - n) else bt v i := by
  rw [b_or, b_and, b_xor, b_m1 i hi, b_shl n (by omega) _ hi, b_shl n (by omega) _ hi, b_255]
  by_cases q : n ≤ i
  · rw [decide_eq_true q]
    by_cases q2 : i < n + 8
    · rw [if_pos ⟨q, q2⟩, decide_eq_true (by omega)]
      cases bt v i <;> cases bt g (i - n) <;> rfl
    · rw [if_neg (fun z => q2 z.2), decide_eq_false (by omega), hg (i - n) (by omega)]
      cases bt v i <;> rfl
  · rw [if_neg (fun z => q z.1), decide_eq_false q]
    cases bt v i <;> rfl
theorem bsh8 (v g : Int32) (hg : ∀ i, 8 ≤ i → bt g i = false) (i : Nat) (hi : i < 32) : bt ((v <<< ((8 : Int32) &&& 31)) ||| g) i = if i < 8 then bt g i else bt v (i - 8) := by
  rw [b_or, b_shl8 _ hi]
  by_cases q : i < 8
  · rw [if_pos q, decide_eq_false (by omega), Bool.false_and, Bool.false_or]
  · rw [if_neg q, decide_eq_true (by omega), Bool.true_and, hg i (by omega), Bool.or_false]
theorem g255 {g : Int32} (h : g &&& 255 = g) (i : Nat) (hi : 8 ≤ i) : bt g i = false := by
  have := congrArg (fun x => bt x i) h
  simp only [b_and, b_255] at this
  rw [decide_eq_false (by omega), Bool.and_false] at this
  exact this.symm
theorem jo1_b (o v : Int32) (i : Nat) (hi : i < 32) : bt (jo 1 o v) i = if i < 16 then bt v i else bt o i := by
  have h1 : ∀ i, i < 32 → bt (-65536) i = decide (16 ≤ i) := by decide +kernel
  have e : jo 1 o v = (o &&& (-65536 : Int32)) ||| (v &&& 65535) := rfl
  rw [e, b_or, b_and, b_and, h1 i hi, b_65535]
  by_cases q : i < 16
  · rw [if_pos q, decide_eq_false (by omega), decide_eq_true q, Bool.and_false, Bool.and_true, Bool.false_or]
  · rw [if_neg q, decide_eq_true (by omega), decide_eq_false q, Bool.and_false, Bool.and_true, Bool.or_false]
def pt (n : Nat) (v g : Int32) : Int32 := (v &&& (((255 : Int32) <<< (nI n &&& 31)) ^^^ (-1 : Int32))) ||| (g <<< (nI n &&& 31))
def pu (v g : Int32) : Int32 := (v <<< ((8 : Int32) &&& 31)) ||| g
theorem mp_1 (d g0 g1 : Int32) (h0 : g0 &&& 255 = g0) (h1 : g1 &&& 255 = g1) : pt 0 (pt 8 d g0) g1 = jo 1 d (pu (pu 0 g0) g1) := by
  apply b_ext
  intro i hi
  unfold pt pu
  rw [bput _ _ 0 (by omega) (g255 h1) i hi, jo1_b _ _ i hi, bsh8 _ _ (g255 h1) i hi]
  by_cases q : i < 8
  · rw [if_pos (by omega), if_pos (by omega), if_pos q, Nat.sub_zero]
  · rw [if_neg (by omega), bput _ _ 8 (by omega) (g255 h0) i hi]
    by_cases q2 : i < 16
    · rw [if_pos (by omega), if_pos q2, if_neg q, bsh8 _ _ (g255 h0) (i - 8) (by omega), if_pos (by omega)]
    · rw [if_neg (by omega), if_neg q2]
theorem mp_2 (d g0 g1 g2 g3 : Int32) (h0 : g0 &&& 255 = g0) (h1 : g1 &&& 255 = g1) (h2 : g2 &&& 255 = g2) (h3 : g3 &&& 255 = g3) : pt 0 (pt 8 (pt 16 (pt 24 d g0) g1) g2) g3 = jo 2 d (pu (pu (pu (pu 0 g0) g1) g2) g3) := by
  have e : ∀ x, jo 2 d x = x := fun _ => rfl
  rw [e]
  apply b_ext
  intro i hi
  unfold pt pu
  rw [bput _ _ 0 (by omega) (g255 h3) i hi, bsh8 _ _ (g255 h3) i hi]
  by_cases q : i < 8
  · rw [if_pos (by omega), if_pos q, Nat.sub_zero]
  · rw [if_neg (by omega), if_neg q, bput _ _ 8 (by omega) (g255 h2) i hi, bsh8 _ _ (g255 h2) (i - 8) (by omega)]
    by_cases q2 : i < 16
    · rw [if_pos (by omega), if_pos (by omega)]
    · rw [if_neg (by omega), if_neg (by omega), bput _ _ 16 (by omega) (g255 h1) i hi, bsh8 _ _ (g255 h1) (i - 8 - 8) (by omega)]
      by_cases q3 : i < 24
      · rw [if_pos (by omega), if_pos (by omega)]
        congr 1
      · rw [if_neg (by omega), if_neg (by omega), bput _ _ 24 (by omega) (g255 h0) i hi, bsh8 _ _ (g255 h0) (i - 8 - 8 - 8) (by omega), if_pos (by omega), if_pos (by omega)]
        congr 1
theorem sA_self (S : St) (k j : Nat) : sA S k j (S.2.2 k j) = S := by
  rw [sA_R]
  have : upd (S.2.2 k) j (S.2.2 k j) = S.2.2 k := by
    funext x
    by_cases hx : x = j
    · rw [hx]; exact pk_us
    · exact pk_un hx
  rw [this]
  exact sR_self S k
theorem b7 {k : Nat} (hk : k < 65536) : nI k &&& 128 = 0 ↔ k / 128 % 2 = 0 := bitk k hk 7 128 (by decide) (by decide +kernel)
theorem byte_us (d : Int32) (n : Nat) (hn : n ≤ 24) : ((ush d (nI n)) >>> (nI 0 &&& 31)) &&& 255 = (d >>> (nI n &&& 31)) &&& 255 := by
  apply b_ext
  intro i hi
  rw [b_and, b_and, b_255]
  by_cases q : i < 8
  · rw [decide_eq_true q, Bool.and_true, Bool.and_true, b_sshr 0 (by omega) _ hi, b_sshr n (by omega) _ hi, if_pos (by omega), if_pos (by omega)]
    have := b_ushr n (by omega) d (0 + i)
    rw [Nat.zero_add] at this ⊢
    exact this
  · rw [decide_eq_false q, Bool.and_false, Bool.and_false]
section HJ
variable {c0 : CB} {d0 : CM} {m0 : Nat → Int32} {B M : St}
theorem od0 (a : Int32) : od 0 a = false := by unfold od; rfl
/-- one byte out -/
theorem mp_st {k e i n r f : Nat} (hk : k < 65536) (hb : ¬ k / 128 % 2 = 0) (he : e < 3) (hr : r < 8) (hi : ¬ szB e ≤ nI i) (hn : 8 * ((szB e - 1) - nI i) = nI n) (hn2 : n ≤ 24) (v1 : Int32) (h : Ok c0 d0 B M) :
    ∃ B' M', fX2_movePeripheral_l1 e (nI r) v1 (nI k) (f + 1) (nI i) (B.2.2 1 r) B = fX2_movePeripheral_l1 e (nI r) v1 (nI k) f (nI i + 1) (B'.2.2 1 r) B' ∧ fX7_movePeripheral_l1 (szB e) v1 (nI r) (f + 1) (nI i) M = fX7_movePeripheral_l1 (szB e) v1 (nI r) f (nI i + 1) M' ∧ Ok c0 d0 B' M' := by
  obtain ⟨M', a1, a2, a3⟩ := pX7_setByte (v1 + (2 * nI i)) ((M.2.2 1 r) >>> (nI n &&& 31)) M h.2.2.2.2.2.2.2.2.2.2.2.1
  have hO := h.mem (v1 + (2 * nI i)) (ush (B.2.2 1 r) (nI n)) 0 (by decide) a2 (by
    rw [a3, h.gD _ hr]
    show _ = upd (M.2.2 0) (a12 (v1 + 2 * nI i + 0)) _
    rw [byte_us _ n hn2, Int32.add_zero])
  refine ⟨_, M', ?_, ?_, hO⟩
  · show fX2_movePeripheral_b1 e (nI r) v1 (nI k) (fX2_movePeripheral_l1 e (nI r) v1 (nI k) f) (nI i) (B.2.2 1 r) B = _
    unfold fX2_movePeripheral_b1
    rw [if_neg hi, lt_d, hn, jn_d, if_neg (fun z => hb ((b7 hk).mp z)), pX0_storeAt0 _ _ _ h.2.2.2.2.2.1 0 (by decide), bv_some, od0, if_neg (show ¬ (false = true) by decide)]
    rfl
  · show fX7_movePeripheral_b1 (szB e) v1 (nI r) (fX7_movePeripheral_l1 (szB e) v1 (nI r) f) (nI i) M = _
    unfold fX7_movePeripheral_b1
    rw [if_neg hi, gd_t (ix8 hr), cl8 hr, hn, a1, bv_some, lt_d]
theorem mp_se {k e i r f : Nat} (hr : r < 8) (hi : szB e ≤ nI i) (v1 : Int32) (h : Ok c0 d0 B M) : Hd c0 d0 m0 (fX2_movePeripheral_l1 e (nI r) v1 (nI k) (f + 1) (nI i) (B.2.2 1 r) B) (fX7_movePeripheral_l1 (szB e) v1 (nI r) (f + 1) (nI i) M) := by
  show Hd c0 d0 m0 (fX2_movePeripheral_b1 e (nI r) v1 (nI k) (fX2_movePeripheral_l1 e (nI r) v1 (nI k) f) (nI i) (B.2.2 1 r) B) (fX7_movePeripheral_b1 (szB e) v1 (nI r) (fX7_movePeripheral_l1 (szB e) v1 (nI r) f) (nI i) M)
  unfold fX2_movePeripheral_b1 fX7_movePeripheral_b1
  rw [if_pos hi, if_pos hi, pX4_set, bv_some, k7 _ hr, sA_self]
  exact Hd.ok h
/-- one byte in -/
theorem byt (h : Ok c0 d0 B M) (a : Int32) : fX7_byteAt a M = some (B.2.2 0 (a12 a) &&& 255, M) := by
  unfold fX7_byteAt
  rw [gd_t (ixo_12 a)]
  have e : (a &&& 4095).toNatClampNeg = a12 a := rfl
  rw [e, h.1 _ (a12_lt a)]
theorem ldb0 (c : Nat → Int32) (a : Int32) : ldB c a 0 = c (a12 a) &&& 255 := by
  have e : ldB c a 0 = ((0 : Int32) <<< ((8 : Int32) &&& 31)) ||| (c (a12 (a + 0)) &&& 255) := rfl
  rw [e, or_l0, Int32.add_zero]
theorem mp_ld {k e i n r f : Nat} (hk : k < 65536) (hb : k / 128 % 2 = 0) (hi : ¬ szB e ≤ nI i) (hn : 8 * ((szB e - 1) - nI i) = nI n) (v1 x y : Int32) (h : Ok c0 d0 B M) :
    fX2_movePeripheral_l1 e (nI r) v1 (nI k) (f + 1) (nI i) x B = fX2_movePeripheral_l1 e (nI r) v1 (nI k) f (nI i + 1) (pt n x (B.2.2 0 (a12 (v1 + 2 * nI i)) &&& 255)) B ∧ fX7_movePeripheral_l2 (szB e) v1 (nI r) (f + 1) (nI i) y M = fX7_movePeripheral_l2 (szB e) v1 (nI r) f (nI i + 1) (pu y (B.2.2 0 (a12 (v1 + 2 * nI i)) &&& 255)) M := by
  constructor
  · show fX2_movePeripheral_b1 e (nI r) v1 (nI k) (fX2_movePeripheral_l1 e (nI r) v1 (nI k) f) (nI i) x B = _
    unfold fX2_movePeripheral_b1
    rw [if_neg hi, lt_d, hn, jn_d, if_pos ((b7 hk).mpr hb), pX0_loadAt0 _ _ h.2.2.2.2.2.1 0 (by decide), bd_some, od0, if_neg (show ¬ (false = true) by decide), if_neg (show ¬ (false = true) by decide), lt_d, ldb0]
    rfl
  · show fX7_movePeripheral_b2 (szB e) v1 (nI r) (fX7_movePeripheral_l2 (szB e) v1 (nI r) f) (nI i) y M = _
    unfold fX7_movePeripheral_b2
    rw [if_neg hi, byt h, bd_some, lt_d, lt_d]
    rfl
theorem mp_le {k e i r f : Nat} (he : e < 3) (hr : r < 8) (hi : szB e ≤ nI i) (v1 x y : Int32) (h : Ok c0 d0 B M) (hxy : x = jo e (B.2.2 1 r) y) : Hd c0 d0 m0 (fX2_movePeripheral_l1 e (nI r) v1 (nI k) (f + 1) (nI i) x B) (fX7_movePeripheral_l2 (szB e) v1 (nI r) (f + 1) (nI i) y M) := by
  show Hd c0 d0 m0 (fX2_movePeripheral_b1 e (nI r) v1 (nI k) (fX2_movePeripheral_l1 e (nI r) v1 (nI k) f) (nI i) x B) (fX7_movePeripheral_b2 (szB e) v1 (nI r) (fX7_movePeripheral_l2 (szB e) v1 (nI r) f) (nI i) y M)
  unfold fX2_movePeripheral_b1 fX7_movePeripheral_b2
  rw [if_pos hi, if_pos hi, pX4_set, bv_some, k7 _ hr, gd_t (ix8 hr), pX7_joined _ _ _ _ he, bd_some, gd_t (ix8 hr), lt_d, cl8 hr, h.gD _ hr, hxy]
  exact Hd.ok (h.sD _ hr _)
theorem ad_n (i : Nat) (hi : i < 4) : nI i + 1 = nI (i + 1) := by
  have : ∀ i, i < 4 → nI i + 1 = nI (i + 1) := by decide
  exact this i hi
theorem mvp {k : Nat} (hk : k < 65536) (hop : M.1 5 = nI k) (h : Ok c0 d0 B M) (hf : Fr m0 B M) : Hd c0 d0 m0 (fX2_movePeripheral (nI k) B) (fX7_movePeripheral M) := by
  have hy : k % 8 < 8 := by omega
  have hu : k / 512 % 8 < 8 := by omega
  unfold fX2_movePeripheral fX7_movePeripheral
  rw [lt_d, lt_d, hop, o_6 hk, o_9 hk, o_7 hk, h.gA _ hy, bd_some, f_lower hk, bd_some, pX4_get, bd_some, r4_8 _ hy]
  refine Hd.ex h hf ?_
  intro j hj hO hF
  have eB : ∀ v, (sI B 2 v).2.2 = B.2.2 := fun _ => rfl
  rw [lt_d, lt_d, f_upper hk, bd_some, jn_d, jn_d]
  have tl : ∀ e, (e = 1 ∧ k / 64 % 2 = 0) ∨ (e = 2 ∧ k / 64 % 2 = 1) → Hd c0 d0 m0 (gd (e < 3) (bd (fX4_get (nI (k / 512 % 8)) (sI B 2 (B.1 2 + 2))) fun r5 S5 => (fX2_movePeripheral_l1 e (nI (k / 512 % 8)) (B.2.2 1 (8 + k % 8) + ((nI j).toInt16.toInt32)) (nI k) 5 0 r5 S5))) (if 2 ≤ nI (k / 64 % 4) then (fX7_movePeripheral_l1 (szB e) (B.2.2 1 (8 + k % 8) + ((nI j).toInt16.toInt32)) (nI (k / 512 % 8)) 5 0 (sI M 1 (B.1 2 + 2)))
    else (fX7_movePeripheral_l2 (szB e) (B.2.2 1 (8 + k % 8) + ((nI j).toInt16.toInt32)) (nI (k / 512 % 8)) 5 0 0 (sI M 1 (B.1 2 + 2)))) := by
    intro e he
    have he3 : e < 3 := by omega
    rw [gd_t he3, pX4_get, bd_some, k7 _ hu]
    generalize B.2.2 1 (8 + k % 8) + ((nI j).toInt16.toInt32) = v1
    generalize sI B 2 (B.1 2 + 2) = B1 at hO ⊢
    generalize sI M 1 (B.1 2 + 2) = M1 at hO ⊢
    by_cases q : k / 128 % 2 = 0
    · rw [if_neg (show ¬ 2 ≤ nI (k / 64 % 4) by rw [le2 _ (by omega)]; omega)]
      rcases he with ⟨rfl, q6⟩ | ⟨rfl, q6⟩
      · obtain ⟨a1, a2⟩ := mp_ld (e := 1) (i := 0) (n := 8) (r := k / 512 % 8) (f := 4) hk q (by decide) (by decide) v1 (B1.2.2 1 (k / 512 % 8)) 0 hO
        have a1' : fX2_movePeripheral_l1 1 (nI (k / 512 % 8)) v1 (nI k) 5 0 (B1.2.2 1 (k / 512 % 8)) B1 = _ := a1
        have a2' : fX7_movePeripheral_l2 (szB 1) v1 (nI (k / 512 % 8)) 5 0 0 M1 = _ := a2
        obtain ⟨b1, b2⟩ := mp_ld (e := 1) (i := 1) (n := 0) (r := k / 512 % 8) (f := 3) hk q (by decide) (by decide) v1 (pt 8 (B1.2.2 1 (k / 512 % 8)) (B1.2.2 0 (a12 (v1 + 2 * nI 0)) &&& 255)) (pu 0 (B1.2.2 0 (a12 (v1 + 2 * nI 0)) &&& 255)) hO
        rw [a1', a2', ad_n 0 (by decide), b1, b2, ad_n 1 (by decide)]
        exact mp_le (e := 1) (f := 2) (by decide) hu (by decide) v1 _ _ hO (mp_1 _ _ _ (byte_m _) (byte_m _))
      · obtain ⟨a1, a2⟩ := mp_ld (e := 2) (i := 0) (n := 24) (r := k / 512 % 8) (f := 4) hk q (by decide) (by decide) v1 (B1.2.2 1 (k / 512 % 8)) 0 hO
        have a1' : fX2_movePeripheral_l1 2 (nI (k / 512 % 8)) v1 (nI k) 5 0 (B1.2.2 1 (k / 512 % 8)) B1 = _ := a1
        have a2' : fX7_movePeripheral_l2 (szB 2) v1 (nI (k / 512 % 8)) 5 0 0 M1 = _ := a2
        rw [a1', a2', ad_n 0 (by decide), (mp_ld (e := 2) (i := 1) (n := 16) (r := k / 512 % 8) (f := 3) hk q (by decide) (by decide) v1 _ 0 hO).1, (mp_ld (e := 2) (i := 1) (n := 16) (r := k / 512 % 8) (f := 3) hk q (by decide) (by decide) v1 0 _ hO).2, ad_n 1 (by decide), (mp_ld (e := 2) (i := 2) (n := 8) (r := k / 512 % 8) (f := 2) hk q (by decide) (by decide) v1 _ 0 hO).1, (mp_ld (e := 2) (i := 2) (n := 8) (r := k / 512 % 8) (f := 2) hk q (by decide) (by decide) v1 0 _ hO).2, ad_n 2 (by decide), (mp_ld (e := 2) (i := 3) (n := 0) (r := k / 512 % 8) (f := 1) hk q (by decide) (by decide) v1 _ 0 hO).1, (mp_ld (e := 2) (i := 3) (n := 0) (r := k / 512 % 8) (f := 1) hk q (by decide) (by decide) v1 0 _ hO).2, ad_n 3 (by decide)]
        exact mp_le (e := 2) (f := 0) (by decide) hu (by decide) v1 _ _ hO (mp_2 _ _ _ _ _ (byte_m _) (byte_m _) (byte_m _) (byte_m _))
    · rw [if_pos (show 2 ≤ nI (k / 64 % 4) by rw [le2 _ (by omega)]; omega)]
      rcases he with ⟨rfl, q6⟩ | ⟨rfl, q6⟩
      · obtain ⟨B2, M2, a1, a2, h2⟩ := mp_st (e := 1) (i := 0) (n := 8) (f := 4) hk q (by decide) hu (by decide) (by decide) (by decide) v1 hO
        have a1' : fX2_movePeripheral_l1 1 (nI (k / 512 % 8)) v1 (nI k) 5 0 (B1.2.2 1 (k / 512 % 8)) B1 = _ := a1
        have a2' : fX7_movePeripheral_l1 (szB 1) v1 (nI (k / 512 % 8)) 5 0 M1 = _ := a2
        obtain ⟨B3, M3, b1, b2, h3⟩ := mp_st (e := 1) (i := 1) (n := 0) (f := 3) hk q (by decide) hu (by decide) (by decide) (by decide) v1 h2
        rw [a1', a2', ad_n 0 (by decide), b1, b2, ad_n 1 (by decide)]
        exact mp_se (e := 1) (f := 2) hu (by decide) v1 h3
      · obtain ⟨B2, M2, a1, a2, h2⟩ := mp_st (e := 2) (i := 0) (n := 24) (f := 4) hk q (by decide) hu (by decide) (by decide) (by decide) v1 hO
        have a1' : fX2_movePeripheral_l1 2 (nI (k / 512 % 8)) v1 (nI k) 5 0 (B1.2.2 1 (k / 512 % 8)) B1 = _ := a1
        have a2' : fX7_movePeripheral_l1 (szB 2) v1 (nI (k / 512 % 8)) 5 0 M1 = _ := a2
        obtain ⟨B3, M3, b1, b2, h3⟩ := mp_st (e := 2) (i := 1) (n := 16) (f := 3) hk q (by decide) hu (by decide) (by decide) (by decide) v1 h2
        obtain ⟨B4, M4, c1, c2, h4⟩ := mp_st (e := 2) (i := 2) (n := 8) (f := 2) hk q (by decide) hu (by decide) (by decide) (by decide) v1 h3
        obtain ⟨B5, M5, e1, e2, h5⟩ := mp_st (e := 2) (i := 3) (n := 0) (f := 1) hk q (by decide) hu (by decide) (by decide) (by decide) v1 h4
        rw [a1', a2', ad_n 0 (by decide), b1, b2, ad_n 1 (by decide), c1, c2, ad_n 2 (by decide), e1, e2, ad_n 3 (by decide)]
        exact mp_se (e := 2) (f := 0) hu (by decide) v1 h5
  have o1 : nI (k / 64 % 4) &&& 1 = nI (k / 64 % 2) := by
    have : ∀ s, s < 4 → nI s &&& 1 = nI (s % 2) := by decide
    rw [this _ (by omega)]
    congr 1
    omega
  rw [o1]
  by_cases q6 : k / 64 % 2 = 0
  · rw [if_pos ((b6 hk).mpr q6), q6, if_neg (show ¬ nI 0 = 1 by decide)]
    exact tl 1 (Or.inl ⟨rfl, q6⟩)
  · rw [if_neg (fun z => q6 ((b6 hk).mp z)), show k / 64 % 2 = 1 by omega, if_pos (show nI 1 = 1 from rfl)]
    exact tl 2 (Or.inr ⟨rfl, by omega⟩)
end HJ
