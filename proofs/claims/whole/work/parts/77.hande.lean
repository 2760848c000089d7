/-! ===== SR as an operand ===== -/
theorem fb_b : ∀ i, i < 32 → ∀ x y : Bool, ((x && bt 42783 i) && bt (-32) i || y && bt 31 i) = ((((x && bt 42783 i) && bt (-256) i) || (y && bt 255 i)) && bt 42783 i) ∧ ((x && bt 42783 i) && bt (-32) i || y && bt 31 i) = (((x && bt 42783 i) && bt (-256) i) || (y && bt 31 i)) := by decide +kernel
theorem sr_bt {s : Int32} (h : srOK s) (i : Nat) : bt s i = (bt s i && bt 42783 i) := by
  have := congrArg (fun x => bt x i) h
  simp only [b_and] at this
  exact this.symm
theorem fb_1 {s : Int32} (h : srOK s) (v : Int32) : (s &&& (-32 : Int32)) ||| (v &&& 31) = ((s &&& (-256 : Int32)) ||| (v &&& 255)) &&& 42783 := by
  apply b_ext
  intro i hi
  rw [b_or, b_and, b_and, b_and, b_or, b_and, b_and, sr_bt h i]
  exact (fb_b i hi (bt s i) (bt v i)).1
theorem fb_2 {s : Int32} (h : srOK s) (v : Int32) : (s &&& (-32 : Int32)) ||| (v &&& 31) = (s &&& (-256 : Int32)) ||| (v &&& 31) := by
  apply b_ext
  intro i hi
  rw [b_or, b_and, b_and, b_or, b_and, b_and, sr_bt h i]
  exact (fb_b i hi (bt s i) (bt v i)).2
theorem fb_k : ∀ i, i < 32 → ∀ x y : Bool, (((x && bt (-32) i) || (y && bt 31 i)) && bt 8192 i) = (x && bt 8192 i) ∧ (((x && bt 42783 i) && bt (-32) i || y && bt 31 i) && bt 42783 i) = ((x && bt 42783 i) && bt (-32) i || y && bt 31 i) := by decide +kernel
theorem fb_ok (s v : Int32) : fOK s ((s &&& (-32 : Int32)) ||| (v &&& 31)) := by
  constructor
  · apply b_ext
    intro i hi
    rw [b_and, b_or, b_and, b_and, b_and]
    exact (fb_k i hi (bt s i) (bt v i)).1
  · intro h
    show _ &&& 42783 = _
    apply b_ext
    intro i hi
    rw [b_and, b_or, b_and, b_and, sr_bt h i]
    exact (fb_k i hi (bt s i) (bt v i)).2
section HE
variable {c0 : CB} {d0 : CM} {m0 m : Nat → Int32} {B M : St} {n o : Int32} {c : CB}
theorem TB.sw_ (h : TB c m n o B) (v : Int32) : TB c m n o (swp v B) := by
  unfold swp
  split
  · exact h
  · exact h
theorem Tr.stB (h : Tr c0 d0 m0 B M) (v s : Int32) : Tr c0 d0 m0 (sI (swp v B) 3 s) M := by
  obtain ⟨nn, o, m1, hn, hm, hB, hM⟩ := h
  exact ⟨nn, o, m1, hn, hm, (hB.sw_ v).sr s, hM⟩
theorem pX7_putSr0 (v : Int32) (h : M.1 6 = 0) : fX7_putSr v M = some (sI M 2 (v &&& 42783)) := by
  unfold fX7_putSr
  rw [if_pos h, lt_d]
theorem pX7_putSr1 (v : Int32) (h : ¬ M.1 6 = 0) : fX7_putSr v M = some M := by
  unfold fX7_putSr
  rw [if_neg h]
/-- the low byte of SR -/
theorem Ok.byte (h : Ok c0 d0 B M) (v : Int32) : Ok c0 d0 (sI B 3 ((B.1 3 &&& (-32 : Int32)) ||| (v &&& 31))) (sI M 2 (((M.1 2 &&& (-256 : Int32)) ||| (v &&& 255)) &&& 42783)) := by
  rw [ok_sr h, ← fb_1 h.2.2.2.2.1]
  exact h.fl (fb_ok _ _)
theorem mfs {k : Nat} (hk : k < 65536) (hop : M.1 5 = nI k) (h : Ok c0 d0 B M) (hf : Fr m0 B M) : Hd c0 d0 m0 (fX2_moveFromStatus (nI k) B) (fX7_statusMove 0 M) := by
  have h6 : k % 64 < 64 := by omega
  have hft := ft_DALT 1 (by decide) (k % 64) h6
  rw [szB1] at hft
  unfold fX2_moveFromStatus fX7_statusMove
  rw [lt_d, hop, o_63 hk, jn_d, if_pos rfl, f_operand hk, bd_some, pX2_misfits _ _ h6, bd_some]
  dsimp only
  rw [ft_of hft, bd_some]
  cases hm : mf 509 (k % 64)
  · rw [if_pos zI_f, if_neg (show ¬ zI (!false) = 0 by decide), if_neg (show ¬ (false = true) by decide), if_neg (by decide), if_neg (by decide), f_operand hk, bd_some]
    refine Hd.lc (e := 1) (DA6 h6 hm) (by decide) h hf ?_
    intro w B1 M1 hO hF hP hS hp
    rw [if_pos rfl, q_bv, ok_sr hO]
    exact Hd.st0 (e := 1) (by decide) hO hF hP (by rw [hS]; exact sort_DA _ h6 hm) rfl
  · rw [if_neg (show ¬ zI true = 0 by decide), if_pos (show zI (!true) = 0 from rfl), if_pos rfl]
    exact Hd.ill h hf rfl rfl
theorem b9 {k : Nat} (hk : k < 65536) : nI k &&& 512 = 0 ↔ k / 512 % 2 = 0 := bitk k hk 9 512 (by decide) (by decide +kernel)
theorem mt4 {k : Nat} (hk : k < 65536) (q : k / 512 % 2 = 0) (hop : M.1 5 = nI k) (h : Ok c0 d0 B M) (hf : Fr m0 B M) : Hd c0 d0 m0 (fX2_moveToStatus (nI k) B) (fX7_statusMove 4 M) := by
  have h6 : k % 64 < 64 := by omega
  have hft := ft_DATA 1 (by decide) (k % 64) h6
  rw [szB1] at hft
  unfold fX2_moveToStatus fX7_statusMove
  rw [lt_d, hop, o_63 hk, jn_d, jn_d, if_pos ((b9 hk).mpr q), if_neg (by decide)]
  dsimp only
  rw [ft_of hft, bd_some, f_operand hk, bd_some, pX2_misfits _ _ h6, bd_some]
  cases hm : mf 4093 (k % 64)
  · rw [if_pos zI_f, if_pos zI_f, if_neg (show ¬ zI (!false) = 0 by decide), if_neg (show ¬ (false = true) by decide), if_neg (by decide), if_neg (by decide), f_operand hk, bd_some]
    simp only [if_neg (show ¬ (4 : Int32) = 0 by decide)]
    refine Hd.rd (e := 1) (DT6 h6 hm) (by decide) h hf ?_ ?_
    · intro w r B1 M1 hO hF hP hS hp hr
      rw [if_pos zI_f, pX4_setFlags, bv_some, jn_d, if_pos trivial]
      dsimp only
      rw [pX7_putSr0 _ hO.2.2.2.2.2.2.2.1, bv_some]
      exact Hd.ok (hO.byte r)
    · intro w B1 M1 hT hp
      rw [if_pos zI_f, pX4_setFlags, bv_some, jn_d, if_pos trivial]
      dsimp only
      rw [pX7_putSr1 _ hT.ne, bv_some]
      exact Hd.t (hT.sB _)
  · rw [if_neg (show ¬ zI true = 0 by decide), if_pos (show zI (!true) = 0 from rfl), if_pos rfl]
    exact Hd.ill h hf rfl rfl
theorem mt6 {k : Nat} (hk : k < 65536) (q : ¬ k / 512 % 2 = 0) (hop : M.1 5 = nI k) (h : Ok c0 d0 B M) (hf : Fr m0 B M) : Hd c0 d0 m0 (fX2_moveToStatus (nI k) B) (fX7_statusMove 6 M) := by
  have h6 : k % 64 < 64 := by omega
  have hft := ft_DATA 1 (by decide) (k % 64) h6
  rw [szB1] at hft
  unfold fX2_moveToStatus fX7_statusMove
  rw [lt_d, hop, o_63 hk, jn_d, jn_d, if_neg (fun z => q ((b9 hk).mp z)), if_neg (by decide)]
  dsimp only
  rw [ft_of hft, bd_some, f_operand hk, bd_some, pX2_misfits _ _ h6, bd_some]
  cases hm : mf 4093 (k % 64)
  · rw [if_pos zI_f, if_neg (show ¬ zI true = 0 by decide), if_neg (show ¬ zI (!false) = 0 by decide), if_neg (show ¬ (false = true) by decide), if_neg (by decide), if_pos rfl]
    refine Hd.pm h hf ?_ ?_
    · intro hS
      rw [if_neg (show ¬ zI true = 0 by decide), if_pos zI_f, f_operand hk, bd_some]
      simp only [if_neg (show ¬ (6 : Int32) = 0 by decide)]
      refine Hd.rd (e := 1) (DT6 h6 hm) (by decide) h hf ?_ ?_
      · intro w r B1 M1 hO hF hP hS hp hr
        rw [if_neg (show ¬ zI true = 0 by decide), pX4_setStatus, bv_some, jn_d, if_neg (by decide)]
        dsimp only
        rw [pX7_putSr0 _ hO.2.2.2.2.2.2.2.1, bv_some]
        exact Hd.ok (hO.status r)
      · intro w B1 M1 hT hp
        rw [if_neg (show ¬ zI true = 0 by decide), pX4_setStatus, bv_some, jn_d, if_neg (by decide)]
        dsimp only
        rw [pX7_putSr1 _ hT.ne, bv_some]
        exact Hd.t (hT.stB _ _)
    · intro B1 M1 hT
      rw [if_pos zI_f, if_neg (show ¬ zI true = 0 by decide)]
      exact Hd.t hT
  · rw [if_neg (show ¬ zI true = 0 by decide), if_pos (show zI (!true) = 0 from rfl), if_pos rfl]
    exact Hd.ill h hf rfl rfl
/-! or, and, exclusive or to SR -/
def stV (how a b : Int32) : Int32 := if how = 0 then a ||| b else if how = 1 then a &&& b else a ^^^ b
theorem stV_l {how how' : Int32} (h : hwR how how') (a b : Int32) : stV how a b = logF how' a b := by
  rcases h with ⟨rfl, rfl⟩ | ⟨rfl, rfl⟩ | ⟨rfl, rfl⟩
  · rfl
  · rfl
  · rfl
theorem st3 {α : Type} (how a b : Int32) (K : Int32 → α) : (if how = 0 then K (a ||| b) else (if how = 1 then K (a &&& b) else K (a ^^^ b))) = K (stV how a b) := by
  unfold stV
  by_cases h0 : how = 0
  · rw [if_pos h0, if_pos h0]
  · rw [if_neg h0, if_neg h0]
    by_cases h1 : how = 1
    · rw [if_pos h1, if_pos h1]
    · rw [if_neg h1, if_neg h1]
theorem st3j {α : Type} (how a b : Int32) (K : Int32 → α) : (jn K fun K1 => (if how = 0 then K1 (a ||| b) else (if how = 1 then K1 (a &&& b) else K1 (a ^^^ b)))) = K (stV how a b) := st3 how a b K
theorem jst {k : Nat} (hk : k < 65536) (hs : k / 64 % 4 < 2) (hop : M.1 5 = nI k) (h : Ok c0 d0 B M) (hf : Fr m0 B M) {how how' : Int32} (hw : hwR how how') (z : Bool) (hz : z = decide (k / 64 % 4 = 1)) : Hd c0 d0 m0 (fX2_joinStatus how z B) (fX7_toFlags how' M) := by
  unfold fX2_joinStatus fX7_toFlags
  rw [jn_d, hop]
  by_cases s1 : k / 64 % 4 = 1
  · rw [hz, decide_eq_true s1, if_neg (show ¬ zI true = 0 by decide), if_neg (fun q => absurd ((b6 hk).mp q) (by omega))]
    dsimp only
    rw [if_neg (show ¬ zI true = 0 by decide)]
    refine Hd.pm h hf ?_ ?_
    · intro hS
      rw [if_neg (show ¬ zI true = 0 by decide), if_pos zI_f]
      refine Hd.ex h hf ?_
      intro j hj hO hF
      rw [if_neg (show ¬ zI true = 0 by decide), lt_d, st3j]
      rw [if_neg (show ¬ zI true = 0 by decide), pX4_setStatus, bv_some, pX7_mixed, bd_some, pX7_putSr0 _ hO.2.2.2.2.2.2.2.1, bv_some, ok_sr hO, stV_l hw]
      exact Hd.ok (hO.status _)
    · intro B1 M1 hT
      rw [if_pos zI_f, if_neg (show ¬ zI true = 0 by decide)]
      exact Hd.t hT
  · rw [hz, decide_eq_false s1, if_pos zI_f, if_pos ((b6 hk).mpr (by omega))]
    dsimp only
    rw [if_pos zI_f]
    refine Hd.ex h hf ?_
    intro j hj hO hF
    rw [if_pos zI_f, lt_d, st3j]
    rw [if_pos zI_f, pX4_setFlags, bv_some, pX7_mixed, bd_some, pX7_putSr0 _ hO.2.2.2.2.2.2.2.1, bv_some, stV_l hw]
    have := hO.byte (logF how' ((sI M 1 (B.1 2 + 2)).1 2) (nI j))
    rw [ok_sr hO] at this ⊢
    exact Hd.ok this
end HE
