/-! THE CLAIM OUT OF ONE WALK OF THE LAW'S BODY. Your part is whole_start (and what it stands on); all else here is the same for every law, but numbers. -/
def R_law : String := "BoardCoreLaw"
def lw_P (b : Addr) (xs : List Int32) (args : Array Value) (s : State) : Prop := args = #[.ref b] ∧ s.IntsAt b xs ∧ xs.length ≤ 2048 ∧ (Jvm.Cond.and given_1 narrow_1).before args s = true
def lw_Q (_ : Array Value) (s : State) (o : Outcome) (t : State) : Prop := o = .returned (some (.int 1)) ∧ Framed s o t [] 1053 17474
def lw_Z (below : List Frame) (a : Array Value) (s : State) : State → Prop := fun t => ∃ o, t.status = .running ∧ Ended t below o ∧ lw_Q a s o t
/-- the law's own end, with 1 on the stack, nothing written that was there before, its room as the claim has it -/
theorem lw_ret {p : Program} {l : Launch} {e : Env} {s : State} {m : MethodId} {below : List Frame} {meth : Method} {c : Code} {b : Nat} (hx : p.tables.exec = Jvm.exec) (hb : c.code = code) (hr : meth.sig.returnType = ret) (hlocks : meth.locks = false) {pc : Nat} {H : Heap} {ls : Array Slot} (hdg : decode code pc = .ok (.ireturn, 1)) : W p l e room_1 s m #[Value.ref b] below meth c H [] 1053 17474 (lw_Z below #[Value.ref b] s) (F0 m pc ls [.int 1]) := by
  intro T hT X
  obtain ⟨fs, hret, hrun, hended, hW, hframe⟩ := X.leave (v := some (.int 1)) (hlocks := hlocks) (fun h => by rw [hr] at h; cases h)
  have hmeth' : T.vm.method? m = some meth := X.method'
  refine ⟨T.setFrames fs, ?_, .returned (some (.int 1)), hrun, hended, rfl, ⟨_, rfl⟩, hW, hframe⟩
  jvm_step X.here [X.here.top, hx, hb, hdg, hmeth', hr, ret, narrow_b1]
  (try refine ⟨rfl, ?_⟩); (try refine ⟨rfl, ?_⟩)
  first | (intro acts; rw [hret _ acts rfl rfl rfl]) | rw [hret _ _ rfl rfl rfl]
  exact Steps.refl _
/-- what holds at the law's entry: the machine, the code, the tables' words (any of lw_tbl by 'hts w (by decide +kernel)'), the script of L ints xs at the cell b, what the Statement gives of the start (any of its parts by flat_of_before) -/
def lw_At (p : Program) (s : State) (m : MethodId) (meth : Method) (c : Code) (b L : Nat) (xs : Nat → Int32) : Prop :=
  p.tables.exec = Jvm.exec ∧ c.code = code ∧ meth.sig.returnType = ret ∧ c.maxLocals = 7 ∧ s.vm.findClass R_law = some m.cls ∧ (∀ w ∈ lw_tbl, w.before #[Value.ref b] s = true) ∧ va_X b L xs s s.heap ∧ b < s.heap.size ∧ meth.locks = false ∧ (Jvm.Cond.and given_1 narrow_1).before #[Value.ref b] s = true

/-! ===== each method of the face, thrown or not, against the reference's ===== -/
section ALL
variable {B M : St}
theorem thr_d (M : St) : fX7_thrown M = some (M.1 0, M) := rfl
theorem thr1 (M : St) : (sI M 0 1).1 0 = 1 := sI_at _ _ _
theorem reg_all (h : R0 B M) (x : Int32) : ∃ k B1 M1 r, (((x < 0 ∨ ¬ x ≤ 19) ∧ k = 1 ∧ B1 = B) ∨ (fX6_register x B = some (r, B1) ∧ k = 0)) ∧ fX7_register x M = some (r, M1) ∧ M1.1 0 = k ∧ R0 B1 M1 := by
  by_cases q : x < 0 ∨ ¬ x ≤ 19
  · exact ⟨1, B, _, 0, Or.inl ⟨q, rfl, rfl⟩, reg_thr x M q, thr1 M, h.th 1⟩
  · obtain ⟨n, hn, rfl⟩ := nI20 (fun z => q (Or.inl z)) 19 (by decide) (Classical.byContradiction fun z => q (Or.inr z))
    obtain ⟨r, M1, e1, e2, e3, e4⟩ := reg_step h n hn
    exact ⟨0, B, M1, r, Or.inr ⟨e1, rfl⟩, e2, e4, e3⟩
theorem put_all (h : R0 B M) (x v : Int32) : ∃ k B1 M1, (((x < 0 ∨ ¬ x ≤ 19) ∧ k = 1 ∧ B1 = B) ∨ (fX6_put x v B = some B1 ∧ k = 0)) ∧ fX7_put x v M = some M1 ∧ M1.1 0 = k ∧ R0 B1 M1 := by
  by_cases q : x < 0 ∨ ¬ x ≤ 19
  · exact ⟨1, B, _, Or.inl ⟨q, rfl, rfl⟩, put_thr x v M q, thr1 M, h.th 1⟩
  · obtain ⟨n, hn, rfl⟩ := nI20 (fun z => q (Or.inl z)) 19 (by decide) (Classical.byContradiction fun z => q (Or.inr z))
    obtain ⟨B1, M1, e1, e2, e3, e4⟩ := put_step h n hn v
    exact ⟨0, B1, M1, Or.inr ⟨e1, rfl⟩, e2, e4, e3⟩
theorem want_all (h : R0 B M) (x : Int32) : ∃ k B1 M1, (((x < 0 ∨ ¬ x ≤ 7) ∧ k = 1 ∧ B1 = B) ∨ (fX6_want x B = some B1 ∧ k = 0)) ∧ fX7_want x M = some M1 ∧ M1.1 0 = k ∧ R0 B1 M1 := by
  by_cases q : x < 0 ∨ ¬ x ≤ 7
  · exact ⟨1, B, _, Or.inl ⟨q, rfl, rfl⟩, want_thr x M q, thr1 M, h.th 1⟩
  · obtain ⟨n, hn, rfl⟩ := nI20 (fun z => q (Or.inl z)) 7 (by decide) (Classical.byContradiction fun z => q (Or.inr z))
    obtain ⟨B1, M1, e1, e2, e3, e4⟩ := want_step h n hn
    exact ⟨0, B1, M1, Or.inr ⟨e1, rfl⟩, e2, e4, e3⟩
theorem step_all (h : R0 B M) (x : Int32) : ∃ k B1 M1 r, (((x < 0 ∨ ¬ x ≤ 3000) ∧ k = 1 ∧ B1 = B) ∨ (fX6_step x B = some (r, B1) ∧ k = 0)) ∧ fX7_step x M = some (r, M1) ∧ M1.1 0 = k ∧ R0 B1 M1 := by
  by_cases q : x < 0 ∨ ¬ x ≤ 3000
  · obtain ⟨r, hr⟩ := step_thr x M q
    exact ⟨1, B, _, r, Or.inl ⟨q, rfl, rfl⟩, hr, thr1 M, h.th 1⟩
  · obtain ⟨n, hn, rfl⟩ := nI20 (fun z => q (Or.inl z)) 3000 (by decide) (Classical.byContradiction fun z => q (Or.inr z))
    obtain ⟨r, B1, M1, e1, e2, e3, e4⟩ := step_step n hn h
    exact ⟨0, B1, M1, r, Or.inr ⟨e1, rfl⟩, e2, e4, e3⟩
theorem exn_all (h : R0 B M) (x : Int32) : ∃ k B1 M1 r, (((x < 0 ∨ ¬ x < 64) ∧ k = 1 ∧ B1 = B) ∨ (fX6_exceptions x B = some (r, B1) ∧ k = 0)) ∧ fX7_exceptions x M = some (r, M1) ∧ M1.1 0 = k ∧ R0 B1 M1 := by
  by_cases q : x < 0 ∨ ¬ x < 64
  · exact ⟨1, B, _, 0, Or.inl ⟨q, rfl, rfl⟩, exn_thr x M q, thr1 M, h.th 1⟩
  · have hlt : x < 64 := Classical.byContradiction fun z => q (Or.inr z)
    obtain ⟨n, hn, rfl⟩ := nI20 (fun z => q (Or.inl z)) 64 (by decide) (Int32.le_of_lt hlt)
    have hn' : n < 64 := by
      rcases Nat.lt_or_ge n 64 with z | z
      · exact z
      · exact absurd hlt (nI_nlt (a := n) (b := 64) z (by omega))
    obtain ⟨r, M1, e1, e2, e3, e4⟩ := exn_step h n hn'
    exact ⟨0, B, M1, r, Or.inr ⟨e1, rfl⟩, e2, e4, e3⟩
theorem num3 {z : Int32} (q : ¬ (¬ z = 1 ∧ ¬ z = 2 ∧ ¬ z = 4)) : ∃ e, e < 3 ∧ z = szB e := by
  by_cases a : z = 1
  · exact ⟨0, by decide, a⟩
  · by_cases b : z = 2
    · exact ⟨1, by decide, b⟩
    · by_cases c : z = 4
      · exact ⟨2, by decide, c⟩
      · exact absurd ⟨a, b, c⟩ q
theorem write_all (h : R0 B M) (x y z : Int32) : ∃ k B1 M1, (((¬ z = 1 ∧ ¬ z = 2 ∧ ¬ z = 4) ∧ k = 1 ∧ B1 = B) ∨ (fX6_write x y z B = some B1 ∧ k = 0)) ∧ fX7_write x y z M = some M1 ∧ M1.1 0 = k ∧ R0 B1 M1 := by
  by_cases q : ¬ z = 1 ∧ ¬ z = 2 ∧ ¬ z = 4
  · exact ⟨1, B, _, Or.inl ⟨q, rfl, rfl⟩, write_thr x y z M q, thr1 M, h.th 1⟩
  · obtain ⟨e, he, rfl⟩ := num3 q
    obtain ⟨B1, M1, e1, e2, e3, e4⟩ := write_step h e he x y
    exact ⟨0, B1, M1, Or.inr ⟨e1, rfl⟩, e2, e4, e3⟩
theorem read_all (h : R0 B M) (x z : Int32) : ∃ k B1 M1 r, (((¬ z = 1 ∧ ¬ z = 2 ∧ ¬ z = 4) ∧ k = 1 ∧ B1 = B) ∨ (fX6_read x z B = some (r, B1) ∧ k = 0)) ∧ fX7_read x z M = some (r, M1) ∧ M1.1 0 = k ∧ R0 B1 M1 := by
  by_cases q : ¬ z = 1 ∧ ¬ z = 2 ∧ ¬ z = 4
  · exact ⟨1, B, _, 0, Or.inl ⟨q, rfl, rfl⟩, read_thr x z M q, thr1 M, h.th 1⟩
  · obtain ⟨e, he, rfl⟩ := num3 q
    obtain ⟨r, M1, e1, e2, e3, e4⟩ := read_step h e he x
    exact ⟨0, B, M1, r, Or.inr ⟨e1, rfl⟩, e2, e4, e3⟩
theorem f1_of {cond : Prop} {fx : Option (Int32 × St)} {B B1 : St} {k r : Int32} {f : Nat → Int64} (h : (cond ∧ k = 1 ∧ B1 = B) ∨ (fx = some (r, B1) ∧ k = 0)) : ∃ f1 : Nat → Int64, ((cond ∧ k = 1 ∧ B1 = B ∧ f1 = f) ∨ ∃ r, fx = some (r, B1) ∧ k = 0 ∧ f1 = vp_updL f 0 r.toInt64) ∧ (k = 0 → f1 0 = r.toInt64) := by
  rcases h with ⟨a, rfl, b⟩ | ⟨a, rfl⟩
  · exact ⟨f, Or.inl ⟨a, rfl, b, rfl⟩, fun q => absurd q (by decide)⟩
  · exact ⟨vp_updL f 0 r.toInt64, Or.inr ⟨r, a, rfl, rfl⟩, fun _ => if_pos rfl⟩
theorem start_R0 : R0 B00 (clM Z00) := by
  have m1 : (clM Z00).2.2 1 = fiT (fun _ => 0) 0 0 8 := by
    unfold clM
    rw [sR_ne _ _ (by decide), clE_2, sA_ne2 _ _ _ (by decide), sA_ne2 _ _ _ (by decide), sR_ne _ _ (by decide), sR_at]; rfl
  have m2 : (clM Z00).2.2 2 = fiT (fun _ => 0) 0 0 7 := by
    unfold clM
    rw [sR_ne _ _ (by decide), clE_2, sA_ne2 _ _ _ (by decide), sA_ne2 _ _ _ (by decide), sR_at]; rfl
  have m3 : (clM Z00).2.2 3 0 = 0 ∧ (clM Z00).2.2 3 1 = 1024 := by
    unfold clM
    rw [sR_ne _ _ (by decide), clE_2, sA_at2, sA_at2, pk_us, pk_un (by decide), pk_us]
    exact ⟨rfl, rfl⟩
  have m4 : (clM Z00).2.2 4 = fiT (fun _ => 0) 0 0 64 := by
    unfold clM
    rw [sR_at]; rfl
  have m0 : (clM Z00).2.2 0 = fun _ => 0 := by
    unfold clM
    rw [sR_ne _ _ (by decide), clE_2, sA_ne2 _ _ _ (by decide), sA_ne2 _ _ _ (by decide), sR_ne _ _ (by decide), sR_ne _ _ (by decide)]; rfl
  have bn : B00.2.2 1 = upd (fun _ => 0) 15 1024 := rfl
  refine ⟨⟨?_, ⟨fun k hk => ?_, fun k hk => ?_, ?_, ?_⟩, rfl, rfl, ?_, ?_, ?_, fun j h0 hj => ?_, ?_⟩, rfl, rfl, rfl, ⟨0, by decide, rfl⟩, rfl⟩
  · rw [m0]
    intro j _
    show (0 : Int32) = 0 &&& 255
    decide
  · rw [m1, bn, fiT_at _ _ _ _ hk, pk_un (by omega)]
  · rw [m2, bn, fiT_at _ _ _ _ hk, pk_un (by omega)]
  · rw [m3.1, show B00.1 3 = 8192 from rfl, if_neg (by decide), bn, pk_un (by decide)]
  · rw [m3.2, show B00.1 3 = 8192 from rfl, if_neg (by decide), bn, pk_us]
  · rw [show B00.1 3 = 8192 from rfl]; unfold srOK; decide
  · intro _; exact ⟨0, by decide, rfl⟩
  · rw [show (clM Z00).1 11 = 0 from rfl]; decide
  · rw [m4, fiT_at _ _ _ _ hj]
    rfl
  · rfl
end ALL
/-! ===== the law's world ===== -/
abbrev AL (s : State) : Nat → Prop := fun q => s.heap.size ≤ q
def LK (D : va_G) (aB aM : Nat → Nat) (o : Nat) (cI cB cM cJ : ClassId) (en : Nat → Nat) (s : State) : Prop :=
  va_K D vwCl [(cI, .int), (cB, .byte)] s ∧ va_K D vwCl [(cM, .int)] s ∧ va_K D vwCl [(cJ, .long)] s ∧ va_En "BoardCore$Size" "LBoardCore$Size;" szN szF en (AL s) s s.heap ∧ EX (AL s) s s.heap ∧
  (∀ i j, i < 10 → j < 10 → aB i = aB j → i = j) ∧ (∀ i j, i < 11 → j < 11 → aM i = aM j → i = j) ∧ (∀ i j, i < 10 → j < 11 → aB i ≠ aM j) ∧ (∀ i, i < 10 → aB i ≠ o) ∧ (∀ j, j < 11 → aM j ≠ o) ∧ (∀ i, i < 10 → s.heap.size ≤ aB i) ∧ (∀ j, j < 11 → s.heap.size ≤ aM j) ∧ s.heap.size ≤ o
def LW (D : va_G) (aB aM : Nat → Nat) (o : Nat) (cI cB cM cJ : ClassId) (B M : St) (f : Nat → Int64) (H : Heap) : Prop :=
  va_P D vwCl (wB aB cI cB B) H ∧ va_P D vwCl (wM aM cM cM M) H ∧ va_P D vwCl [(o, .inl (cJ, 1, .inr (.inl f)))] H
theorem P_keep {D : va_G} {ws : va_W} {n : Nat} {ad : Nat → Nat} {H H1 : Heap} {A : Nat → Prop} (hP : va_P D vwCl ws H) (h : ws.map (fun q => q.1) = (List.range n).map ad) (hk : ∀ q : Nat, q < H.size → ¬ A q → H1[q]? = H[q]?) (hA : ∀ k, k < n → ad k < H.size → ¬ A (ad k)) : va_P D vwCl ws H1 := by
  refine hP.kept (fun k q hq => ?_)
  obtain ⟨a1, a2⟩ := w_addr h hq
  have hlt := vx_lt hP hq
  rw [a2] at hlt ⊢
  exact hk _ hlt (hA k a1 hlt)
section LT
variable {D : va_G} {aB aM : Nat → Nat} {o : Nat} {cI cB cM cJ : ClassId} {en : Nat → Nat} {s : State} {H : Heap} {locs : List Loc} {B M : St} {f : Nat → Int64}
theorem LK.inB (h : LK D aB aM o cI cB cM cJ en s) {z q : Nat} (hz : s.heap.size ≤ z) (hq : AX 10 aB z q) : AL s q := by
  rcases hq with ⟨k, hk, rfl⟩ | hq
  · exact h.2.2.2.2.2.2.2.2.2.2.1 k hk
  · exact Nat.le_trans hz hq
theorem LK.inM (h : LK D aB aM o cI cB cM cJ en s) {z q : Nat} (hz : s.heap.size ≤ z) (hq : AX 11 aM z q) : AL s q := by
  rcases hq with ⟨k, hk, rfl⟩ | hq
  · exact h.2.2.2.2.2.2.2.2.2.2.2.1 k hk
  · exact Nat.le_trans hz hq
theorem LK.inO (h : LK D aB aM o cI cB cM cJ en s) {z q : Nat} (hz : s.heap.size ≤ z) (hq : AX 11 (adO aB o) z q) : AL s q := by
  rcases hq with ⟨k, hk, rfl⟩ | hq
  · unfold adO
    by_cases e : k = 10
    · rw [if_pos e]; exact h.2.2.2.2.2.2.2.2.2.2.2.2
    · rw [if_neg e]; exact h.2.2.2.2.2.2.2.2.2.2.1 k (by omega)
  · exact Nat.le_trans hz hq
theorem LK.kB (h : LK D aB aM o cI cB cM cJ en s) (hS : va_S (AL s) s.heap H locs) (U : State) (hU : U.heap = H) (hW : s.WarmedH U.vm) : KB D aB cI cB en U := by
  refine ⟨va_K.moved hW.alike h.1, h.2.2.2.2.2.1, ?_⟩
  subst hU
  exact ((va_En.moved hW.alike h.2.2.2.1).kept hS.2.1).narrow (fun q hq => h.inB hS.1 hq)
theorem LK.kM (h : LK D aB aM o cI cB cM cJ en s) (U : State) (hW : s.WarmedH U.vm) : KM D aM cM cM en U := ⟨va_K.moved hW.alike h.2.1, h.2.2.2.2.2.2.1⟩
theorem LK.ex (h : LK D aB aM o cI cB cM cJ en s) (hS : va_S (AL s) s.heap H locs) (U : State) (hU : U.heap = H) (hW : s.WarmedH U.vm) : EX (fun _ => False) U U.heap := by
  subst hU
  exact ((EX.warm hW h.2.2.2.2.1).kept hS.2.1).narrow (fun _ hq => hq.elim)
theorem LK.kO (h : LK D aB aM o cI cB cM cJ en s) (hS : va_S (AL s) s.heap H locs) (U : State) (hU : U.heap = H) (hW : s.WarmedH U.vm) : KO D aB o cI cB cJ en U :=
  ⟨h.kB hS U hU hW, va_K.moved hW.alike h.2.2.1, h.2.2.2.2.2.2.2.2.1, h.ex hS U hU hW⟩
theorem LK.kP (h : LK D aB aM o cI cB cM cJ en s) (hS : va_S (AL s) s.heap H locs) (U : State) (hU : U.heap = H) (hW : s.WarmedH U.vm) : KP D aB cI cB en U := ⟨h.kB hS U hU hW, h.ex hS U hU hW⟩
theorem LW.byB (hK : LK D aB aM o cI cB cM cJ en s) (h : LW D aB aM o cI cB cM cJ B M f H) {H1 : Heap} {B1 : St} (hP : va_P D vwCl (wB aB cI cB B1) H1) (hk : ∀ q : Nat, q < H.size → ¬ AX 10 aB H.size q → H1[q]? = H[q]?) : LW D aB aM o cI cB cM cJ B1 M f H1 := by
  refine ⟨hP, P_keep (n := 11) (ad := aM) h.2.1 rfl hk ?_, P_keep (n := 1) (ad := fun _ => o) h.2.2 rfl hk ?_⟩
  · intro k hk hl
    rintro (⟨i, hi, e⟩ | e)
    · exact hK.2.2.2.2.2.2.2.1 i k hi hk e.symm
    · omega
  · intro k hk hl
    rintro (⟨i, hi, e⟩ | e)
    · exact hK.2.2.2.2.2.2.2.2.1 i hi e.symm
    · omega
theorem LW.byM (hK : LK D aB aM o cI cB cM cJ en s) (h : LW D aB aM o cI cB cM cJ B M f H) {H1 : Heap} {M1 : St} (hP : va_P D vwCl (wM aM cM cM M1) H1) (hk : ∀ q : Nat, q < H.size → ¬ AX 11 aM H.size q → H1[q]? = H[q]?) : LW D aB aM o cI cB cM cJ B M1 f H1 := by
  refine ⟨P_keep (n := 10) (ad := aB) h.1 rfl hk ?_, hP, P_keep (n := 1) (ad := fun _ => o) h.2.2 rfl hk ?_⟩
  · intro k hk hl
    rintro (⟨i, hi, e⟩ | e)
    · exact hK.2.2.2.2.2.2.2.1 k i hk hi e
    · omega
  · intro k hk hl
    rintro (⟨i, hi, e⟩ | e)
    · exact hK.2.2.2.2.2.2.2.2.2.1 i hi e.symm
    · omega
theorem LW.byO (hK : LK D aB aM o cI cB cM cJ en s) (h : LW D aB aM o cI cB cM cJ B M f H) {H1 : Heap} {B1 : St} {f1 : Nat → Int64} (hP : va_P D vwCl (wO aB o cI cB cJ B1 f1) H1) (hk : ∀ q : Nat, q < H.size → ¬ AX 11 (adO aB o) H.size q → H1[q]? = H[q]?) : LW D aB aM o cI cB cM cJ B1 M f1 H1 := by
  refine ⟨wO_B hP, P_keep (n := 11) (ad := aM) h.2.1 rfl hk ?_, wO_o hP⟩
  intro k hk hl
  rintro (⟨i, hi, e⟩ | e)
  · unfold adO at e
    by_cases z : i = 10
    · rw [if_pos z] at e; exact hK.2.2.2.2.2.2.2.2.2.1 k hk e
    · rw [if_neg z] at e; exact hK.2.2.2.2.2.2.2.1 i k (by omega) hk e.symm
  · omega
end LT
/-! ===== the law's calls ===== -/
theorem wg_SH {index : Nat} {y : MethodName} {b : ByteArray} {n : Nat} {hh : List (Nat × Nat × Nat × Nat)} (h1 : Cond.methodLink RL index y ∈ wG) (h2 : Cond.static y ∈ wG) (h4 : Cond.initialized y.cls ∈ wG) (h5 : Cond.codeWith y b n (some .int) hh ∈ wG) : GoodIn wG (va_wsS RL index y (wgH y b n hh)) := by
  intro w hw
  have h : w ∈ wG := by
    simp only [va_wsS, wgH, List.cons_append, List.nil_append, List.mem_cons] at hw
    rcases hw with rfl | rfl | rfl | rfl | h
    · exact h1
    · exact h2
    · exact h4
    · exact h5
    · exact h
  exact ⟨h, wG_good h⟩
theorem bl_O {D : va_G} {ad : Nat → Nat} {o : Nat} {cI cB cJ : ClassId} {en : Nat → Nat} {As : List Value} {S : St} {f : Nat → Int64} {sz : Nat} : FrameBlind (PO D ad o cI cB cJ en As S f sz) := fun a U g mk q =>
  ⟨q.1, q.2.1, q.2.2.1, uK_B.1 U g mk a q.2.2.2.1, va_K.moved (u := U) (U := U.calling g mk a) (Vm.Alike.refl U.vm) q.2.2.2.2.1, q.2.2.2.2.2.1, EX.same rfl q.2.2.2.2.2.2⟩
theorem bl_P {D : va_G} {ad : Nat → Nat} {cI cB : ClassId} {en : Nat → Nat} {As : List Value} {S : St} {sz : Nat} : FrameBlind (PP D ad cI cB en As S sz) := fun a U g mk q =>
  ⟨q.1, q.2.1, q.2.2.1, uK_B.1 U g mk a q.2.2.2.1, EX.same rfl q.2.2.2.2⟩
section LC
variable {p : Program} {l : Launch} {e : Env} {R : Room} {s : State} {m : MethodId} {args : Array Value} {below : List Frame} {meth : Method} {c : Code} {H : Heap} {locs : List Loc} {cells slots : Nat} {Q : State → Prop} {pc nL index n maxL : Nat} {cc bytes : ByteArray} {ls : Array Slot} {rest As : List Value}
variable {D : va_G} {aB aM : Nat → Nat} {o : Nat} {cI cB cM cJ : ClassId} {en : Nat → Nat} {B M B1 M1 : St} {f f1 : Nat → Int64} {y : MethodName} {rm : Room} {ret : Option FieldType} {out : Option Value × St} {hh : List (Nat × Nat × Nat × Nat)} {k : Int32}
theorem lw_B (hM : uM l y (wg y bytes maxL ret) rm (KB D aB cI cB en) D (wB aB cI cB) (AX 10 aB) (.ref (aB 0) :: As) B out) (C : CallFix p m c cc nL s args wG RL) (hG : GoodIn wG (wsV RL index RX6 y (wg y bytes maxL ret))) (hrc : rm.cells = 0) (hrs : rm.slots = 0)
    (hd : y.cls = RX6 ∧ y.cls ≠ "java/lang/invoke/MethodHandle" ∧ y.cls ≠ "java/lang/invoke/VarHandle" ∧ (parseMethodDescriptor y.desc).map (fun d => d.parameters.length) = some n) (hR : rm.frames + 1 ≤ R.frames ∧ 8 + (maxL + 11) + rm.locals ≤ R.locals)
    (hn : As.length = n) (hK : LK D aB aM o cI cB cM cJ en s) (hW : LW D aB aM o cI cB cM cJ B M f H) (hS : va_S (AL s) s.heap H locs) (hls : ls.size = nL) (hrest : (rest.map fun v => v.category).sum ≤ 8) (hdg : decode cc pc = .ok (.invokevirtual index, 3)) (hroom : cells ≤ R.cells ∧ slots ≤ R.slots) {st : List Value} (hst : st = As.reverse ++ .ref (aB 0) :: rest)
    (kk : ∀ (H1 : Heap) (locs1 : List Loc), LW D aB aM o cI cB cM cJ out.2 M f H1 → va_S (AL s) s.heap H1 locs1 → W p l e R s m args below meth c H1 locs1 cells slots Q (F0 m (pc + 3) ls (out.1.toList ++ rest))) : W p l e R s m args below meth c H locs cells slots Q (F0 m pc ls st) :=
  u_callV2 (n := n) (rest := rest) hM C uK_B hG rfl hrc hrs hd hR hn (va_recv hK.1 hW.1 (ci := 5) (q0 := 0) rfl rfl) (hK.kB hS) hW.1 hS (fun q hq => hK.inB hS.1 hq) hls hrest hdg hroom hst (fun H1 locs1 hP1 _ hk1 hS1 => kk H1 locs1 (hW.byB hK hP1 hk1) hS1)
theorem lw_M (hM : uM l y (wg y bytes maxL ret) rm (KM D aM cM cM en) D (wM aM cM cM) (AX 11 aM) (.ref (aM 0) :: As) M out) (C : CallFix p m c cc nL s args wG RL) (hG : GoodIn wG (wsV RL index RX7 y (wg y bytes maxL ret))) (hrc : rm.cells = 0) (hrs : rm.slots = 0)
    (hd : y.cls = RX7 ∧ y.cls ≠ "java/lang/invoke/MethodHandle" ∧ y.cls ≠ "java/lang/invoke/VarHandle" ∧ (parseMethodDescriptor y.desc).map (fun d => d.parameters.length) = some n) (hR : rm.frames + 1 ≤ R.frames ∧ 8 + (maxL + 11) + rm.locals ≤ R.locals)
    (hn : As.length = n) (hK : LK D aB aM o cI cB cM cJ en s) (hW : LW D aB aM o cI cB cM cJ B M f H) (hS : va_S (AL s) s.heap H locs) (hls : ls.size = nL) (hrest : (rest.map fun v => v.category).sum ≤ 8) (hdg : decode cc pc = .ok (.invokevirtual index, 3)) (hroom : cells ≤ R.cells ∧ slots ≤ R.slots) {st : List Value} (hst : st = As.reverse ++ .ref (aM 0) :: rest)
    (kk : ∀ (H1 : Heap) (locs1 : List Loc), LW D aB aM o cI cB cM cJ B out.2 f H1 → va_S (AL s) s.heap H1 locs1 → W p l e R s m args below meth c H1 locs1 cells slots Q (F0 m (pc + 3) ls (out.1.toList ++ rest))) : W p l e R s m args below meth c H locs cells slots Q (F0 m pc ls st) :=
  u_callV2 (n := n) (rest := rest) hM C uK_M hG rfl hrc hrs hd hR hn (va_recv hK.2.1 hW.2.1 (ci := 6) (q0 := 0) rfl rfl) (fun U _ hU => hK.kM U hU) hW.2.1 hS (fun q hq => hK.inM hS.1 hq) hls hrest hdg hroom hst (fun H1 locs1 hP1 _ hk1 hS1 => kk H1 locs1 (hW.byM hK hP1 hk1) hS1)
theorem lw_O (hM : ∀ sz, vx_Met l y (wgH y bytes maxL hh) rmH (PO D aB o cI cB cJ en As B f sz) (QO D aB o cI cB cJ sz k B1 f1) (fun _ _ _ => False) 1 6 (AX 11 (adO aB o) sz)) (C : CallFix p m c cc nL s args wG RL) (hG : GoodIn wG (va_wsS RL index y (wgH y bytes maxL hh)))
    (hd : y.cls ≠ "java/lang/invoke/MethodHandle" ∧ y.cls ≠ "java/lang/invoke/VarHandle" ∧ (parseMethodDescriptor y.desc).map (fun d => d.parameters.length) = some n) (hR : rmH.frames + 1 ≤ R.frames ∧ 8 + (maxL + 11) + rmH.locals ≤ R.locals)
    (hn : As.length = n) (hK : LK D aB aM o cI cB cM cJ en s) (hW : LW D aB aM o cI cB cM cJ B M f H) (hS : va_S (AL s) s.heap H locs) (hls : ls.size = nL) (hrest : (rest.map fun v => v.category).sum ≤ 8) (hdg : decode cc pc = .ok (.invokestatic index, 3)) (hroom : cells + 1 ≤ R.cells ∧ slots + 6 ≤ R.slots) {st : List Value} (hst : st = As.reverse ++ rest)
    (kk : ∀ (H1 : Heap) (locs1 : List Loc), LW D aB aM o cI cB cM cJ B1 M f1 H1 → va_S (AL s) s.heap H1 locs1 → W p l e R s m args below meth c H1 locs1 (cells + 1) (slots + 6) Q (F0 m (pc + 3) ls (.int k :: rest))) : W p l e R s m args below meth c H locs cells slots Q (F0 m pc ls st) := by
  have hr := vx_runSX (cells := cells) (slots := slots) (locs := locs) (meth := meth) (below := below) (e := e) (rest := rest) C (hM H.size) (vx_cwSW n C.2.2.2.2 hG rfl rfl rfl hd hR) ⟨bl_O, fun U hU hV => ⟨rfl, by rw [hU], by rw [hU]; exact hW.1.app hW.2.2, hK.kO hS U hU hV⟩⟩ (g := F0 m pc ls st) rfl hn hls hst (lv_room hrest) hdg hroom
  intro T hT X
  rcases hr T hT X with ⟨v, st₀, t, T', L, h0, X', hL, e1, e2, ⟨hv, hp, hz, hk⟩, st⟩ | ⟨q, st₀, t, T', L, E, ce, h0, X', hL, e1, e2, hx, -⟩
  · cases hv
    rw [h0] at hz hk
    obtain ⟨t2, a1, b1⟩ := kk T'.heap (locs ++ L) (hW.byO hK (by rw [e1]; exact hp) (fun q h1 h2 => by rw [e1]; exact hk q h1 h2))
      ⟨Nat.le_trans hS.1 (by rw [e1]; exact hz), fun q h1 h2 => by rw [e1, hk q (Nat.lt_of_lt_of_le h1 hS.1) (fun z => h2 (hK.inO hS.1 z))]; exact hS.2.1 q h1 h2, fun q hq => by
        rcases List.mem_append.mp hq with h | h
        · exact hS.2.2 q h
        · exact hK.inO hS.1 (hL q h)⟩ T' rfl X'
    exact ⟨t2, st t2 a1, b1⟩
  · exact hx.elim
theorem lw_Pp (hM : ∀ sz, vx_Met l y (wgH y bytes maxL hh) rmH (PP D aB cI cB en As B sz) (QP D aB cI cB sz k B1) (fun _ _ _ => False) 1 6 (AX 10 aB sz)) (C : CallFix p m c cc nL s args wG RL) (hG : GoodIn wG (va_wsS RL index y (wgH y bytes maxL hh)))
    (hd : y.cls ≠ "java/lang/invoke/MethodHandle" ∧ y.cls ≠ "java/lang/invoke/VarHandle" ∧ (parseMethodDescriptor y.desc).map (fun d => d.parameters.length) = some n) (hR : rmH.frames + 1 ≤ R.frames ∧ 8 + (maxL + 11) + rmH.locals ≤ R.locals)
    (hn : As.length = n) (hK : LK D aB aM o cI cB cM cJ en s) (hW : LW D aB aM o cI cB cM cJ B M f H) (hS : va_S (AL s) s.heap H locs) (hls : ls.size = nL) (hrest : (rest.map fun v => v.category).sum ≤ 8) (hdg : decode cc pc = .ok (.invokestatic index, 3)) (hroom : cells + 1 ≤ R.cells ∧ slots + 6 ≤ R.slots) {st : List Value} (hst : st = As.reverse ++ rest)
    (kk : ∀ (H1 : Heap) (locs1 : List Loc), LW D aB aM o cI cB cM cJ B1 M f H1 → va_S (AL s) s.heap H1 locs1 → W p l e R s m args below meth c H1 locs1 (cells + 1) (slots + 6) Q (F0 m (pc + 3) ls (.int k :: rest))) : W p l e R s m args below meth c H locs cells slots Q (F0 m pc ls st) := by
  have hr := vx_runSX (cells := cells) (slots := slots) (locs := locs) (meth := meth) (below := below) (e := e) (rest := rest) C (hM H.size) (vx_cwSW n C.2.2.2.2 hG rfl rfl rfl hd hR) ⟨bl_P, fun U hU hV => ⟨rfl, by rw [hU], by rw [hU]; exact hW.1, hK.kP hS U hU hV⟩⟩ (g := F0 m pc ls st) rfl hn hls hst (lv_room hrest) hdg hroom
  intro T hT X
  rcases hr T hT X with ⟨v, st₀, t, T', L, h0, X', hL, e1, e2, ⟨hv, hp, hz, hk⟩, st⟩ | ⟨q, st₀, t, T', L, E, ce, h0, X', hL, e1, e2, hx, -⟩
  · cases hv
    rw [h0] at hz hk
    obtain ⟨t2, a1, b1⟩ := kk T'.heap (locs ++ L) (hW.byB hK (by rw [e1]; exact hp) (fun q h1 h2 => by rw [e1]; exact hk q h1 h2))
      ⟨Nat.le_trans hS.1 (by rw [e1]; exact hz), fun q h1 h2 => by rw [e1, hk q (Nat.lt_of_lt_of_le h1 hS.1) (fun z => h2 (hK.inB hS.1 z))]; exact hS.2.1 q h1 h2, fun q hq => by
        rcases List.mem_append.mp hq with h | h
        · exact hS.2.2 q h
        · exact hK.inB hS.1 (hL q h)⟩ T' rfl X'
    exact ⟨t2, st t2 a1, b1⟩
  · exact hx.elim
end LC
