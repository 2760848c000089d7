/-! The states of both systems: whole numbers, truths, rows of numbers, by their places. -/
abbrev St : Type := (Nat → Int32) × (Nat → Bool) × (Nat → Nat → Int32)
def zI (b : Bool) : Int32 := if b = true then 1 else 0
def sI (S : St) (k : Nat) (v : Int32) : St := (upd S.1 k v, S.2.1, S.2.2)
def sZ (S : St) (k : Nat) (v : Bool) : St := (S.1, va_up S.2.1 k v, S.2.2)
def sA (S : St) (k j : Nat) (v : Int32) : St := (S.1, S.2.1, va_up S.2.2 k (upd (S.2.2 k) j v))
def sR (S : St) (k : Nat) (f : Nat → Int32) : St := (S.1, S.2.1, va_up S.2.2 k f)
/-! The words of the printed functions: a name, a join, a guard, a call. -/
def lt {α β : Type} (x : α) (f : α → β) : β := f x
def jn {κ γ : Type} (k : κ) (x : κ → γ) : γ := x k
def gd {β : Type} (p : Prop) [Decidable p] (x : Option β) : Option β := if p then x else none
def bd {α β : Type} (x : Option (α × St)) (f : α → St → Option β) : Option β := x.bind fun q => f q.1 q.2
def bv {β : Type} (x : Option St) (f : St → Option β) : Option β := x.bind f
theorem lt_e {α β : Type} {x : α} {f : α → β} {o : β} (h : lt x f = o) : ∃ v, v = x ∧ f v = o := ⟨x, rfl, h⟩
theorem gd_e {β : Type} {p : Prop} [Decidable p] {x : Option β} {o : β} (h : gd p x = some o) : p ∧ x = some o := by
  unfold gd at h
  split at h
  · exact ⟨by assumption, h⟩
  · cases h
theorem bd_e {α β : Type} {x : Option (α × St)} {f : α → St → Option β} {o : β} (h : bd x f = some o) : ∃ r S, x = some (r, S) ∧ f r S = some o := by
  unfold bd at h
  cases x with
  | none => cases h
  | some q => exact ⟨q.1, q.2, rfl, h⟩
theorem bv_e {β : Type} {x : Option St} {f : St → Option β} {o : β} (h : bv x f = some o) : ∃ S, x = some S ∧ f S = some o := by
  unfold bv at h
  cases x with
  | none => cases h
  | some q => exact ⟨q, rfl, h⟩
theorem if_t {c : Prop} [Decidable c] {β : Type} {a b o : β} (hc : c) (h : (if c then a else b) = o) : a = o := by rw [if_pos hc] at h; exact h
theorem if_f {c : Prop} [Decidable c] {β : Type} {a b o : β} (hc : ¬ c) (h : (if c then a else b) = o) : b = o := by rw [if_neg hc] at h; exact h
theorem jn_e {κ γ : Type} {k : κ} {x : κ → γ} {o : γ} {P : Prop} (h : jn k x = o) (T : κ → Prop) (hT : T k) (g : ∀ K, T K → x K = o → P) : P := g k hT h
def ixo (i : Int32) (n : Nat) : Bool := !(decide (i < 0)) && decide (i.toNatClampNeg < n)
theorem ixo_in {i : Int32} {n : Nat} (h : ixo i n = true) : vp_in i n := by
  simp only [ixo, Bool.and_eq_true, Bool.not_eq_true', decide_eq_false_iff_not, decide_eq_true_eq] at h
  intro q
  rcases q with q | q
  · exact h.1 q
  · omega
theorem zI_0 (b : Bool) : zI b = 0 ↔ b = false := by cases b <;> decide
theorem zI_or (a b : Bool) : zI a ||| zI b = zI (a || b) := by cases a <;> cases b <;> decide
theorem zI_and (a b : Bool) : zI a &&& zI b = zI (a && b) := by cases a <;> cases b <;> decide
theorem zI_nar (b : Bool) : narrow .boolean (.int (zI b)) = .int (zI b) := by cases b <;> rfl
theorem zI_fit (b : Bool) : fits .boolean (.int (zI b)) = true := by cases b <;> rfl
/-! Contracts of one form: the whole world of a system before and behind, its addresses fixed; nothing is made. -/
def uQ (D : va_G) (wf : St → va_W) (out : Option Value × St) (A : Nat → Prop) : Array Value → State → Outcome → State → Prop := fun _ st o t => o = .returned out.1 ∧ va_P D vwCl (wf out.2) t.heap ∧ va_F A st t
def uM (l : Launch) (y : MethodName) (ws : List Cond) (rm : Room) (Kx : State → Prop) (D : va_G) (wf : St → va_W) (AA : Nat → Nat → Prop) (As : List Value) (S : St) (out : Option Value × St) : Prop :=
  ∀ sz : Nat, Met l y ws rm (va_Pc As (fun U => U.heap.size = sz ∧ va_P D vwCl (wf S) U.heap ∧ Kx U)) (uQ D wf out (AA sz)) 0 0 (AA sz)
/-- what a system's steady facts must bear -/
def uK (AA : Nat → Nat → Prop) (Kx : State → Prop) : Prop :=
  (∀ (U : State) (g : JFrame) (mk : MethodId) (a : Array Value), Kx U → Kx (U.calling g mk a)) ∧
  (∀ (s U : State) (H : Heap) (locs : List Loc), Kx s → va_S (AA s.heap.size) s.heap H locs → U.heap = H → s.WarmedH U.vm → Kx U) ∧
  (∀ (sz sz' q : Nat), sz ≤ sz' → AA sz' q → AA sz q)
section UB
variable {l : Launch} {y : MethodName} {ws ws' : List Cond} {rm : Room} {Kx : State → Prop} {D : va_G} {wf : St → va_W} {AA : Nat → Nat → Prop} {As : List Value} {S : St} {out : Option Value × St} {cc : ByteArray} {maxL : Nat} {ret : Option FieldType}
theorem uM_start (hy : plainName y.cls = true) (hw : ws = Cond.code y cc maxL ret :: ws')
    (body : ∀ (p : Program) (e : Env) (s : State) (m : MethodId) (below : List Frame) (meth : Method) (c : Code), p.tables.exec = Jvm.exec → c.code = cc → meth.sig.returnType = ret → meth.locks = false → c.maxLocals = maxL → s.vm.findClass y.cls = some m.cls → (∀ w ∈ ws, w.before As.toArray s = true) → Kx s → va_P D vwCl (wf S) s.heap →
      W p l e rm s m As.toArray below meth c s.heap [] 0 0 (MQ below (uQ D wf out (AA s.heap.size)) As.toArray s 0 0 (AA s.heap.size)) (entryFrame m As.toArray maxL)) : uM l y ws rm Kx D wf AA As S out := by
  intro sz
  refine Met.ofW (cc := cc) (maxL := maxL) (ret := ret) hy hw ?_
  intro p e s m args below meth c s₁ B hml hv
  obtain ⟨rfl, rfl, hP, hK⟩ := hv
  exact body p e s m below meth c B.exec B.bytes B.returns B.notSynchronized hml (findClass_of_methodNamed B.named) (atoms_spec (ws := ws) B.pre) hK hP
end UB
section UW
variable {p : Program} {l : Launch} {e : Env} {R : Room} {s : State} {m : MethodId} {args : Array Value} {below : List Frame} {meth : Method} {c : Code} {H : Heap} {locs : List Loc} {cells slots : Nat} {Q : State → Prop}
variable {cc : ByteArray} {pc : Nat} {ls : Array Slot} {rest : List Value} {D : va_G} {wf : St → va_W} {A : Nat → Prop} {Kx : State → Prop} {AA : Nat → Nat → Prop}
theorem u_top {x v : Int32} (hv : v = x) (k : W p l e R s m args below meth c H locs cells slots Q (F0 m pc ls (.int v :: rest))) : W p l e R s m args below meth c H locs cells slots Q (F0 m pc ls (.int x :: rest)) := hv ▸ k
theorem u_topl {x v : Int64} (hv : v = x) (k : W p l e R s m args below meth c H locs cells slots Q (F0 m pc ls (.long v :: rest))) : W p l e R s m args below meth c H locs cells slots Q (F0 m pc ls (.long x :: rest)) := hv ▸ k
theorem u_topz {x v : Bool} (hv : v = x) (k : W p l e R s m args below meth c H locs cells slots Q (F0 m pc ls (.int (zI v) :: rest))) : W p l e R s m args below meth c H locs cells slots Q (F0 m pc ls (.int (zI x) :: rest)) := hv ▸ k
theorem u_tope {en : Nat → Nat} {x v : Nat} (hv : v = x) (k : W p l e R s m args below meth c H locs cells slots Q (F0 m pc ls (.ref (en v) :: rest))) : W p l e R s m args below meth c H locs cells slots Q (F0 m pc ls (.ref (en x) :: rest)) := hv ▸ k
theorem u_st {st st2 : List Value} (h : st = st2) (k : W p l e R s m args below meth c H locs cells slots Q (F0 m pc ls st2)) : W p l e R s m args below meth c H locs cells slots Q (F0 m pc ls st) := h ▸ k
theorem u_iret {v r : Int32} {S1 S2 : St} (hx : p.tables.exec = Jvm.exec) (hb : c.code = cc) (hr : meth.sig.returnType = some .int) (hlocks : meth.locks = false) (hP : va_P D vwCl (wf S1) H) (hS : va_S A s.heap H locs) (hs : some (v, S1) = some (r, S2)) (hdg : decode cc pc = .ok (.ireturn, 1)) :
    W p l e R s m args below meth c H locs 0 0 (MQ below (uQ D wf (some (.int r), S2) A) args s 0 0 A) (F0 m pc ls [.int v]) := by
  cases hs
  exact W.iret (v := v) hx hb hr (fun t ht _ => ⟨rfl, by rw [ht]; exact hP, hS.F ht⟩) hS.2.2 hdg
theorem u_zret {v r : Bool} {S1 S2 : St} (hx : p.tables.exec = Jvm.exec) (hb : c.code = cc) (hr : meth.sig.returnType = some .boolean) (hlocks : meth.locks = false) (hP : va_P D vwCl (wf S1) H) (hS : va_S A s.heap H locs) (hs : some (v, S1) = some (r, S2)) (hdg : decode cc pc = .ok (.ireturn, 1)) :
    W p l e R s m args below meth c H locs 0 0 (MQ below (uQ D wf (some (.int (zI r)), S2) A) args s 0 0 A) (F0 m pc ls [.int (zI v)]) := by
  cases hs
  exact W.zret (v := zI v) hx hb hr (zI_nar v) (fun t ht _ => ⟨rfl, by rw [ht]; exact hP, hS.F ht⟩) hS.2.2 hdg
theorem u_lret {v r : Int64} {S1 S2 : St} (hx : p.tables.exec = Jvm.exec) (hb : c.code = cc) (hr : meth.sig.returnType = some .long) (hlocks : meth.locks = false) (hP : va_P D vwCl (wf S1) H) (hS : va_S A s.heap H locs) (hs : some (v, S1) = some (r, S2)) (hdg : decode cc pc = .ok (.lreturn, 1)) :
    W p l e R s m args below meth c H locs 0 0 (MQ below (uQ D wf (some (.long r), S2) A) args s 0 0 A) (F0 m pc ls [.long v]) := by
  cases hs
  exact W.lret (v := v) hx hb hr (fun t ht _ => ⟨rfl, by rw [ht]; exact hP, hS.F ht⟩) hS.2.2 hdg
theorem u_vret {S1 S2 : St} (hx : p.tables.exec = Jvm.exec) (hb : c.code = cc) (hr : meth.sig.returnType = none) (hlocks : meth.locks = false) (hP : va_P D vwCl (wf S1) H) (hS : va_S A s.heap H locs) (hs : some S1 = some S2) (hdg : decode cc pc = .ok (.return_, 1)) :
    W p l e R s m args below meth c H locs 0 0 (MQ below (uQ D wf (none, S2) A) args s 0 0 A) (F0 m pc ls []) := by
  cases hs
  exact W.vret hx hb hr (fun t ht _ => ⟨rfl, by rw [ht]; exact hP, hS.F ht⟩) hS.2.2 hdg
theorem u_eret {en : Nat → Nat} {v r : Nat} {S1 S2 : St} (hx : p.tables.exec = Jvm.exec) (hb : c.code = cc) (hr : meth.sig.returnType = some (.object "BoardCore$Size")) (hlocks : meth.locks = false) (hP : va_P D vwCl (wf S1) H) (hS : va_S A s.heap H locs) (hs : some (v, S1) = some (r, S2)) (hdg : decode cc pc = .ok (.areturn, 1)) :
    W p l e R s m args below meth c H locs 0 0 (MQ below (uQ D wf (some (.ref (en r)), S2) A) args s 0 0 A) (F0 m pc ls [.ref (en v)]) := by
  cases hs
  exact W.aret (v := .ref (en v)) hx hb hr (Or.inl ⟨_, rfl⟩) (Or.inr ⟨_, rfl⟩) (fun t ht _ => ⟨rfl, by rw [ht]; exact hP, hS.F ht⟩) hS.2.2 hdg
theorem u_table {dflt lo hi : Int} {offs : Array Int} {len : Nat} {x k : Int32} {a off : Int} {tgt : Nat} (hx : p.tables.exec = Jvm.exec) (hb : c.code = cc) (hdg : decode cc pc = .ok (.tableswitch dflt lo hi offs, len)) (hk : x = k) (ha : k.toInt = a) (h1 : ¬ a < lo) (h2 : ¬ hi < a) (ho : offs[(a - lo).toNat]? = some off) (ht : (pc : Int) + off = (tgt : Int))
    (kk : W p l e R s m args below meth c H locs cells slots Q (F0 m tgt ls rest)) : W p l e R s m args below meth c H locs cells slots Q (F0 m pc ls (.int x :: rest)) :=
  lv_tableIn hx hb hdg (by rw [hk, ha]; exact h1) (by rw [hk, ha]; exact h2) (by rw [hk, ha]; exact ho) ht kk
theorem u_tableD {dflt lo hi : Int} {offs : Array Int} {len : Nat} {x : Int32} {tgt : Nat} (hx : p.tables.exec = Jvm.exec) (hb : c.code = cc) (hdg : decode cc pc = .ok (.tableswitch dflt lo hi offs, len)) (ho : ¬ x.toInt < lo → ¬ hi < x.toInt → offs[(x.toInt - lo).toNat]? = some dflt) (ht : (pc : Int) + dflt = (tgt : Int))
    (kk : W p l e R s m args below meth c H locs cells slots Q (F0 m tgt ls rest)) : W p l e R s m args below meth c H locs cells slots Q (F0 m pc ls (.int x :: rest)) := by
  by_cases h1 : x.toInt < lo
  · exact lv_tableOut hx hb hdg (Or.inl h1) ht kk
  · by_cases h2 : hi < x.toInt
    · exact lv_tableOut hx hb hdg (Or.inr h2) ht kk
    · exact lv_tableIn hx hb hdg h1 h2 (ho h1 h2) ht kk
/-- a call: the callee's whole world goes over to its new one -/
theorem u_run {y : MethodName} {out : Option Value × St} {As : List Value} {st0 : List Value} {sz : Nat} (hr : va_Run p l e R s m args below meth c H locs cells slots 0 0 (F0 m pc ls st0) rest (uQ D wf out (AA sz) As.toArray) (AA sz)) (hz : sz = H.size) (hU : uK AA Kx) (hS : va_S (AA s.heap.size) s.heap H locs)
    (kk : ∀ (H1 : Heap) (locs1 : List Loc), va_P D vwCl (wf out.2) H1 → va_S (AA s.heap.size) s.heap H1 locs1 → W p l e R s m args below meth c H1 locs1 cells slots Q (F0 m (pc + 3) ls (out.1.toList ++ rest))) : W p l e R s m args below meth c H locs cells slots Q (F0 m pc ls st0) := by
  subst hz
  intro T hT X
  obtain ⟨v, st₀, t, T', L, h0, X', hL, e1, e2, ⟨hv, hp, hz, hk⟩, st⟩ := hr T hT X
  cases hv
  rw [h0] at hz hk
  have hin : ∀ q, AA H.size q → AA s.heap.size q := fun q h => hU.2.2 _ _ _ hS.1 h
  obtain ⟨t2, a1, b1⟩ := kk T'.heap (locs ++ L) (by rw [e1]; exact hp)
    ⟨Nat.le_trans hS.1 (by rw [e1]; exact hz), fun q h1 h2 => by rw [e1, hk q (Nat.lt_of_lt_of_le h1 hS.1) (fun z => h2 (hin q z))]; exact hS.2.1 q h1 h2, fun q hq => by
      rcases List.mem_append.mp hq with h | h
      · exact hS.2.2 q h
      · exact hin _ (hL q h)⟩ T' rfl X'
  exact ⟨t2, st t2 a1, b1⟩
variable {y : MethodName} {ws ws' : List Cond} {rm : Room} {As : List Value} {S : St} {out : Option Value × St} {bytes : ByteArray} {maxL nL n index : Nat} {ret : Option FieldType} {Ts : List Cond} {own Cn : String} {b : Nat}
theorem u_blind (hU : uK AA Kx) (sz : Nat) : FrameBlind (va_Pc As (fun U => U.heap.size = sz ∧ va_P D vwCl (wf S) U.heap ∧ Kx U)) := fun a U g mk q => ⟨q.1, q.2.1, q.2.2.1, hU.1 U g mk a q.2.2.2⟩
theorem u_callV (hM : uM l y ws rm Kx D wf AA (.ref b :: As) S out) (C : CallFix p m c cc nL s args Ts own) (hU : uK AA Kx) (hG : GoodIn Ts (wsV own index Cn y ws)) (hw : ws = Cond.code y bytes maxL ret :: ws') (hrc : rm.cells = 0) (hrs : rm.slots = 0)
    (hd : y.cls = Cn ∧ y.cls ≠ "java/lang/invoke/MethodHandle" ∧ y.cls ≠ "java/lang/invoke/VarHandle" ∧ (parseMethodDescriptor y.desc).map (fun d => d.parameters.length) = some n) (hR : rm.frames + 1 ≤ R.frames ∧ 8 + (maxL + 11) + rm.locals ≤ R.locals)
    (hn : As.length = n) (hrecv : ∃ cellB : Cell, H[b]? = some cellB ∧ cellB.vm.isStatics = false ∧ s.vm.findClass Cn = some cellB.cls) (hK : Kx s) (hP : va_P D vwCl (wf S) H) (hS : va_S (AA s.heap.size) s.heap H locs) (hls : ls.size = nL) (hrest : (rest.map fun v => v.category).sum ≤ 8) (hdg : decode cc pc = .ok (.invokevirtual index, 3))
    (hroom : cells ≤ R.cells ∧ slots ≤ R.slots) {st : List Value} (hst : st = As.reverse ++ .ref b :: rest)
    (kk : ∀ (H1 : Heap) (locs1 : List Loc), va_P D vwCl (wf out.2) H1 → va_S (AA s.heap.size) s.heap H1 locs1 → W p l e R s m args below meth c H1 locs1 cells slots Q (F0 m (pc + 3) ls (out.1.toList ++ rest))) : W p l e R s m args below meth c H locs cells slots Q (F0 m pc ls st) :=
  u_run (y := y) (As := .ref b :: As) (sz := H.size) (va_runV (rest := rest) C (hM H.size) (cwV n C.2.2.2.2 hG hw hrc hrs hd hR) ⟨u_blind hU H.size, hrecv, fun U hUh hW => ⟨rfl, by rw [hUh], by rw [hUh]; exact hP, hU.2.1 s U H locs hK hS hUh hW⟩⟩ rfl hn hls hst (lv_room hrest) hdg hroom) rfl hU hS kk
theorem u_callS (hM : uM l y ws rm Kx D wf AA As S out) (C : CallFix p m c cc nL s args Ts own) (hU : uK AA Kx) (hG : GoodIn Ts (va_wsS own index y ws)) (hw : ws = Cond.code y bytes maxL ret :: ws') (hrc : rm.cells = 0) (hrs : rm.slots = 0)
    (hd : y.cls ≠ "java/lang/invoke/MethodHandle" ∧ y.cls ≠ "java/lang/invoke/VarHandle" ∧ (parseMethodDescriptor y.desc).map (fun d => d.parameters.length) = some n) (hR : rm.frames + 1 ≤ R.frames ∧ 8 + (maxL + 11) + rm.locals ≤ R.locals)
    (hn : As.length = n) (hK : Kx s) (hP : va_P D vwCl (wf S) H) (hS : va_S (AA s.heap.size) s.heap H locs) (hls : ls.size = nL) (hrest : (rest.map fun v => v.category).sum ≤ 8) (hdg : decode cc pc = .ok (.invokestatic index, 3))
    (hroom : cells ≤ R.cells ∧ slots ≤ R.slots) {st : List Value} (hst : st = As.reverse ++ rest)
    (kk : ∀ (H1 : Heap) (locs1 : List Loc), va_P D vwCl (wf out.2) H1 → va_S (AA s.heap.size) s.heap H1 locs1 → W p l e R s m args below meth c H1 locs1 cells slots Q (F0 m (pc + 3) ls (out.1.toList ++ rest))) : W p l e R s m args below meth c H locs cells slots Q (F0 m pc ls st) :=
  u_run (y := y) (As := As) (sz := H.size) (va_runS (rest := rest) C (hM H.size) (va_cwS n C.2.2.2.2 hG hw hrc hrs hd hR) ⟨u_blind hU H.size, fun U hUh hW => ⟨rfl, by rw [hUh], by rw [hUh]; exact hP, hU.2.1 s U H locs hK hS hUh hW⟩⟩ rfl hn hls hst (lv_room hrest) hdg hroom) rfl hU hS kk
end UW
