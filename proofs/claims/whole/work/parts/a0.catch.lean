/-! ===== an exception caught by the one row of the method's own table ===== -/
theorem cx_go {Q : Handler → Pre} {E : CtlPost} {e : Env} {d : Bool} {acts : List Action} {S : State} {f : JFrame} {a : Addr} {x : ExceptionTableEntry} {t : List ExceptionTableEntry} {k : ClassId} {cell : Cell} (hx : covers x f.pc = true) (h0 : x.catchType ≠ 0)
    (hl : S.vm.ClassLinks e.platform f.method.cls x.catchType k) (hcell : S.heap[a]? = some cell) (hobj : ∀ j, cell.vm ≠ .statics j)
    (h1 : ∃ z, S.vm.classes[cell.cls]? = some z) (h2 : ∃ z, S.vm.classes[k]? = some z) (hfit : S.vm.assignable cell.cls k = true) :
    wp (findHandler.go f a (x :: t)) Q E e d acts S ↔ Q (.found x.handlerPc) d acts (S.setVm (S.vm.noted f.method.cls x.catchType (.cls k))) := by
  simp only [covers] at hx
  obtain ⟨q1, q2⟩ := (resolveClass_links e.toSetting hl).op (op := VmOp.resolveClass f.method.cls x.catchType) rfl
  have hal : S.vm.Alike (S.vm.noted f.method.cls x.catchType (.cls k)) := (Vm.Alike.refl S.vm).noted _ _ _
  obtain ⟨z1, e1⟩ := h1
  obtain ⟨z2, e2⟩ := h2
  obtain ⟨w1, g1, -⟩ := hal.2.2 _ _ e1
  obtain ⟨w2, g2, -⟩ := hal.2.2 _ _ e2
  have hf : (S.vm.noted f.method.cls x.catchType (.cls k)).assignable cell.cls k = true := by rw [hal.assignable]; exact hfit
  simp [findHandler.go, hx, h0, q1, q2, hcell, hobj, g1, g2, hf, VmOp.dirties, VmOp.acts]
section CX
variable {p : Program} {l : Launch} {e : Env} {R : Room} {s : State} {m : MethodId} {args : Array Value} {below : List Frame} {meth : Method} {c : Code} {H : Heap} {locs : List Loc} {cells slots : Nat} {Q : State → Prop} {pc : Nat} {ls : Array Slot} {rest : List Value}
theorem cx_catch {own name E : String} {ce : Cell} {q : Addr} (hown : s.vm.findClass own = some m.cls) (x : ExceptionTableEntry) (suf : List ExceptionTableEntry) (htab : c.exceptionTable.toList = x :: suf) (hx : covers x pc = true) (h0 : x.catchType ≠ 0)
    (hlink : (Cond.classLink own x.catchType name).before args s = true) (hcast : (Cond.castable E name).before args s = true) (hcell : H[q]? = some ce) (hv : ce.vm = .none) (hcl : s.vm.findClass E = some ce.cls)
    (kk : W p l e R s m args below meth c H locs cells slots Q (F0 m x.handlerPc ls [.ref q])) : vx_W p l e R s m args below meth c H locs cells slots Q (F0 m pc ls rest) q := by
  intro T hT X
  have hpl : e.platform.magicAccessors = ({} : Platform).magicAccessors := by rw [X.admits.platform]
  obtain ⟨c3, c4, hc3, hc4, hasg⟩ := Cond.castable_spec hcast
  cases Option.some.inj (hc3.symm.trans hcl)
  obtain ⟨c5, hc5, hl5⟩ := Cond.classLink_spec hown hlink e.platform hpl
  cases Option.some.inj (hc4.symm.trans hc5)
  obtain ⟨dk, _, _, kt, hd, _, _, _, _, hkt, _, hopen⟩ := hl5.here
  have hW' : s.WarmedH (T.vm.noted m.cls x.catchType (.cls c4)) := X.warmed.noted hd hopen (State.rightAt_cls hl5)
  obtain ⟨kt', hkt', -⟩ := X.warmed.alike.2.2 _ _ hkt
  have hfit : T.vm.assignable ce.cls c4 = true := by rw [X.warmed.alike.assignable]; exact hasg
  obtain ⟨t, a1, b1⟩ := kk (T.setVm (T.vm.noted m.cls x.catchType (.cls c4))) hT (X.noted hW')
  refine ⟨t, ?_, b1⟩
  have hfind : ∀ (Q : Handler → Pre) (E : CtlPost) (d : Bool) (acts : List Action), wp (findHandler (F0 m pc ls rest) q) Q E e d acts ((T.setTop (F0 m pc ls rest)).pushFrame (.throwing q)) ↔ Q (.found x.handlerPc) d acts (((T.setTop (F0 m pc ls rest)).pushFrame (.throwing q)).setVm (T.vm.noted m.cls x.catchType (.cls c4))) := by
    intro Q E d acts
    rw [Jvm.W.findHandler_eq (meth := meth) (code := c) X.method' X.code, htab]
    exact cx_go (S := (T.setTop (F0 m pc ls rest)).pushFrame (.throwing q)) (f := F0 m pc ls rest) (cell := ce) hx h0 (X.warmed.classLinks hl5) (by show T.heap[q]? = some ce; rw [hT]; exact hcell) (VmData.ne_statics_of (by rw [hv]; rfl)) (Vm.classAt_of_assignable hfit ⟨kt', hkt'⟩) ⟨kt', hkt'⟩ hfit
  obtain ⟨hgo, hw⟩ := At.throwing (g := F0 m pc ls rest) X.here q
  refine Steps.head hgo hw ?_
  have hst : ∀ r : List Frame, (stepThrowing e ((T.setTop (F0 m pc ls rest)).pushFrame (.throwing q)) q (.java (F0 m pc ls rest) :: r)).Is ((((T.setTop (F0 m pc ls rest)).pushFrame (.throwing q)).setVm (T.vm.noted m.cls x.catchType (.cls c4))).setFrames (.java { (F0 m pc ls rest) with pc := x.handlerPc, stack := [.ref q] } :: r)) [] := by
    intro r
    simp only [stepThrowing, searchFrame, vmDo]
    generalize hr : Sem.go _ e false [] _ = res
    obtain ⟨as, rfl, ha⟩ := Sem.eq_ok_of hr (a := Handler.found x.handlerPc) (s' := ((T.setTop (F0 m pc ls rest)).pushFrame (.throwing q)).setVm (T.vm.noted m.cls x.catchType (.cls c4))) (acts' := []) (by simp [hfind _ _ _ _])
    exact ⟨rfl, ha⟩
  rw [stepThread_throwing (frames_entered X.here.top _), (hst _).1]
  obtain ⟨g₀, hg⟩ := Option.isSome_iff_exists.mp X.here.top
  obtain ⟨r, hr⟩ := State.topJava?_eq_some.mp hg
  have hr' : (T.setVm (T.vm.noted m.cls x.catchType (.cls c4))).frames = .java g₀ :: r := hr
  have a1' : Steps p.tables e below ((T.setVm (T.vm.noted m.cls x.catchType (.cls c4))).setTop (F0 m x.handlerPc ls [.ref q])) t := a1
  rw [State.setTop_of_frames _ hr'] at a1'
  have key : ∀ (u : State) (vm' : Vm) (F G : List Frame), ((u.setFrames F).setVm vm').setFrames G = (u.setVm vm').setFrames G := by
    intro u vm' F G
    have h1 : (u.setFrames F).setVm vm' = (u.setVm vm').setFrames F := rfl
    rw [h1, State.setFrames_setFrames]
  rw [hr, List.tail_cons, State.pushFrame, key, State.setTop_of_frames _ hr, key]
  exact a1'
end CX
/-! ===== a call by a contract of ours from anywhere: what it leaves alone ===== -/
section U2
variable {p : Program} {l : Launch} {e : Env} {R : Room} {s : State} {m : MethodId} {args : Array Value} {below : List Frame} {meth : Method} {c : Code} {H : Heap} {locs : List Loc} {cells slots : Nat} {Q : State → Prop}
variable {cc : ByteArray} {pc : Nat} {ls : Array Slot} {rest : List Value} {D : va_G} {wf : St → va_W} {Kx : State → Prop} {AA : Nat → Nat → Prop} {A0 : Nat → Prop} {H0 : Heap}
variable {y : MethodName} {ws ws' : List Cond} {rm : Room} {As : List Value} {S : St} {out : Option Value × St} {bytes : ByteArray} {maxL nL n index : Nat} {ret : Option FieldType} {Ts : List Cond} {own Cn : String} {b : Nat}
theorem u_callV2 (hM : uM l y ws rm Kx D wf AA (.ref b :: As) S out) (C : CallFix p m c cc nL s args Ts own) (hU : uK AA Kx) (hG : GoodIn Ts (wsV own index Cn y ws)) (hw : ws = Cond.code y bytes maxL ret :: ws') (hrc : rm.cells = 0) (hrs : rm.slots = 0)
    (hd : y.cls = Cn ∧ y.cls ≠ "java/lang/invoke/MethodHandle" ∧ y.cls ≠ "java/lang/invoke/VarHandle" ∧ (parseMethodDescriptor y.desc).map (fun d => d.parameters.length) = some n) (hR : rm.frames + 1 ≤ R.frames ∧ 8 + (maxL + 11) + rm.locals ≤ R.locals)
    (hn : As.length = n) (hrecv : ∃ cellB : Cell, H[b]? = some cellB ∧ cellB.vm.isStatics = false ∧ s.vm.findClass Cn = some cellB.cls) (hK : ∀ U : State, U.heap = H → s.WarmedH U.vm → Kx U) (hP : va_P D vwCl (wf S) H) (hS : va_S A0 H0 H locs) (hA : ∀ q, AA H.size q → A0 q) (hls : ls.size = nL) (hrest : (rest.map fun v => v.category).sum ≤ 8) (hdg : decode cc pc = .ok (.invokevirtual index, 3))
    (hroom : cells ≤ R.cells ∧ slots ≤ R.slots) {st : List Value} (hst : st = As.reverse ++ .ref b :: rest)
    (kk : ∀ (H1 : Heap) (locs1 : List Loc), va_P D vwCl (wf out.2) H1 → H.size ≤ H1.size → (∀ q : Nat, q < H.size → ¬ AA H.size q → H1[q]? = H[q]?) → va_S A0 H0 H1 locs1 → W p l e R s m args below meth c H1 locs1 cells slots Q (F0 m (pc + 3) ls (out.1.toList ++ rest))) : W p l e R s m args below meth c H locs cells slots Q (F0 m pc ls st) := by
  have hr := va_runV (rest := rest) (cells := cells) (slots := slots) (locs := locs) (meth := meth) (below := below) (e := e) C (hM H.size) (cwV n C.2.2.2.2 hG hw hrc hrs hd hR) ⟨u_blind hU H.size, hrecv, fun U hUh hW => ⟨rfl, by rw [hUh], by rw [hUh]; exact hP, hK U hUh hW⟩⟩ (g := F0 m pc ls st) rfl hn hls hst (lv_room hrest) hdg hroom
  intro T hT X
  obtain ⟨v, st₀, t, T', L, h0, X', hL, e1, e2, ⟨hv, hp, hz, hk⟩, st⟩ := hr T hT X
  cases hv
  rw [h0] at hz hk
  obtain ⟨t2, a1, b1⟩ := kk T'.heap (locs ++ L) (by rw [e1]; exact hp) (by rw [e1]; exact hz) (fun q h1 h2 => by rw [e1]; exact hk q h1 h2)
    ⟨Nat.le_trans hS.1 (by rw [e1]; exact hz), fun q h1 h2 => by rw [e1, hk q (Nat.lt_of_lt_of_le h1 hS.1) (fun z => h2 (hA q z))]; exact hS.2.1 q h1 h2, fun q hq => by
      rcases List.mem_append.mp hq with h | h
      · exact hS.2.2 q h
      · exact hA _ (hL q h)⟩ T' rfl X'
  exact ⟨t2, st t2 a1, b1⟩
end U2
/-! ===== what the throws stand on ===== -/
abbrev nIB : String := "java/lang/IndexOutOfBoundsException"
abbrev nIA : String := "java/lang/IllegalArgumentException"
abbrev nSup : List String := ["java/lang/RuntimeException", "java/lang/Exception"]
abbrev yI0 (C : String) : MethodName := ⟨C, "<init>", "()V"⟩
def EX (A : Nat → Prop) (U : State) (H : Heap) : Prop := vx_Zq Bundle.tN "UNASSIGNED_STACK" Bundle.steD A U H ∧ vx_Zq Bundle.tN "SUPPRESSED_SENTINEL" Bundle.listD A U H ∧ va_Nw (.castable nIB nIB) U ∧ va_Nw (.castable nIA nIA) U ∧ va_Nw (.declares (yI0 "java/lang/RuntimeException")) U ∧ va_Nw (.declares (yI0 "java/lang/Exception")) U ∧ va_Nw (.declares (yI0 "java/lang/Throwable")) U
theorem EX.warm {A : Nat → Prop} {s U : State} {H : Heap} (hW : s.WarmedH U.vm) (h : EX A s H) : EX A U H :=
  ⟨h.1.moved hW.alike, h.2.1.moved hW.alike, va_Nw.warmC hW h.2.2.1, va_Nw.warmC hW h.2.2.2.1, va_Nw.warmD hW h.2.2.2.2.1, va_Nw.warmD hW h.2.2.2.2.2.1, va_Nw.warmD hW h.2.2.2.2.2.2⟩
theorem EX.kept {A : Nat → Prop} {U : State} {H H1 : Heap} (h : EX A U H) (hq : ∀ a : Nat, a < H.size → ¬ A a → H1[a]? = H[a]?) : EX A U H1 := ⟨h.1.kept hq, h.2.1.kept hq, h.2.2⟩
theorem EX.narrow {A B : Nat → Prop} {U : State} {H : Heap} (h : EX A U H) (hAB : ∀ q, B q → A q) : EX B U H := ⟨h.1.narrow hAB, h.2.1.narrow hAB, h.2.2⟩
theorem EX.same {A : Nat → Prop} {u U : State} {H : Heap} (hv : u.vm = U.vm) (h : EX A u H) : EX A U H := EX.warm (by rw [← hv]; exact State.WarmedH.refl u) h
