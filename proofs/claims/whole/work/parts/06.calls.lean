/-! contracts whose end may be an answer or an exception, and calls by them -/
section JK
variable {l : Launch}
/-- the frame of an end, whatever it is -/
def jFE (first : State) (t : State) (L : List Loc) (k n : Nat) : Prop := first.WarmedH t.vm ∧ first.sameButNew ({ t with vm := first.vm } : State) L k n
def jMet (l : Launch) (y : MethodName) (ws : List Jvm.Cond) (rm : Room) (Pc : Array Value → State → Prop) (Qc : Array Value → State → Outcome → State → Prop) (mc ms : Nat) (free : Addr → Prop) : Prop :=
  MetFree l y (headSpec ws rm) Pc (fun _ _ _ _ _ => True) (fun a st o t => Qc a st o t ∧ ∃ L, jFE st t L mc ms ∧ ∀ q ∈ L, free q.base)
def jMQ (below : List Frame) (Qc : Array Value → State → Outcome → State → Prop) (a : Array Value) (s : State) (mc ms : Nat) (free : Addr → Prop) : State → Prop := fun t =>
  ∃ o, t.status = .running ∧ Ended t below o ∧ Qc a s o t ∧ ∃ L, jFE s t L mc ms ∧ ∀ q ∈ L, free q.base
theorem W.jmono {p : Program} {e : Env} {R : Room} {s : State} {m : MethodId} {args : Array Value} {below : List Frame} {meth : Method} {c : Code} {H : Heap} {locs : List Loc} {cells slots : Nat} {Q Q' : State → Prop} {g : JFrame}
    (h : ∀ t, Q t → Q' t) (k : W p l e R s m args below meth c H locs cells slots Q g) : W p l e R s m args below meth c H locs cells slots Q' g := fun T hT X => by
  obtain ⟨t, a, b⟩ := k T hT X
  exact ⟨t, a, h t b⟩
theorem jMQ_of {below : List Frame} {Qc : Array Value → State → Outcome → State → Prop} {a : Array Value} {s : State} {mc ms : Nat} {free : Addr → Prop} {t : State} (h : MQ below Qc a s mc ms free t) : jMQ below Qc a s mc ms free t := by
  obtain ⟨o, h1, h2, h3, L, h4, h5⟩ := h
  exact ⟨o, h1, h2, h3, L, ⟨h4.2.1, h4.2.2⟩, h5⟩
/-- what a callee is: its code by either word -/
def jCode (y : MethodName) (bytes : ByteArray) (maxL : Nat) (ret : Option FieldType) (hh : List (Nat × Nat × Nat × Nat)) : Jvm.Cond := if hh = [] then .code y bytes maxL ret else .codeWith y bytes maxL ret hh
theorem jCode_spec {y : MethodName} {bytes : ByteArray} {maxL : Nat} {ret : Option FieldType} {hh : List (Nat × Nat × Nat × Nat)} {args : Array Value} {s : State} {m : MethodId} (hn : s.methodNamed? y = some m) (h : (jCode y bytes maxL ret hh).before args s = true) :
    ∃ meth c, s.vm.method? m = some meth ∧ meth.code = some c ∧ c.code = bytes ∧ c.maxLocals = maxL ∧ meth.sig.returnType = ret ∧ meth.locks = false ∧ c.exceptionTable.toList.map (fun h => (h.startPc, h.endPc, h.handlerPc, h.catchType)) = hh ∧ parseMethodDescriptor y.desc = some meth.sig := by
  unfold jCode at h
  split at h
  · rename_i e
    subst e
    obtain ⟨meth, c, h1, h2, h3, h4, h5, h6, h7, h8⟩ := Cond.code_spec hn h
    refine ⟨meth, c, h1, h2, h3, h4, h5, h6, ?_, h8⟩
    have : c.exceptionTable.toList = [] := by simpa using h7
    rw [this]
    rfl
  · obtain ⟨m9, meth, c, hn9, h1, h2, h3, h4, h5, h6, h7, h8⟩ := Cond.codeWith_spec h
    cases hn.symm.trans hn9
    exact ⟨meth, c, h1, h2, h3, h4, h6, h7, h5, h8⟩
end JK
section JI
variable {l : Launch} {R : Room} {p : Program} {e : Env} {below : List Frame} {s : State} {sargs : Array Value} {m : MethodId} {meth : Method} {c : Code}
/-- the caller's state behind a call: heap and tables are the callee's -/
def jaft (U t : State) : State := ({ U with heap := t.heap, slotsUsed := t.slotsUsed } : State).setVm t.vm
theorem jaft_frames {U t : State} {g : JFrame} {mk : MethodId} {a : Array Value} {L : List Loc} {k n : Nat} (h : U.topJava?.isSome) (hF : jFE (U.calling g mk a) t L k n) : (jaft U t).setFrames t.frames = t := by
  have h1 := congrArg (fun z : State => z.setVm t.vm) hF.2.1
  refine Eq.trans ?_ (show _ = t from h1.symm)
  show (jaft U t).setFrames t.frames = ({ (U.calling g mk a).setFrames t.frames with heap := t.heap, slotsUsed := t.slotsUsed } : State).setVm t.vm
  rw [State.calling_eq h, State.setFrames_setFrames]
  rfl
theorem jaft_stand {U t : State} {Ls L : List Loc} {c0 s0 k n : Nat} {g : JFrame} {mk : MethodId} {a : Array Value} (X : Stand p l e R s m sargs below meth c U Ls c0 s0) (hF : jFE (U.calling g mk a) t L k n) :
    Stand p l e R s m sargs below meth c (jaft U t) (Ls ++ L) (c0 + k) (s0 + n) := by
  obtain ⟨g0, hfr⟩ := X.frames_eq
  obtain ⟨th, hth, -⟩ := State.frames_cons hfr
  have hW : U.WarmedH t.vm := hF.1
  have h1 : U.sameButNew ({ U with heap := t.heap, slotsUsed := t.slotsUsed } : State) L k n :=
    ⟨(congrArg (fun z : State => ({ z with heap := t.heap, slotsUsed := t.slotsUsed } : State)) (State.setFrames_self hth)).symm, hF.2.2⟩
  exact { X with here := (X.here.setHeapUsed t.heap t.slotsUsed).setVm hW.alike, warmed := State.WarmedH.trans X.warmed hW, same := X.same.trans (h1.setVm s.vm) }
theorem jinv {y : MethodName} {ws : List Jvm.Cond} {rm : Room} {Pc : Array Value → State → Prop} {Qc : Array Value → State → Outcome → State → Prop} {mc ms : Nat} {free : Addr → Prop} {bytes : ByteArray} {maxL : Nat} {ret : Option FieldType} {hh : List (Nat × Nat × Nat × Nat)} {len Wt : Nat}
    (hM : jMet l y ws rm Pc Qc mc ms free) (hblind : FrameBlind Pc) (hrc : rm.cells = mc) (hrs : rm.slots = ms) (hframes : rm.frames + 1 ≤ R.frames) (hlocals : Wt + (maxL + 11) + rm.locals ≤ R.locals)
    (hws : ∀ w ∈ ws, ∀ (a' : Array Value) (U : State), s.WarmedH U.vm → w.before a' U = true) (hcode : jCode y bytes maxL ret hh ∈ ws) (hini : ∀ (a' : Array Value) (U : State), s.WarmedH U.vm → (Jvm.Cond.initialized y.cls).before a' U = true)
    {U : State} {Ls : List Loc} {c0 s0 : Nat} (X : Stand p l e R s m sargs below meth c U Ls c0 s0) {g : JFrame} (hg : g.method = m) (hsize : g.locals.size = c.maxLocals) {ig : Instr} (hdg : decode c.code g.pc = .ok (ig, len)) (hW : 2 * g.monitorRoom + (g.stack.map fun v => v.category).sum ≤ Wt)
    {mk : MethodId} (hn : U.methodNamed? y = some mk) (hc : c0 + mc ≤ R.cells) (hs : s0 + ms ≤ R.slots) {a : Array Value} (hPc : Pc a U) :
    ∃ (o : Outcome) (t T' : State) (L : List Loc), Stand p l e R s m sargs below meth c T' (Ls ++ L) (c0 + mc) (s0 + ms) ∧ (∀ q ∈ L, free q.base) ∧ T'.heap = t.heap ∧ T'.vm = t.vm ∧ Qc a (U.calling g mk a) o t ∧
      ((∃ v, o = .returned v ∧ Steps p.tables e below (doInvoke e (U.setTop g) [] mk a).1 (T'.setTop { g with pc := g.pc + len, stack := v.toList ++ g.stack })) ∨
       (∃ x, o = .threw x ∧ Steps p.tables e below (doInvoke e (U.setTop g) [] mk a).1 ((T'.setTop g).pushFrame (.throwing x)))) := by
  subst hg
  obtain ⟨methY, cY, y1, y2, -, y3, -⟩ := jCode_spec hn (hws _ hcode a U X.warmed)
  obtain ⟨kY, y4, -⟩ := className_of_methodNamed hn
  obtain ⟨g0, hfr⟩ := X.frames_eq
  have hroom := X.room_calling (g := g) (args' := a) (R' := rm) hsize y1 y2 hframes (by rw [y3]; omega) (by omega) (by omega)
  have happ := Spec.appliesLoose_calling (S := headSpec ws rm) (args := a) X.here hdg hn y4 (Cond.initialized_spec (findClass_of_methodNamed hn) y4 (hini a U X.warmed)) hroom (atoms_intro fun w hw => hws w hw _ _ X.warmed)
  obtain ⟨o, t, hgo, -, hend, hq, L, hF, hL⟩ := Steps.callFree hM p X.admits X.cas X.clock (acts := []) (mid := [.java g]) (State.frames_setTop g hfr) happ (hblind _ _ _ _ hPc) trivial
  have hT := jaft_stand X hF
  have ht := jaft_frames X.here.top hF
  have hset : ∀ g', (jaft U t).setTop g' = (jaft U t).setFrames (.java g' :: below) := fun g' => State.setTop_of_frames g' (show (jaft U t).frames = .java g0 :: below from hfr)
  rw [State.frames_setTop g hfr] at hend
  refine ⟨o, t, jaft U t, L, hT, hL, rfl, rfl, hq, ?_⟩
  cases o with
  | returned v =>
    obtain ⟨c', i', n', e1, e2, e3⟩ := hend
    cases (show t.code? g.method = some c from hT.here.code).symm.trans e1
    cases hdg.symm.trans e2
    refine Or.inl ⟨v, rfl, ?_⟩
    rw [hset, ← e3, ht]
    exact hgo
  | threw x =>
    refine Or.inr ⟨x, rfl, ?_⟩
    rw [State.pushFrame, State.frames_setTop g (show (jaft U t).frames = .java g0 :: below from hfr), hset, State.setFrames_setFrames, ← (show t.frames = _ from hend), ht]
    exact hgo
end JI
section JN
variable {p : Program} {l : Launch} {e : Env} {R : Room} {s : State} {m : MethodId} {args : Array Value} {below : List Frame} {meth : Method} {c : Code} {T : State} {locs : List Loc} {cells slots : Nat}
/-- the word that calls has been done: the callee stands before its entry -/
def jInvk (p : Program) (l : Launch) (e : Env) (R : Room) (s : State) (m : MethodId) (args : Array Value) (below : List Frame) (meth : Method) (c : Code) (T : State) (locs : List Loc) (cells slots : Nat) (g : JFrame) (rest : List Value) (y : MethodName) (av : Array Value) : Prop :=
  ∃ (mk : MethodId) (vm₁ : Vm), s.WarmedH vm₁ ∧ (T.setVm vm₁).methodNamed? y = some mk ∧ Stand p l e R s m args below meth c (T.setVm vm₁) locs cells slots ∧
    ∀ target, Steps p.tables e below (doInvoke e ((T.setVm vm₁).setTop { g with stack := rest }) [] mk av).1 target → Steps p.tables e below (T.setTop g) target
/-- the method that is chosen on an object of class C, by the word -/
theorem jy_sel (X : Stand p l e R s m args below meth c T locs cells slots) {C : String} {cX : ClassId} {y : MethodName} {mk : MethodId} (hC : s.vm.findClass C = some cX) (hy : s.methodNamed? y = some mk)
    (hn : y.cls ≠ "java/lang/invoke/MethodHandle" ∧ y.cls ≠ "java/lang/invoke/VarHandle") (hw : (Jvm.Cond.selects C y y).before args s = true) : selectMethod e.platform s.vm cX mk = .method mk := by
  obtain ⟨cA, mA, mB, r1, r2, r3, r4, -⟩ := Cond.selects_spec hw
  cases hC.symm.trans r1
  cases (State.methodFound?_of_named hy hn).symm.trans r2
  cases hy.symm.trans r3
  exact (Launch.admits_selectMethod X.admits ..).trans r4
theorem jInvkV (X : Stand p l e R s m args below meth c T locs cells slots) (hexec : p.tables.exec = Jvm.exec) {own C : String} {index : Nat} {y : MethodName}
    (hown : s.vm.findClass own = some m.cls) (hlink : (Jvm.Cond.methodLink own index y).before args s = true) (hinst : (Jvm.Cond.instanceMethod y).before args s = true) (hsel : (Jvm.Cond.selects C y y).before args s = true)
    (hy : y.cls ≠ "java/lang/invoke/MethodHandle" ∧ y.cls ≠ "java/lang/invoke/VarHandle") (hsig : ∀ mk methM, s.methodNamed? y = some mk → s.vm.method? mk = some methM → parseMethodDescriptor y.desc = some methM.sig)
    {b : Addr} {cellB : Cell} (hcell : T.heap[b]? = some cellB) (hobj : cellB.vm.isStatics = false) (hcls : s.vm.findClass C = some cellB.cls)
    {g : JFrame} (hg : g.method = m) {argsL rest : List Value} (hlen : ∀ sig, parseMethodDescriptor y.desc = some sig → argsL.length = sig.parameters.length)
    (hstack : g.stack = argsL.reverse ++ .ref b :: rest) (hdg : decode c.code g.pc = .ok (.invokevirtual index, 3)) : jInvk p l e R s m args below meth c T locs cells slots g rest y (Value.ref b :: argsL).toArray := by
  obtain ⟨mk, my, n1, n2, n3, n4⟩ := Cond.instanceMethod_spec hinst
  obtain ⟨-, -, mB, -, -, r3, -, k, k1, k2⟩ := Cond.selects_spec hsel
  cases n1.symm.trans r3
  obtain ⟨vm1, X1, go⟩ := X.invokevirtual hexec hown hlink n1 n2 n3 k1 k2 hy hcell (VmData.ne_statics_of hobj) (jy_sel X hcls n1 hy hsel) n2 n4 k1 k2 hg (hlen _ (hsig mk my n1 n2)) hstack hdg
  exact ⟨mk, vm1, X1.warmed, X1.named n1, X1, fun u h => go _ fun _ => by rw [doInvoke_state]; exact h⟩
theorem jInvkS (X : Stand p l e R s m args below meth c T locs cells slots) (hexec : p.tables.exec = Jvm.exec) {own : String} {index : Nat} {y : MethodName} {mk : MethodId} {methM : Method}
    (hown : s.vm.findClass own = some m.cls) (hlink : (Jvm.Cond.methodLink own index y).before args s = true) (hstat : (Jvm.Cond.static y).before args s = true) (hinit : (Jvm.Cond.initialized y.cls).before args s = true)
    (hy : y.cls ≠ "java/lang/invoke/MethodHandle" ∧ y.cls ≠ "java/lang/invoke/VarHandle") (hnamed : s.methodNamed? y = some mk) (hmethM : s.vm.method? mk = some methM) (hsigM : parseMethodDescriptor y.desc = some methM.sig)
    {g : JFrame} (hg : g.method = m) {argsL rest : List Value} (hlen : ∀ sig, parseMethodDescriptor y.desc = some sig → argsL.length = sig.parameters.length)
    (hstack : g.stack = argsL.reverse ++ rest) (hdg : decode c.code g.pc = .ok (.invokestatic index, 3)) : jInvk p l e R s m args below meth c T locs cells slots g rest y argsL.toArray := by
  obtain ⟨k, k1, -⟩ := className_of_methodNamed hnamed
  obtain ⟨vm1, X1, go⟩ := X.invokestatic hexec hown hlink hnamed hmethM (Cond.static_spec hnamed hmethM hstat) k1 (Cond.initialized_spec (findClass_of_methodNamed hnamed) k1 hinit) hy hg (hlen _ hsigM) hstack hdg
  exact ⟨mk, vm1, X1.warmed, X1.named hnamed, X1, fun u h => go _ fun _ => by rw [doInvoke_state]; exact h⟩
theorem jInvkI (X : Stand p l e R s m args below meth c T locs cells slots) (hexec : p.tables.exec = Jvm.exec) {own : String} {index : Nat} {y : MethodName} {bytes : ByteArray} {maxL : Nat}
    (hown : s.vm.findClass own = some m.cls) (hy1 : y.name = "<init>") (hlink : (Jvm.Cond.methodLink own index y).before args s = true) (hinst : (Jvm.Cond.instanceMethod y).before args s = true)
    (hcode : (Jvm.Cond.code y bytes maxL none).before args s = true) (hy : y.cls ≠ "java/lang/invoke/MethodHandle" ∧ y.cls ≠ "java/lang/invoke/VarHandle")
    {g : JFrame} (hg : g.method = m) {a : Addr} {argsL rest : List Value} (hlen : ∀ sig, parseMethodDescriptor y.desc = some sig → argsL.length = sig.parameters.length)
    (hstack : g.stack = argsL.reverse ++ .ref a :: rest) (hdg : decode c.code g.pc = .ok (.invokespecial index, 3)) : jInvk p l e R s m args below meth c T locs cells slots g rest y (Value.ref a :: argsL).toArray := by
  subst hg
  obtain ⟨mk, -, -, -, vm1, n1, -, -, -, -, -, -, -, hW, go⟩ := Steps.initColdArgs X.here hexec X.warmed (by rw [X.admits.platform]) hown hy1 hy hlink hinst hcode rfl hlen hstack hdg
  exact ⟨mk, vm1, hW, (X.noted hW).named n1, X.noted hW, fun u h => go _ fun _ => by rw [doInvoke_state]; exact h⟩
end JN
