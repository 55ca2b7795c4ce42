/-! ends, and contracts out of walks -/
section JF
variable {p : Program} {l : Launch} {e : Env} {R : Room} {s : State} {m : MethodId} {args : Array Value} {below : List Frame} {meth : Method} {c : Code} {H : Heap} {locs : List Loc} {cells slots : Nat} {Q : State → Prop}
variable {D : va_G} {cl : List vw_C} {tys : List (ClassId × FieldType)} {α : Nat → Nat} {dA : FieldType → ClassId} {K sz : Nat} {SP : State → Prop} {TB : List Jvm.Cond} {hd0 : jH} {T : jT}
theorem jMet.ofC {y : MethodName} {ws ws' : List Jvm.Cond} {rm : Room} {Pc : Array Value → State → Prop} {Qc : Array Value → State → Outcome → State → Prop} {mc ms : Nat} {free : Addr → Prop} {cc : ByteArray} {maxL : Nat} {ret : Option FieldType} {hh : List (Nat × Nat × Nat × Nat)}
    (hy : plainFor y = true) (hw : ws = jCode y cc maxL ret hh :: ws')
    (body : ∀ p e s m args below meth c s₁, BodyLoose p l y (headSpec ws rm) cc maxL ret e s m args below meth c s₁ → c.maxLocals = maxL → c.exceptionTable.toList.map (fun h => (h.startPc, h.endPc, h.handlerPc, h.catchType)) = hh → Pc args s →
      W p l e (headSpec ws rm).room s m args below meth c s.heap [] 0 0 (jMQ below Qc args s mc ms free) (entryFrame m args maxL)) : jMet l y ws rm Pc Qc mc ms free := by
  have hcd : ∀ {av : Array Value} {u : State}, (headSpec ws rm).pre.before av u = true → (jCode y cc maxL ret hh).before av u = true := fun h => atoms_spec h _ (hw ▸ List.mem_cons_self)
  refine MetFree.of_bodySF (code := cc) (maxLocals := maxL) (ret := ret) hy (fun av u mk h hn => ?_) (fun p e s m args below meth c s₁ B hml hP _ => ?_)
  · obtain ⟨my, cy, y1, y2, y3, y4, y5, y6, -, -⟩ := jCode_spec hn (hcd h)
    exact ⟨my, cy, y1, y2, y3, y4, y5, y6⟩
  · obtain ⟨my, cy, y1, y2, -, -, -, -, y7, -⟩ := jCode_spec B.named (hcd B.pre)
    have X := Stand.of_body B
    cases B.method.symm.trans y1
    cases X.code.symm.trans y2
    obtain ⟨t, hgo, o, r1, r2, r3, r4⟩ := body p e s m args below meth c s₁ B hml y7 hP s₁ (by rw [B.state]; rfl) X
    exact ⟨t, o, hgo, r1, r2, r3, r4⟩
theorem jInvkIN {U : State} (X : Stand p l e R s m args below meth c U locs cells slots) (hexec : p.tables.exec = Jvm.exec) {own host : String} {index : Nat} {y : MethodName} {bytes : ByteArray} {maxL : Nat}
    (hown : s.vm.findClass own = some m.cls) (hy1 : y.name = "<init>") (hlink : (Jvm.Cond.methodLinkNest own index y host).before args s = true) (hinst : (Jvm.Cond.instanceMethod y).before args s = true)
    (hcode : (Jvm.Cond.code y bytes maxL none).before args s = true) (hy : y.cls ≠ "java/lang/invoke/MethodHandle" ∧ y.cls ≠ "java/lang/invoke/VarHandle")
    {g : JFrame} (hg : g.method = m) {a : Addr} {argsL rest : List Value} (hlen : ∀ sig, parseMethodDescriptor y.desc = some sig → argsL.length = sig.parameters.length)
    (hstack : g.stack = argsL.reverse ++ .ref a :: rest) (hdg : decode c.code g.pc = .ok (.invokespecial index, 3)) : jInvk p l e R s m args below meth c U locs cells slots g rest y (Value.ref a :: argsL).toArray := by
  subst hg
  obtain ⟨mk, -, -, -, vm1, n1, -, -, -, -, -, -, -, hW, go⟩ := Steps.initColdArgsNest X.here hexec X.warmed (by rw [X.admits.platform]) hown hy1 hy hlink hinst hcode rfl hlen hstack hdg
  exact ⟨mk, vm1, hW, (X.noted hW).named n1, X.noted hW, fun u h => go _ fun _ => by rw [doInvoke_state]; exact h⟩
/-- what a walk owes at its end -/
def jFin (D : va_G) (cl : List vw_C) (α : Nat → Nat) (dA : FieldType → ClassId) (K sz : Nat) (p : Program) (l : Launch) (e : Env) (R : Room) (s : State) (m : MethodId) (args : Array Value) (below : List Frame) (meth : Method) (c : Code) (bytes : ByteArray) (ret : Option FieldType) (n0 t0 : Nat) (Q : State → Prop) (v : Option Value) (h' : jH) : Prop :=
  ∀ (i : Instr) (len pc : Nat) (st : List Value) (ls : Array Slot) (H : Heap) (locs : List Loc), jend ret i len st = some v → decode bytes pc = .ok (i, len) → jRel D cl α dA K sz h' s H locs →
    W p l e R s m args below meth c H locs (h'.length - n0) (jtot h' - t0) Q (F0 m pc ls (st.map (jx_V α)))
def jFinT (D : va_G) (cl : List vw_C) (α : Nat → Nat) (dA : FieldType → ClassId) (K sz : Nat) (p : Program) (l : Launch) (e : Env) (R : Room) (s : State) (m : MethodId) (args : Array Value) (below : List Frame) (meth : Method) (c : Code) (n0 t0 : Nat) (Q : State → Prop) (a : Nat) (h' : jH) : Prop :=
  ∀ (pc : Nat) (st : List Value) (ls : Array Slot) (H : Heap) (locs : List Loc), c.exceptionTable.toList = [] → jRel D cl α dA K sz h' s H locs →
    WT p l e R s m args below meth c H locs (h'.length - n0) (jtot h' - t0) Q (F0 m pc ls st) (α a)
/-- at a method's end the picture holds -/
theorem jB_end (hα : ∀ j, α (K + j) = sz + j) (hSPm : ∀ (u U : State), u.WarmedH U.vm → (∀ q : Nat, q < sz → U.heap[q]? = u.heap[q]?) → SP u → SP U) (hsz : sz ≤ s.heap.size) (hK : va_K D cl tys s) (hSP : SP s) {h' : jH} (hR : jRel D cl α dA K sz h' s H locs) (hub : H.size ≤ sz + (h'.length - K)) {t : State} (ht : t.heap = H) (hW : s.WarmedH t.vm) :
    jB D cl tys α dA K sz SP h' t ∧ va_F (fun q => sz ≤ q) s t := by
  refine ⟨⟨hR.1, by rw [ht]; exact hR.size hα hsz hub, by rw [ht]; exact hR.2.1, va_K.moved hW.alike hK, hSPm s t hW (fun q hq => ?_) hSP⟩, hR.2.2.F ht⟩
  rw [ht]
  exact hR.2.2.2.1 q (by omega) (by omega)
theorem jfin_of (hα : ∀ j, α (K + j) = sz + j) (hSPm : ∀ (u U : State), u.WarmedH U.vm → (∀ q : Nat, q < sz → U.heap[q]? = u.heap[q]?) → SP u → SP U) (hx : p.tables.exec = Jvm.exec) {bytes : ByteArray} (hb : c.code = bytes) {ret : Option FieldType} (hr : meth.sig.returnType = ret) (hlocks : meth.locks = false) (hK : va_K D cl tys s) (hSP : SP s)
    {n0 t0 : Nat} (hKn : K ≤ n0) (hsz : s.heap.size = sz + (n0 - K)) {v : Option Value} {h' : jH} (hn : n0 ≤ h'.length) :
    jFin D cl α dA K sz p l e R s m args below meth c bytes ret n0 t0 (jMQ below (jQo D cl tys α dA K sz SP (jout α (.inl v)) h') args s (h'.length - n0) (jtot h' - t0) (fun q => sz ≤ q)) v h' := by
  intro i len pc st ls H locs he hd hR
  refine W.jsized (fun hub => W.jmono (fun t => jMQ_of) ?_)
  have hq : ∀ (w : Option Value), w = v.map (jx_V α) → ∀ t : State, t.heap = H → s.WarmedH t.vm → jQo D cl tys α dA K sz SP (jout α (.inl v)) h' args s (.returned w) t := fun w hw t ht hW => by
    obtain ⟨h1, h2⟩ := jB_end hα hSPm (by omega) hK hSP hR (by omega) ht hW
    exact ⟨by rw [hw]; rfl, h1, h2⟩
  unfold jend at he
  split at he
  · split at he
    · split at he
      · rename_i hl; subst hl; cases he
        exact W.iret hx hb hr (hq _ rfl) hR.2.2.2.2 hd hlocks
      · cases he
    · split at he
      · rename_i hl; obtain ⟨rfl, hv⟩ := hl; cases he
        exact W.zret hx hb hr (by rcases hv with rfl | rfl <;> rfl) (hq _ rfl) hR.2.2.2.2 hd hlocks
      · cases he
    · cases he
  · split at he
    · split at he
      · rename_i hl; subst hl; cases he
        exact W.lret hx hb hr (hq _ rfl) hR.2.2.2.2 hd hlocks
      · cases he
    · cases he
  · split at he
    · split at he
      · rename_i hl; subst hl; cases he
        exact W.aret hx hb hr (Or.inl ⟨_, rfl⟩) (Or.inr ⟨_, rfl⟩) (hq _ rfl) hR.2.2.2.2 hd hlocks
      · cases he
    · split at he
      · rename_i hl; subst hl; cases he
        exact W.aret hx hb hr (Or.inl ⟨_, rfl⟩) (Or.inl rfl) (hq _ rfl) hR.2.2.2.2 hd hlocks
      · cases he
    · split at he
      · rename_i hl; subst hl; cases he
        exact W.aret hx hb hr (Or.inr ⟨_, rfl⟩) (Or.inr ⟨_, rfl⟩) (hq _ rfl) hR.2.2.2.2 hd hlocks
      · cases he
    · split at he
      · rename_i hl; subst hl; cases he
        exact W.aret hx hb hr (Or.inr ⟨_, rfl⟩) (Or.inl rfl) (hq _ rfl) hR.2.2.2.2 hd hlocks
      · cases he
    · cases he
  · split at he
    · split at he
      · rename_i hl; subst hl; cases he
        exact W.vret hx hb hr (hq _ rfl) hR.2.2.2.2 hd hlocks
      · cases he
    · cases he
  · cases he
theorem W.jsizedT {g : JFrame} {a : Addr} (k : H.size ≤ s.heap.size + cells → WT p l e R s m args below meth c H locs cells slots Q g a) : WT p l e R s m args below meth c H locs cells slots Q g a :=
  fun T hT X => k (by rw [← hT]; exact X.heapSize) T hT X
theorem jfinT_of (hα : ∀ j, α (K + j) = sz + j) (hSPm : ∀ (u U : State), u.WarmedH U.vm → (∀ q : Nat, q < sz → U.heap[q]? = u.heap[q]?) → SP u → SP U) (hlocks : meth.locks = false) (hK : va_K D cl tys s) (hSP : SP s)
    {n0 t0 : Nat} (hKn : K ≤ n0) (hsz : s.heap.size = sz + (n0 - K)) {a : Nat} {h' : jH} (hn : n0 ≤ h'.length) :
    jFinT D cl α dA K sz p l e R s m args below meth c n0 t0 (jMQ below (jQo D cl tys α dA K sz SP (jout α (.inr a)) h') args s (h'.length - n0) (jtot h' - t0) (fun q => sz ≤ q)) a h' := by
  intro pc st ls H locs hex hR
  refine W.jsizedT (fun hub => ?_)
  refine WT.leave hlocks (fun x hx => by rw [hex] at hx; cases hx) (fun t ht hW => ?_) hR.2.2.2.2
  obtain ⟨h1, h2⟩ := jB_end hα hSPm (by omega) hK hSP hR (by omega) ht hW
  exact ⟨rfl, h1, h2⟩
end JF
