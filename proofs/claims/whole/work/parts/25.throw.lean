/-! 'throw new X(text)' in the class: the words that it needs, and what it leaves of the heap -/
section JThr
variable {p : Program} {l : Launch} {e : Env} {R : Room} {s : State} {m : MethodId} {args : Array Value} {below : List Frame} {meth : Method} {c : Code} {U : State} {locs : List Loc} {cells slots : Nat}
/-- Throwable's fields that an object of X has -/
def jYf : List (String × String) := [("cause", "Ljava/lang/Throwable;"), ("stackTrace", Bundle.steD), ("suppressedExceptions", Bundle.listD), ("detailMessage", "Ljava/lang/String;"), ("backtrace", "Ljava/lang/Object;")]
/-- X's own words: made at entry ic of the class; its fields; Throwable's statics -/
def jYo (ic : Nat) (X : String) : List Jvm.Cond :=
  [.methodLink "GoalDesk" ic (Bundle.initS X), .instantiable X 6] ++ [Bundle.tFill0, Bundle.tFill].map (fun y => .selects X y y) ++ jYf.map (fun q => .lays X Bundle.tN q.1 q.2) ++
  [("UNASSIGNED_STACK", Bundle.steD), ("SUPPRESSED_SENTINEL", Bundle.listD)].map (fun q => .isRef (.static Bundle.tN q.1 q.2)) ++ [.fieldLink Bundle.tN 198 Bundle.tN "backtrace" "Ljava/lang/Object;", .lays Bundle.tN Bundle.tN "backtrace" "Ljava/lang/Object;"]
/-- all of them: X stands below RuntimeException -/
def jYw (ic : Nat) (X : String) (ix : Nat) (rx : ByteArray) : List Jvm.Cond :=
  Bundle.throwableAtoms ++ (Bundle.throwableSAtoms ++ (Bundle.passSAtoms X "java/lang/RuntimeException" ix rx ++ (Bundle.chainSAtoms "java/lang/RuntimeException" ["java/lang/Exception"] ++ jYo ic X)))
/-- the constructors from X's up to Throwable's -/
theorem jy_chain {pl : Platform} (hpl : pl.magicAccessors = ({} : Platform).magicAccessors) {top : MethodId} (htop : s.methodNamed? (Bundle.initS Bundle.tN) = some top) {X : String} (hX : Bundle.fit X = true) {ix : Nat} {rx : ByteArray}
    (d0 : decode rx 0 = .ok (.aload_n 0, 1)) (d1 : decode rx 1 = .ok (.aload_n 1, 1)) (d2 : decode rx 2 = .ok (.invokespecial ix, 3)) (d5 : decode rx 5 = .ok (.return_, 1))
    (h1 : ∀ w ∈ Bundle.passSAtoms X "java/lang/RuntimeException" ix rx, w.before args s = true) (h2 : ∀ w ∈ Bundle.chainSAtoms "java/lang/RuntimeException" ["java/lang/Exception"], w.before args s = true) :
    ∃ (P : PassC) (Ps : List PassC), Ps.length = 2 ∧ (∀ Q ∈ P :: Ps, Q.LinksS pl s) ∧ s.methodNamed? (Bundle.initS X) = some P.m ∧ PassesOn top ((P :: Ps).map (·.toPassT)) := by
  obtain ⟨P, hP, hm, hs⟩ := PassC.ofS_atoms hpl (Bundle.fit_spec hX).1 (by decide) d0 d1 d2 d5 h1
  obtain ⟨Q, Qs, hn, hQ, hQs, hq, hon⟩ := Bundle.chainS hpl htop ["java/lang/Exception"] "java/lang/RuntimeException" (by decide) (by intro n hn; cases List.mem_singleton.mp hn; decide) h2
  exact ⟨P, Q :: Qs, congrArg Nat.succ hn, List.forall_mem_cons.mpr ⟨hP, List.forall_mem_cons.mpr ⟨hQ, hQs⟩⟩, hm, Option.some.inj (hs.symm.trans hq), hon⟩
/-- f is a field of the objects of class k, which is X's -/
def jyL (s : State) (cX : ClassId) (k : Class) (f : Field) : Prop := k.instanceTypes[f.slot]? = some f.type ∧ ∃ d, Jmm.declares? s.vm f.slot (cX + 1) cX = some d ∧ d.2.name = f.name
theorem jyL.apart {cX : ClassId} {k : Class} {f g : Field} (hf : jyL s cX k f) (hg : jyL s cX k g) (hne : f.name ≠ g.name) : f.slot ≠ g.slot := by
  obtain ⟨-, x, hx, nx⟩ := hf
  obtain ⟨-, y, hy, ny⟩ := hg
  exact Cond.laysApart hx hy nx ny hne
/-- a cell of the time before, nothing of which was written, is as it was -/
theorem jy_keep (X : Stand p l e R s m args below meth c U locs cells slots) {b : Addr} {x : Cell} (hx : s.heap[b]? = some x) (hb : ∀ i, (⟨b, i⟩ : Loc) ∉ locs) : ∃ y, U.heap[b]? = some y ∧ y.vm = x.vm ∧ ∀ i : Nat, y.slots[i]? = x.slots[i]? := by
  obtain ⟨y, h1, h2, -, h4⟩ := X.same.2.2.2.2.2 b x hx
  exact ⟨y, h1, by rw [h2], fun i => h4 i (hb i)⟩
/-- a class's statics lie below what is new -/
theorem jy_out {C n d : String} {sz : Nat} (hlo : ∀ y ∈ locs, sz ≤ y.base) (hz : va_Zq C n d (fun q => sz ≤ q) s s.heap) {cf : ClassId} {kf : Class} {fi : Nat} {f : Field} {b : Addr} (hf : s.fieldFound? C n d = some (cf, kf, fi, f)) (hb : kf.statics = some b) (i : Nat) : (⟨b, i⟩ : Loc) ∉ locs := by
  intro hm
  have h1 := hlo _ hm
  rcases hz with ⟨cf', kf', fi', f', a', x', z1, z2, z3, z4, z5, z6, z7, z8⟩ | ⟨-, cf', kf', fi', f', a', x', z1, z2, z3, z4, z5, z6, z7, z8⟩ <;>
  · cases hf.symm.trans z1
    cases hb.symm.trans z4
    exact z8 h1
set_option maxHeartbeats 4000000 in
/-- the making and the throw: the object's own cell alone is written -/
theorem jy_throw (X : Stand p l e R s m args below meth c U locs cells slots) (hx : p.tables.exec = Jvm.exec) (htr : e.platform.stackTraces = false) {cls : String} {ic ix : Nat} {rx : ByteArray} {sz : Nat}
    (d0 : decode rx 0 = .ok (.aload_n 0, 1)) (d1 : decode rx 1 = .ok (.aload_n 1, 1)) (d2 : decode rx 2 = .ok (.invokespecial ix, 3)) (d5 : decode rx 5 = .ok (.return_, 1))
    (hown : s.vm.findClass "GoalDesk" = some m.cls) (hfit : Bundle.fit cls = true) (hw : ∀ w ∈ jYw ic cls ix rx, w.before args s = true)
    (hlo : ∀ y ∈ locs, sz ≤ y.base) (hz : va_Zq "java/lang/Throwable" "UNASSIGNED_STACK" "[Ljava/lang/StackTraceElement;" (fun q => sz ≤ q) s s.heap)
    {a t : Addr} {cX : ClassId} {k : Class} (hc : s.vm.findClass cls = some cX) (hk : s.vm.classes[cX]? = some k) (ha : U.heap[a]? = some (freshCell cX k)) (hna : s.heap.size ≤ a)
    {pc : Nat} {ls : Array Slot} {st : List Value} (hls : ls.size = c.maxLocals) (h6 : decode c.code (pc + 6) = .ok (.invokespecial ic, 3)) (h9 : decode c.code (pc + 9) = .ok (.athrow, 1))
    (hRf : 5 < R.frames) (hRl : (st.map fun v => v.category).sum + 82 ≤ R.locals) :
    ∃ (V : State) (Lc : List Loc) (ce : Cell), Stand p l e R s m args below meth c V (locs ++ Lc) cells slots ∧ (∀ y ∈ Lc, y.base = a) ∧ V.heap = U.heap.setIfInBounds a ce ∧ ce.cls = cX ∧ ce.vm = .none ∧
      ∀ u, Steps p.tables e below ((V.setTop (F0 m (pc + 9) ls st)).pushFrame (.throwing a)) u → Steps p.tables e below (U.setTop (F0 m (pc + 6) ls (.ref t :: .ref a :: .ref a :: st))) u := by
  have hpl : e.platform.magicAccessors = ({} : Platform).magicAccessors := by rw [X.admits.platform]
  unfold jYw at hw
  rw [List.forall_mem_append, List.forall_mem_append, List.forall_mem_append, List.forall_mem_append] at hw
  obtain ⟨wT, wS, wP, wC, wO⟩ := hw
  obtain ⟨T, Z0, LT, -, Y⟩ := ThrowableC.of_atoms (pl := e.platform) (by rw [X.admits.platform]) (by rw [X.admits.platform]) hpl wT
  obtain ⟨Z, M, LZ, LM, hZ⟩ := Init0T.ofS_atoms hpl LT Y wS
  obtain ⟨P, Ps, hPs, LP, hPm, hon⟩ := jy_chain hpl hZ hfit d0 d1 d2 d5 wP wC
  simp only [Bundle.passSAtoms, List.forall_mem_cons] at wP
  simp only [jYo, jYf, List.map_cons, List.map_nil, List.cons_append, List.nil_append, List.forall_mem_cons] at wO
  obtain ⟨o1, o2, o3, o4, o5, o6, o7, o8, o9, o10, o11, o12, o13, -⟩ := wO
  -- the class
  obtain ⟨cX', k', q1, q2, hord, -, -, -⟩ := Cond.instantiable_spec o2
  cases hc.symm.trans q1
  cases hk.symm.trans q2
  have sel0 := jy_sel X hc Y.fill0 (by decide) o3
  have selF := jy_sel X hc Y.fill (by decide) o4
  -- the fields
  obtain ⟨iM, hM⟩ := Y.msg
  obtain ⟨ci, i, fB, b1, b2, b3, b4, -, b5, b6, b7⟩ := Cond.ownField (t := .object "java/lang/Object") Y.found LT.cls (by decide +kernel) o12 o13 e.platform hpl
  have lC : jyL s cX k T.fCause := Cond.laysAt hc hk Y.cause o5
  have lS : jyL s cX k T.fStack := Cond.laysAt hc hk Y.stack o6
  have lP : jyL s cX k T.fSupp := Cond.laysAt hc hk Y.supp o7
  have lM : jyL s cX k T.fMsg := Cond.laysAt hc hk hM o8
  have lB : jyL s cX k fB := Cond.laysAt hc hk b7 o9
  -- the statics, as they were and as they are
  obtain ⟨x0, hx0, hst⟩ := Y.statics
  obtain ⟨u0, hu0⟩ := Cond.staticRefV Y.unassigned LT.unassignedStatic LT.statics hx0 hst o10
  obtain ⟨v0, hv0⟩ := Cond.staticRefV Y.sentinel LT.sentinelStatic LT.statics hx0 hst o11
  obtain ⟨x1, hx1, hvm, hsl⟩ := jy_keep X hx0 (jy_out hlo hz Y.unassigned LT.statics)
  -- the call
  obtain ⟨mk, vm1, -, hmk, X1, go1⟩ := jInvkI X hx hown (y := Bundle.initS cls) rfl o1 wP.1 wP.2.1 (Bundle.fit_spec hfit).2 (g := F0 m (pc + 6) ls (.ref t :: .ref a :: .ref a :: st)) rfl (a := a) (argsL := [.ref t]) (rest := .ref a :: st)
    (by
      intro sig hs
      have h0 : (parseMethodDescriptor "(Ljava/lang/String;)V").map (fun q => q.parameters.length) = some 1 := by decide +kernel
      rw [show parseMethodDescriptor "(Ljava/lang/String;)V" = some sig from hs] at h0
      exact (Option.some.inj h0).symm) rfl h6
  cases (X1.named hPm).symm.trans hmk
  obtain ⟨vm2, X2, go2⟩ := X1.ctorMessageOffV hx (g := F0 m (pc + 6) ls (.ref a :: st)) rfl hls T LT Z LZ M LM (P :: Ps) LP hon (u0 := u0) (sen := v0) (self := a) (msg := .ref t) rfl (cell := freshCell cX k) (cellS := x1) ha
    (by intro _; simp) (by simp) rfl rfl sel0 selF hx1 (fun h => by rw [h] at hx0; exact absurd (Array.getElem?_eq_some_iff.mp hx0).1 (Nat.not_lt.mpr hna))
    (fun h => by rw [← hvm, h] at hst; cases hst) ((hsl _).trans hu0) ((hsl _).trans hv0)
    (Takes.of_laid hk hord lC.1 (by rw [Y.causeType]; rfl)) (Takes.of_laid hk hord lS.1 (by rw [Y.stackType]; exact fits_refV_array _ u0)) (Takes.of_laid hk hord lP.1 (by rw [Y.suppType]; exact fits_refV_object _ v0)) (Takes.of_laid hk hord lM.1 (by rw [Y.msgType]; rfl))
    Y.objLocals ⟨⟨ci, i, fB⟩, ⟨b1, b2, b3, b4⟩, by
      have n1 := lC.apart lB (by rw [b5, Y.causeName]; decide)
      have n2 := lS.apart lB (by rw [b5, Y.stackName]; decide)
      have n3 := lP.apart lB (by rw [b5, Y.suppName]; decide)
      have h0 : (freshCell cX k).slots[fB.slot]? = some .null := (fresh_default lB.1).trans (by rw [b6]; rfl)
      simp only [preparedCellV, Cell.setSlot, Cell.withEntry, Array.getElem?_setIfInBounds, if_neg n1, if_neg n2, if_neg n3]
      exact h0, fun _ _ => rfl⟩ htr [] h6
    (by rw [List.length_cons, hPs]; omega) (by
      rw [List.length_cons, hPs]
      show 0 + (1 + (st.map fun v => v.category).sum) + 81 ≤ R.locals
      omega)
  refine ⟨_, _, _, X2, ?_, rfl, rfl, rfl, fun u hu => go1 u (go2 u ?_)⟩
  · simp
  · jvm_step X2.here [hx, h9, athrow.wp_sem]
    exact (top_set X2.here.top).mpr ⟨.ref a, st, rfl, hu⟩
end JThr
