section JCat
def jHp (k : Nat) : Nat := match k with
  | 13 => 2101
  | 15 => 2102
  | 28 => 3114
  | _ => 3115
def jcH (M : jM) : Bool := M.2.2.2.2.2.2.2.all (fun q => match q.2 with
  | [ci] => Nat.ble 12 ci && Nat.blt ci 16 && !(Nat.beq q.1.2.2.2 0) && jIn (jHp q.1.2.2.2) (.classLink M.1.cls q.1.2.2.2 (jEx.getD (ci - 12) ""))
  | _ => false)
set_option maxRecDepth 20000 in
theorem jcH_ok : (jd_m.flatMap (fun q => q.2)).all (fun e => jcH e.2.1) = true := by decide +kernel
theorem jcX_ok : ∀ i, i < 4 → jAt (([2112, 2181, 4181, 4197] : List Nat).getD i 0) (.castable (jEx.getD i "") (jEx.getD i "")) = true ∧ (cl0[12 + i]?).map (fun z => z.1) = some (jEx.getD i "") := by decide +kernel
theorem jAt_use {b L : Nat} {xs : Nat → Int32} {ad st : Nat → Nat} {sz : Nat} {s : State} {args : Array Value} (hts : ∀ w ∈ TB0, w.before args s = true) (hSP : jSP b L xs ad st sz s) {p : Nat} {w : Jvm.Cond} (hp : jAt p w = true) : w.before args s = true := by
  unfold jAt at hp
  rw [Bool.and_eq_true, Bool.or_eq_true, decide_eq_true_eq] at hp
  rcases hp.2 with h | h
  · exact hts w (List.mem_filter.mpr ⟨jw_mem hp.1, h⟩)
  · have h9 := hSP.2.2.2.2.1 w (jw_mem hp.1) h
    rw [Bool.and_eq_true] at h
    exact va_Nw.use h.1 h9
theorem jcH_in {M : jM} (h : jcH M = true) {q : (Nat × Nat × Nat × Nat) × List Nat} (hq : q ∈ M.2.2.2.2.2.2.2) : ∃ i, i < 4 ∧ q.2 = [12 + i] ∧ q.1.2.2.2 ≠ 0 ∧ Jvm.Cond.classLink M.1.cls q.1.2.2.2 (jEx.getD i "") ∈ TB0 := by
  unfold jcH at h
  have h1 := List.all_eq_true.mp h q hq
  split at h1
  · rename_i ci hci
    simp only [Bool.and_eq_true, Bool.not_eq_true'] at h1
    obtain ⟨⟨⟨k1, k2⟩, k3⟩, k4⟩ := h1
    have k1 := Nat.le_of_ble_eq_true k1
    have k2 : ci < 16 := by simpa using k2
    refine ⟨ci - 12, by omega, by rw [hci]; congr 1; omega, fun z => ?_, jIn_ok k4⟩
    rw [z] at k3
    cases k3
  · cases h1
/-- what a row of the table does with a thrown object: its range leaves the pc out, or it names a class, and b says whether the object is one of it -/
def jVd (pl : Platform) (u : State) (d : ClassId) (pc : Nat) (k : ClassId) (y : ExceptionTableEntry) (b : Bool) : Prop :=
  (covers y pc = false ∧ b = false) ∨ (covers y pc = true ∧ y.catchType ≠ 0 ∧ ∃ t, u.vm.ClassLinks pl d y.catchType t ∧ u.vm.assignable k t = b)
/-- one row of the search: the class that it names may be cold, and is then known -/
theorem jrow {e : Env} {u S : State} {f : JFrame} {a : Addr} {x : Cell} {y : ExceptionTableEntry} {b : Bool} (L : List ExceptionTableEntry) (hW : u.WarmedH S.vm) (hx : S.heap[a]? = some x) (hn : ∀ k, x.vm ≠ .statics k) (hk : ∃ k, u.vm.classes[x.cls]? = some k) (hv : jVd e.platform u f.method.cls f.pc x.cls y b) :
    ∃ vm', u.WarmedH vm' ∧ ∀ (Q : Handler → Pre) (E : CtlPost) (d : Bool) (acts : List Action), wp (findHandler.go f a (y :: L)) Q E e d acts S ↔ (bif b then Q (.found y.handlerPc) d acts (S.setVm vm') else wp (findHandler.go f a L) Q E e d acts (S.setVm vm')) := by
  rcases hv with ⟨h1, rfl⟩ | ⟨h1, h2, t, ht, hb⟩
  · exact ⟨S.vm, hW, fun Q E d acts => W.findHandler_go_skip h1⟩
  · have hS := hW.classLinks ht
    obtain ⟨dk, _, _, kt, r1, _, _, _, _, r2, _, r3⟩ := ht.here
    have hW2 := hW.noted r1 r3 (State.rightAt_cls ht)
    obtain ⟨k0, hk0⟩ := hk
    obtain ⟨k1, hk1, -⟩ := hW2.alike.2.2 _ _ hk0
    obtain ⟨k2, hk2, -⟩ := hW2.alike.2.2 _ _ r2
    have hb2 : (S.vm.noted f.method.cls y.catchType (.cls t)).assignable x.cls t = b := by
      rw [hW2.alike.assignable]
      exact hb
    have hop := (resolveClass_links e.toSetting hS).op (op := VmOp.resolveClass f.method.cls y.catchType) rfl
    refine ⟨_, hW2, fun Q E d acts => ?_⟩
    cases b <;> simp [findHandler.go, show (decide (y.startPc ≤ f.pc) && decide (f.pc < y.endPc)) = true from h1, h2, hop.1, hop.2, hx, hn, hk1, hk2, hb2, VmOp.dirties, VmOp.acts]
/-- the whole table, beside the small machine's own list of it -/
theorem jtab {e : Env} {u : State} {f : JFrame} {a : Addr} {x : Cell} (hn : ∀ k, x.vm ≠ .statics k) (hk : ∃ k, u.vm.classes[x.cls]? = some k) (pr : (Nat × Nat × Nat × Nat) × List Nat → Bool) {z : (Nat × Nat × Nat × Nat) × List Nat} :
    ∀ (L : List ExceptionTableEntry) (N : List ((Nat × Nat × Nat × Nat) × List Nat)) (S : State), u.WarmedH S.vm → S.heap[a]? = some x → L.map (fun h => (h.startPc, h.endPc, h.handlerPc, h.catchType)) = N.map (fun q => q.1) →
      (∀ y : ExceptionTableEntry, ∀ q ∈ N, (y.startPc, y.endPc, y.handlerPc, y.catchType) = q.1 → jVd e.platform u f.method.cls f.pc x.cls y (pr q)) → N.find? pr = some z →
      ∃ vm', u.WarmedH vm' ∧ ∀ (Q : Handler → Pre) (E : CtlPost) (d : Bool) (acts : List Action), wp (findHandler.go f a L) Q E e d acts S ↔ Q (.found z.1.2.2.1) d acts (S.setVm vm')
  | _, [], _, _, _, _, _, hf => by cases hf
  | [], _ :: _, _, _, _, he, _, _ => by cases he
  | y :: L, q :: N, S, hW, hx, he, hv, hf => by
    rw [List.map_cons, List.map_cons, List.cons.injEq] at he
    obtain ⟨vm1, w1, r1⟩ := jrow L hW hx hn hk (hv y q List.mem_cons_self he.1)
    rw [List.find?_cons] at hf
    cases hq : pr q with
    | true =>
      rw [hq] at hf r1
      cases hf
      refine ⟨vm1, w1, fun Q E d acts => (r1 Q E d acts).trans ?_⟩
      rw [← he.1]
      exact Iff.rfl
    | false =>
      rw [hq] at hf r1
      obtain ⟨vm2, w2, r2⟩ := jtab hn hk pr L N (S.setVm vm1) w1 hx he.2 (fun y' q' h' => hv y' q' (List.mem_cons_of_mem _ h')) hf
      exact ⟨vm2, w2, fun Q E d acts => (r1 Q E d acts).trans (r2 Q E d acts)⟩
/-- the search has ended at a handler, and what it resolved is known: the frame goes on there -/
theorem jcaught {p : Program} {l : Launch} {e : Env} {R : Room} {s : State} {m : MethodId} {args : Array Value} {below : List Frame} {meth : Method} {c : Code} {T : State} {locs : List Loc} {cells slots : Nat}
    (X : Stand p l e R s m args below meth c T locs cells slots) {g : JFrame} (hg : g.method = m) {a : Addr} {q : Nat} {vm' : Vm}
    (hf : ∀ (Q : Handler → Pre) (E : CtlPost) (d : Bool) (acts : List Action), wp (findHandler g a) Q E e d acts ((T.setTop g).pushFrame (.throwing a)) ↔ Q (.found q) d acts (((T.setTop g).pushFrame (.throwing a)).setVm vm'))
    {t : State} (ht : Steps p.tables e below ((T.setVm vm').setTop { g with pc := q, stack := [.ref a] }) t) : Steps p.tables e below ((T.setTop g).pushFrame (.throwing a)) t := by
  obtain ⟨g1, hfr⟩ := X.frames_eq
  have hfr2 : (T.setVm vm').frames = .java g1 :: below := hfr
  have hA : At T g.method c below := hg ▸ X.here
  have hS : ((T.setTop g).pushFrame (.throwing a)).setVm vm' = (T.setVm vm').setFrames (.throwing a :: .java g :: below) := by
    rw [State.pushFrame, State.frames_setTop _ hfr, State.setTop_of_frames _ hfr, State.setFrames_setFrames]
    rfl
  have hstep : (stepThread p.tables e ((T.setTop g).pushFrame (.throwing a))).1 = (T.setVm vm').setTop { g with pc := q, stack := [.ref a] } := by
    rw [stepThread_throwing (below := .java g :: below) (by rw [frames_entered hA.top, X.tail]), State.setTop_of_frames _ hfr2]
    simp only [stepThrowing, searchFrame, vmDo]
    generalize hr : Sem.go _ e false [] _ = res
    obtain ⟨as, rfl, -⟩ := Sem.eq_ok_of hr (a := Handler.found q) (s' := (T.setVm vm').setFrames (.throwing a :: .java g :: below)) (acts' := []) (by simp [hf, hS])
    exact State.setFrames_setFrames ..
  have hgo := hA.throwing a
  refine Steps.head hgo.1 hgo.2 ?_
  rw [hstep]
  exact ht
variable {l : Launch} {D : va_G} {tys : List (ClassId × FieldType)} {dA : FieldType → ClassId} {b L : Nat} {xs : Nat → Int32} {ad st : Nat → Nat} {sz : Nat}
set_option maxHeartbeats 1000000 in
theorem jcatch_ok : jCatchOK l D cl0 tys (jal b ad st sz) dA 24 sz (jSP b L xs ad st sz) TB0 jT0 := by
  intro p e R s m args below meth c Q M n0 pc a q stk ls H locs cells slots h hz V hh hR k
  obtain ⟨z, hz⟩ := hz
  obtain ⟨⟨hx, hb, hml, hown, hts, hini, hK, hSP, hKn, hsz, hdec, hnL, hF, hN, hS, hC, hL⟩, hex⟩ := V
  have hH : jcH M = true := by
    have hz : jt_m z = some M := hz
    unfold jt_m at hz
    obtain ⟨q9, hq9, rfl⟩ := Option.map_eq_some_iff.mp hz
    exact List.all_eq_true.mp jcH_ok _ (jlk2_mem hq9)
  unfold jhand at hh
  split at hh
  case h_2 => cases hh
  rename_i ci fs ha
  split at hh
  · cases hh
  rename_i hKa
  have hKa : 24 ≤ a := by omega
  split at hh
  case h_2 => cases hh
  rename_i q0 hq0
  cases hh
  -- the thrown object's class is one of the four
  have hpr := List.find?_some hq0
  obtain ⟨i, hi, hq2, -, -⟩ := jcH_in hH (List.mem_of_find?_eq_some hq0)
  have c3 : ci = 12 + i := by
    rw [decide_eq_true_eq, hq2] at hpr
    simpa using hpr.2.2
  subst c3
  obtain ⟨w1, w2⟩ := jcX_ok i hi
  obtain ⟨r, hr, cell, g1, g2, g3, -⟩ := hR.2.1 (a - 24) _ (jx_ws_get (α := jal b ad st sz) (dA := dA) ha hKa)
  have hcl : s.vm.findClass (jEx.getD i "") = some cell.cls := by
    have hr : cl0[12 + i]? = some r := hr
    rw [hr] at w2
    rw [← Option.some.inj w2, g2]
    exact (hK.1 _ _ hr).2.1
  obtain ⟨d1, d2, hd1, hd2, hself⟩ := Cond.castable_spec (jAt_use hts hSP w1)
  cases hcl.symm.trans hd1
  cases hcl.symm.trans hd2
  intro T hT X
  have hpl : e.platform.magicAccessors = ({} : Platform).magicAccessors := by rw [X.admits.platform]
  -- each row's word
  have hvd : ∀ y : ExceptionTableEntry, ∀ q' ∈ M.2.2.2.2.2.2.2, (y.startPc, y.endPc, y.handlerPc, y.catchType) = q'.1 →
      jVd e.platform s m.cls pc cell.cls y (decide (q'.1.1 ≤ pc ∧ pc < q'.1.2.1 ∧ (12 + i) ∈ q'.2)) := by
    intro y q' hq' he
    obtain ⟨j, hj, hq3, hct, hlk⟩ := jcH_in hH hq'
    rw [← he] at hct hlk
    have hcv : covers y pc = decide (y.startPc ≤ pc ∧ pc < y.endPc) := by simp [covers]
    rw [hq3, ← he]
    by_cases hc : y.startPc ≤ pc ∧ pc < y.endPc
    · obtain ⟨t, ht, hlt⟩ := Cond.classLink_spec hown (hts _ hlk) e.platform hpl
      refine Or.inr ⟨by rw [hcv]; exact decide_eq_true hc, hct, t, hlt, ?_⟩
      by_cases hij : i = j
      · subst hij
        cases hcl.symm.trans ht
        rw [hself]
        simp [hc]
      · have hno := Cond.holds_not_iff.mp ((hSP.2.2.2.2.2.2.2.2.2 i hi j hj hij).word (args := args))
        simp only [Cond.value, hcl, ht] at hno
        rw [Option.some.inj hno]
        simp [hij]
    · exact Or.inl ⟨by rw [hcv]; exact decide_eq_false hc, decide_eq_false fun h9 => hc ⟨h9.1, h9.2.1⟩⟩
  obtain ⟨vm', hW', hgo⟩ := jtab (e := e) (u := s) (f := F0 m pc ls stk) (a := jal b ad st sz a) (x := cell) (fun k9 h9 => by rw [g3] at h9; cases h9) (Vm.classAt_of_findClass hcl) _ c.exceptionTable.toList _ ((T.setTop (F0 m pc ls stk)).pushFrame (.throwing (jal b ad st sz a))) X.warmed (by show T.heap[jal b ad st sz a]? = _; rw [hT]; exact g1) hex hvd hq0
  obtain ⟨t, s1, s2⟩ := k (T.setVm vm') hT (X.noted hW')
  exact ⟨t, jcaught X rfl (fun Q E d acts => (W.findHandler_eq (meth := meth) (code := c) X.method' X.code).trans (hgo Q E d acts)) s1, s2⟩
end JCat
