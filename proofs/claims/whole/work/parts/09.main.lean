/-! the main row -/
section JMain
variable {l : Launch} {D : va_G} {cl : List vw_C} {tys : List (ClassId × FieldType)} {α : Nat → Nat} {dA : FieldType → ClassId} {K sz : Nat} {SP : State → Prop} {TB : List Jvm.Cond} {hd0 : jH} {T : jT}
def jKn (cl : List vw_C) (α : Nat → Nat) (sz : Nat) (SP : State → Prop) (TB : List Jvm.Cond) (T : jT) (M : jM) : Prop := jMok TB cl α sz SP T M.1.cls M.2.2.2.2.1 M.2.1 M.2.2.1 M.2.2.2.2.2.2.1
def jEnvM (D : va_G) (cl : List vw_C) (tys : List (ClassId × FieldType)) (α : Nat → Nat) (K sz : Nat) (SP : State → Prop) (TB : List Jvm.Cond) (T : jT) (p : Program) (s : State) (m : MethodId) (args : Array Value) (meth : Method) (c : Code) (M : jM) (n0 : Nat) : Prop :=
  jEnv D cl tys α K sz SP TB T p s m args meth c M.1.cls M.2.2.2.2.1 M.2.1 M.2.2.1 M.2.2.2.2.2.1 M.2.2.2.2.2.2.1 n0 ∧ c.exceptionTable.toList.map (fun h => (h.startPc, h.endPc, h.handlerPc, h.catchType)) = M.2.2.2.2.2.2.2.map (fun q => q.1)
def jThrowOK (l : Launch) (D : va_G) (cl : List vw_C) (tys : List (ClassId × FieldType)) (α : Nat → Nat) (dA : FieldType → ClassId) (K sz : Nat) (SP : State → Prop) (TB : List Jvm.Cond) (T : jT) : Prop :=
  ∀ (p : Program) (e : Env) (R : Room) (s : State) (m : MethodId) (args : Array Value) (below : List Frame) (meth : Method) (c : Code) (Q : State → Prop) (M : jM) (n0 : Nat) (i : Instr) (len pc ci : Nat) (st : List Value) (ls : Array Slot) (H : Heap) (locs : List Loc) (cells slots : Nat) (h : jH),
    jEnvM D cl tys α K sz SP TB T p s m args meth c M n0 → ls.size = M.2.2.1 → M.2.2.2.2.2.2.1 pc = some (i, len) → jthr T K M i len pc st = some ci → jRel D cl α dA K sz h s H locs → H.size = α h.length → 8 ≤ R.frames → 512 ≤ R.locals → cells + 1 ≤ R.cells → slots + 6 ≤ R.slots →
    (∀ (H1 : Heap) (locs1 : List Loc) (st1 : List Value), jRel D cl α dA K sz (h ++ [.inr (ci, [.null, .null, .null, .null, .null, .null])]) s H1 locs1 → WT p l e R s m args below meth c H1 locs1 (cells + 1) (slots + 6) Q (F0 m (pc + 9) ls st1) (α h.length)) →
    W p l e R s m args below meth c H locs cells slots Q (F0 m pc ls (st.map (jx_V α)))
def jCatchOK (l : Launch) (D : va_G) (cl : List vw_C) (tys : List (ClassId × FieldType)) (α : Nat → Nat) (dA : FieldType → ClassId) (K sz : Nat) (SP : State → Prop) (TB : List Jvm.Cond) (T : jT) : Prop :=
  ∀ (p : Program) (e : Env) (R : Room) (s : State) (m : MethodId) (args : Array Value) (below : List Frame) (meth : Method) (c : Code) (Q : State → Prop) (M : jM) (n0 pc a q : Nat) (st : List Value) (ls : Array Slot) (H : Heap) (locs : List Loc) (cells slots : Nat) (h : jH),
    (∃ z, T.2.2.1 z = some M) → jEnvM D cl tys α K sz SP TB T p s m args meth c M n0 → jhand M.2.2.2.2.2.2.2 pc h a = some q → jRel D cl α dA K sz h s H locs → 
    W p l e R s m args below meth c H locs cells slots Q (F0 m q ls [.ref (α a)]) → WT p l e R s m args below meth c H locs cells slots Q (F0 m pc ls st) (α a)
theorem lv_args_map (as : List Value) : ∀ i : Nat, (lv_args i as).map (jx_L α) = lv_args i (as.map (jx_V α)) := by
  induction as with
  | nil => intro i; rfl
  | cons v as ih =>
    intro i
    simp only [lv_args, List.map_cons, jx_V_cat, ih]
    rfl
theorem lg_sl_map (as : List Value) : (lg_sl (as.map (jx_V α))).length = (lg_sl as).length := by
  induction as with
  | nil => rfl
  | cons v as ih =>
    have e : ∀ (w : Value) (ws : List Value), (lg_sl (w :: ws)).length = (if w.category = 2 then 2 else 1) + (lg_sl ws).length := fun w ws => by
      simp only [lg_sl, List.flatMap_cons, List.length_append]
      split <;> simp
    rw [List.map_cons, e, e, jx_V_cat, ih]
theorem jsum_map (r : List Value) : ((r.map (jx_V α)).map fun v => v.category).sum = (r.map fun v => v.category).sum := by
  rw [List.map_map]
  congr 1
  apply List.map_congr_left
  intro v _
  exact jx_V_cat α v
def jRm (d mc ms : Nat) : Room := { frames := d, cells := mc, slots := ms, locals := 64 * d }
/-- the words of a method -/
def jWs (TB : List Jvm.Cond) (M : jM) : List Jvm.Cond := jCode M.1 M.2.1 M.2.2.1 M.2.2.2.1 (M.2.2.2.2.2.2.2.map (fun q => q.1)) :: TB
/-- what the main row says of a run -/
def jRow (l : Launch) (D : va_G) (cl : List vw_C) (tys : List (ClassId × FieldType)) (α : Nat → Nat) (dA : FieldType → ClassId) (K sz : Nat) (SP : State → Prop) (TB : List Jvm.Cond) (hd0 : jH) (T : jT) (d : Nat) (M : jM) (pc : Nat) (lv : List (Nat × Value)) (st : List Value) (h : jH) (o : Option Value ⊕ Nat) (h' : jH) : Prop :=
  h'.take K = hd0 ∧ h.length ≤ h'.length ∧ jtot h ≤ jtot h' ∧
  ∀ (p : Program) (e : Env) (R : Room) (s : State) (m : MethodId) (args : Array Value) (below : List Frame) (meth : Method) (c : Code) (Q : State → Prop) (n0 t0 : Nat),
    jEnvM D cl tys α K sz SP TB T p s m args meth c M n0 → n0 ≤ h.length → t0 ≤ jtot h → d ≤ R.frames → 64 * d ≤ R.locals → h'.length - n0 ≤ R.cells → jtot h' - t0 ≤ R.slots →
    (∀ v, o = .inl v → jFin D cl α dA K sz p l e R s m args below meth c M.2.1 M.2.2.2.1 n0 t0 Q v h') → (∀ a, o = .inr a → jFinT D cl α dA K sz p l e R s m args below meth c n0 t0 Q a h') →
    ∀ (ls : Array Slot) (H : Heap) (locs : List Loc), lv_has ls M.2.2.1 (lv.map (jx_L α)) → jRel D cl α dA K sz h s H locs → W p l e R s m args below meth c H locs (h.length - n0) (jtot h - t0) Q (F0 m pc ls (st.map (jx_V α)))
theorem jB_blind (hSPm : ∀ (u U : State), u.WarmedH U.vm → (∀ q : Nat, q < sz → U.heap[q]? = u.heap[q]?) → SP u → SP U) (as : List Value) (h : jH) : FrameBlind (jPc D cl tys α dA K sz SP as h) := by
  intro a U g mk q
  obtain ⟨q0, q1, q2, q3, q4, q5⟩ := q
  exact ⟨q0, q1, q2, q3, va_K.moved (u := U) (U := U.calling g mk a) (Vm.Alike.refl U.vm) q4, hSPm U (U.calling g mk a) (State.WarmedH.refl U) (fun _ _ => rfl) q5⟩
/-- a callee's contract out of the row of its run -/
theorem jmet (O : jOK D cl tys α dA K sz SP TB hd0 T) {z : Nat} {Z : jM} (hz : T.2.2.1 z = some Z) {d : Nat} {as : List Value} {h h' : jH} {o : Option Value ⊕ Nat} (hrow : jRow l D cl tys α dA K sz SP TB hd0 T d Z 0 (lv_args 0 as) [] h o h') (hKl : K ≤ h.length) (hsl : ¬ Z.2.2.1 < (lg_sl as).length) :
    jMet l Z.1 (jWs TB Z) (jRm d (h'.length - h.length) (jtot h' - jtot h)) (jPc D cl tys α dA K sz SP as h) (jQo D cl tys α dA K sz SP (jout α o) h') (h'.length - h.length) (jtot h' - jtot h) (fun q => sz ≤ q) := by
  obtain ⟨hα, ⟨hd0l, hinj⟩, hgood, harr, hSPm, hscr, hmt⟩ := O
  obtain ⟨hpl, hyn, hin, hcd, hini, hmk⟩ := hmt z Z hz
  obtain ⟨-, hlen, htot, hW⟩ := hrow
  refine jMet.ofC hpl rfl ?_
  intro p e s m args below meth c s₁ B hml hex hP
  obtain ⟨rfl, q1, q2, q3, q4, q5⟩ := hP
  have hts := atoms_spec (ws := jWs TB Z) B.pre
  have hv : jEnvM D cl tys α K sz SP TB T p s m ((as.map (jx_V α)).toArray) meth c Z h.length :=
    ⟨⟨B.exec, B.bytes, hml, findClass_of_methodNamed B.named, fun w hw => hts w (List.mem_cons_of_mem _ hw), fun hi => (name_of_methodNamed B.named B.method).1.trans (hin hi), q4, q5, hKl, q2, hmk⟩, hex⟩
  rw [lg_entry_eq]
  have hl := lv_entry (as.map (jx_V α)) (n := Z.2.2.1) (by rw [lg_sl_map]; exact Nat.le_of_not_lt hsl)
  rw [← lv_args_map] at hl
  have k := hW p e (headSpec (jWs TB Z) (jRm d (h'.length - h.length) (jtot h' - jtot h))).room s m _ below meth c (jMQ below (jQo D cl tys α dA K sz SP (jout α o) h') (as.map (jx_V α)).toArray s (h'.length - h.length) (jtot h' - jtot h) (fun q => sz ≤ q)) h.length (jtot h) hv
    (Nat.le_refl _) (Nat.le_refl _) (Nat.le_refl _) (Nat.le_refl _) (Nat.le_refl _) (Nat.le_refl _)
    (fun v hv9 => by subst hv9; exact jfin_of hα hSPm B.exec B.bytes B.returns B.notSynchronized q4 q5 hKl q2 hlen)
    (fun a ha9 => by subst ha9; exact jfinT_of hα hSPm B.notSynchronized q4 q5 hKl q2 hlen)
    _ s.heap [] hl ⟨hKl, q3, va_S.rf⟩
  rw [Nat.sub_self, Nat.sub_self] at k
  exact k
end JMain
