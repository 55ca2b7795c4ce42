section JR
variable {l : Launch} {D : va_G} {cl : List vw_C} {tys : List (ClassId × FieldType)} {α : Nat → Nat} {dA : FieldType → ClassId} {K sz : Nat} {SP : State → Prop}
variable {p : Program} {e : Env} {R : Room} {s : State} {m : MethodId} {args : Array Value} {below : List Frame} {meth : Method} {c : Code} {H : Heap} {locs : List Loc} {cells slots : Nat} {Q : State → Prop}
/-- the picture of a whole heap at a state -/
def jB (D : va_G) (cl : List vw_C) (tys : List (ClassId × FieldType)) (α : Nat → Nat) (dA : FieldType → ClassId) (K sz : Nat) (SP : State → Prop) (h : jH) (U : State) : Prop :=
  K ≤ h.length ∧ U.heap.size = sz + (h.length - K) ∧ va_P D cl (jx_ws α dA K h) U.heap ∧ va_K D cl tys U ∧ SP U
def jPc (D : va_G) (cl : List vw_C) (tys : List (ClassId × FieldType)) (α : Nat → Nat) (dA : FieldType → ClassId) (K sz : Nat) (SP : State → Prop) (as : List Value) (h : jH) : Array Value → State → Prop :=
  fun a U => a = (as.map (jx_V α)).toArray ∧ jB D cl tys α dA K sz SP h U
def jQo (D : va_G) (cl : List vw_C) (tys : List (ClassId × FieldType)) (α : Nat → Nat) (dA : FieldType → ClassId) (K sz : Nat) (SP : State → Prop) (o : Outcome) (h : jH) : Array Value → State → Outcome → State → Prop :=
  fun _ st o' t => o' = o ∧ jB D cl tys α dA K sz SP h t ∧ va_F (fun q => sz ≤ q) st t
def jout (α : Nat → Nat) : (Option Value ⊕ Nat) → Outcome
  | .inl v => .returned (v.map (jx_V α))
  | .inr a => .threw (α a)
/-- the machine is throwing a out of the frame g -/
def WT (p : Program) (l : Launch) (e : Env) (R : Room) (s : State) (m : MethodId) (args : Array Value) (below : List Frame) (meth : Method) (c : Code) (H : Heap) (locs : List Loc) (cells slots : Nat) (Q : State → Prop) (g : JFrame) (a : Addr) : Prop :=
  ∀ T : State, T.heap = H → Stand p l e R s m args below meth c T locs cells slots → ∃ t, Steps p.tables e below ((T.setTop g).pushFrame (.throwing a)) t ∧ Q t
theorem jcallW {y : MethodName} {ws : List Jvm.Cond} {rm : Room} {Pc : Array Value → State → Prop} {mc ms : Nat} {bytes : ByteArray} {maxL : Nat} {ret : Option FieldType} {hh : List (Nat × Nat × Nat × Nat)} {o : Option Value ⊕ Nat} {h' : jH} {g : JFrame} {rest : List Value} {av : Array Value} {ig : Instr}
    (hM : jMet l y ws rm Pc (jQo D cl tys α dA K sz SP (jout α o) h') mc ms (fun q => sz ≤ q)) (hblind : FrameBlind Pc) (hrc : rm.cells = mc) (hrs : rm.slots = ms) (hframes : rm.frames + 1 ≤ R.frames) (hlocals : 8 + (maxL + 11) + rm.locals ≤ R.locals)
    (hws : ∀ w ∈ ws, ∀ (a' : Array Value) (U : State), s.WarmedH U.vm → w.before a' U = true) (hcode : jCode y bytes maxL ret hh ∈ ws) (hini : ∀ (a' : Array Value) (U : State), s.WarmedH U.vm → (Jvm.Cond.initialized y.cls).before a' U = true)
    (hg : g.method = m) (hsize : g.locals.size = c.maxLocals) (hdg : decode c.code g.pc = .ok (ig, 3)) (hW : 2 * g.monitorRoom + (rest.map fun v => v.category).sum ≤ 8) (hc : cells + mc ≤ R.cells) (hs : slots + ms ≤ R.slots)
    (hPc : ∀ U : State, U.heap = H → s.WarmedH U.vm → Pc av U) (hS : va_S (fun q => sz ≤ q) s.heap H locs)
    (hinv : ∀ T : State, T.heap = H → Stand p l e R s m args below meth c T locs cells slots → jInvk p l e R s m args below meth c T locs cells slots g rest y av)
    (kr : ∀ v, o = .inl v → ∀ (H1 : Heap) (locs1 : List Loc), jRel D cl α dA K sz h' s H1 locs1 → W p l e R s m args below meth c H1 locs1 (cells + mc) (slots + ms) Q { g with pc := g.pc + 3, stack := (v.map (jx_V α)).toList ++ rest })
    (kt : ∀ a, o = .inr a → ∀ (H1 : Heap) (locs1 : List Loc), jRel D cl α dA K sz h' s H1 locs1 → WT p l e R s m args below meth c H1 locs1 (cells + mc) (slots + ms) Q { g with stack := rest } (α a)) :
    W p l e R s m args below meth c H locs cells slots Q g := by
  intro T hT X
  obtain ⟨mk, vm₁, hW₁, hn, X₁, hgo⟩ := hinv T hT X
  obtain ⟨o1, t, T', L, X', hL, e1, e2, ⟨ho, ⟨hK, hz, hP, -, -⟩, hF1, hF2⟩, hend⟩ := jinv (Wt := 8) hM hblind hrc hrs hframes hlocals hws hcode hini X₁ (g := { g with stack := rest }) hg hsize hdg hW hn hc hs (hPc _ hT hW₁)
  have hF1' : H.size ≤ t.heap.size := by
    have : (T.setVm vm₁).heap.size ≤ t.heap.size := hF1
    rw [← hT]
    exact this
  have hF2' : ∀ q : Nat, q < H.size → ¬ sz ≤ q → t.heap[q]? = H[q]? := fun q h1 h2 => by
    have := hF2 q (by show q < T.heap.size; rw [hT]; exact h1) h2
    rw [← hT]
    exact this
  have hR : jRel D cl α dA K sz h' s T'.heap (locs ++ L) :=
    ⟨hK, by rw [e1]; exact hP, ⟨Nat.le_trans hS.1 (by rw [e1]; exact hF1'), fun q h1 h2 => by rw [e1, hF2' q (Nat.lt_of_lt_of_le h1 hS.1) h2]; exact hS.2.1 q h1 h2, fun q hq => by
      rcases List.mem_append.mp hq with h | h
      · exact hS.2.2 q h
      · exact hL q h⟩⟩
  rcases hend with ⟨v, hv, hsteps⟩ | ⟨x, hx, hsteps⟩
  · rw [hv] at ho
    cases o with
    | inl v0 =>
      have hv0 : v = v0.map (jx_V α) := Outcome.returned.inj ho
      subst hv0
      obtain ⟨t2, a1, b1⟩ := kr v0 rfl T'.heap (locs ++ L) hR T' rfl X'
      exact ⟨t2, hgo t2 (hsteps.trans a1), b1⟩
    | inr a0 => cases ho
  · rw [hx] at ho
    cases o with
    | inl v0 => cases ho
    | inr a0 =>
      have hx0 : x = α a0 := Outcome.threw.inj ho
      subst hx0
      obtain ⟨t2, a1, b1⟩ := kt a0 rfl T'.heap (locs ++ L) hR T' rfl X'
      exact ⟨t2, hgo t2 (hsteps.trans a1), b1⟩
theorem WT.leave {Qc : Array Value → State → Outcome → State → Prop} {free : Addr → Prop} {pc : Nat} {ls : Array Slot} {st : List Value} {a : Addr} (hlocks : meth.locks = false) (hout : ∀ x ∈ c.exceptionTable.toList, covers x pc = false)
    (hq : ∀ t : State, t.heap = H → s.WarmedH t.vm → Qc args s (.threw a) t) (hf : ∀ q ∈ locs, free q.base) : WT p l e R s m args below meth c H locs cells slots (jMQ below Qc args s cells slots free) (F0 m pc ls st) a := by
  intro T hT X
  obtain ⟨h1, h2, h3, h4, h5⟩ := X.leaveThrown a (g := F0 m pc ls st) rfl rfl rfl hout hlocks
  exact ⟨_, h1, .threw a, h2, h3, hq _ hT h4, locs, ⟨h4, h5⟩, hf⟩
end JR
