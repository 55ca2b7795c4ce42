section
/-! THE SMALL MACHINE: an executable picture of the bytecode over a heap that is a list; jx_ = its meaning in the kit's words -/
abbrev jC : Type := (FieldType × vp_A) ⊕ (Nat × List Value)
abbrev jH : Type := List jC
/-- pc, locals, stack, heap -/
abbrev jS : Type := Nat × List (Nat × Value) × List Value × jH
def jx_V (α : Nat → Nat) : Value → Value
  | .ref a => .ref (α a)
  | v => v
def jx_L (α : Nat → Nat) (q : Nat × Value) : Nat × Value := (q.1, jx_V α q.2)
def jx_A (α : Nat → Nat) : vp_A → vp_A
  | (n, .inr (.inr (.inr (.inr f)))) => (n, .inr (.inr (.inr (.inr (fun i => (f i).map α)))))
  | a => a
def jx_E (α : Nat → Nat) (dA : FieldType → ClassId) : jC → va_E
  | .inl (ty, a) => .inl (dA ty, jx_A α a)
  | .inr (ci, fs) => .inr (ci, fs.map (jx_V α))
def jx_ws (α : Nat → Nat) (dA : FieldType → ClassId) (K : Nat) (h : jH) : va_W := (h.drop K).mapIdx (fun i c => (α (K + i), jx_E α dA c))
theorem jx_V_cat (α : Nat → Nat) (v : Value) : (jx_V α v).category = v.category := by cases v <;> rfl
theorem jx_ws_get {α : Nat → Nat} {dA : FieldType → ClassId} {K a : Nat} {h : jH} {c : jC} (ha : h[a]? = some c) (hK : K ≤ a) : (jx_ws α dA K h)[a - K]? = some (α a, jx_E α dA c) := by
  unfold jx_ws
  rw [List.getElem?_mapIdx, List.getElem?_drop, show K + (a - K) = a by omega, ha]
  rfl
theorem jx_ws_len {α : Nat → Nat} {dA : FieldType → ClassId} {K : Nat} {h : jH} : (jx_ws α dA K h).length = h.length - K := by
  simp [jx_ws]
theorem jx_ws_set {α : Nat → Nat} {dA : FieldType → ClassId} {K a : Nat} {h : jH} {c : jC} (hK : K ≤ a) : jx_ws α dA K (h.set a c) = (jx_ws α dA K h).set (a - K) (α a, jx_E α dA c) := by
  apply List.ext_getElem?
  intro i
  unfold jx_ws
  rw [List.getElem?_mapIdx, List.getElem?_drop, List.getElem?_set, List.getElem?_set, List.getElem?_mapIdx, List.getElem?_drop]
  by_cases hi : a = K + i
  · subst hi
    have e : K + i - K = i := by omega
    simp only [e, if_true, List.length_mapIdx, List.length_drop]
    by_cases hl : K + i < h.length
    · rw [if_pos hl, if_pos (by omega)]; rfl
    · rw [if_neg hl, if_neg (by omega)]; rfl
  · rw [if_neg hi, if_neg (by omega)]
theorem jx_ws_push {α : Nat → Nat} {dA : FieldType → ClassId} {K : Nat} {h : jH} {c : jC} (hK : K ≤ h.length) : jx_ws α dA K (h ++ [c]) = jx_ws α dA K h ++ [(α h.length, jx_E α dA c)] := by
  unfold jx_ws
  rw [List.drop_append_of_le_length hK, List.mapIdx_append]
  have e : K + (h.length - K) = h.length := by omega
  simp [e]
/-- locals -/
def jld (i : Nat) : List (Nat × Value) → Option Value
  | [] => none
  | q :: r => if q.1 = i then some q.2 else jld i r
def jst1 (i : Nat) (v : Value) (lv : List (Nat × Value)) : List (Nat × Value) := (i, v) :: lv.filter (fun q => !(q.1 == i) && !(q.1 + 1 == i && q.2.category == 2))
def jst2 (i : Nat) (v : Value) (lv : List (Nat × Value)) : List (Nat × Value) := (i, v) :: lv.filter (fun q => !(q.1 == i) && (!(q.1 == i + 1) && !(q.1 + 1 == i && q.2.category == 2)))
theorem jld_mem {i : Nat} {v : Value} : ∀ {lv : List (Nat × Value)}, jld i lv = some v → (i, v) ∈ lv
  | [], h => by cases h
  | q :: r, h => by
    unfold jld at h
    by_cases hq : q.1 = i
    · rw [if_pos hq] at h
      cases h
      subst hq
      exact List.mem_cons_self
    · rw [if_neg hq] at h
      exact List.mem_cons_of_mem _ (jld_mem h)
theorem jld_at {α : Nat → Nat} {ls : Array Slot} {n i : Nat} {v : Value} {lv : List (Nat × Value)} (hl : lv_has ls n (lv.map (jx_L α))) (h : jld i lv = some v) : ls[i]? = some (.val (jx_V α v)) :=
  hl.2.2 (i, jx_V α v) (List.mem_map.mpr ⟨(i, v), jld_mem h, rfl⟩)
theorem jst1_map {α : Nat → Nat} {i : Nat} {v : Value} {lv : List (Nat × Value)} : (jst1 i v lv).map (jx_L α) = (i, jx_V α v) :: (lv.map (jx_L α)).filter (fun q => !(q.1 == i) && !(q.1 + 1 == i && q.2.category == 2)) := by
  unfold jst1
  rw [List.map_cons, List.filter_map]
  refine congrArg (List.cons _) (congrArg (List.map _) (List.filter_congr (fun q _ => ?_)))
  simp [jx_L, jx_V_cat]
theorem jst2_map {α : Nat → Nat} {i : Nat} {v : Value} {lv : List (Nat × Value)} : (jst2 i v lv).map (jx_L α) = (i, jx_V α v) :: (lv.map (jx_L α)).filter (fun q => !(q.1 == i) && (!(q.1 == i + 1) && !(q.1 + 1 == i && q.2.category == 2))) := by
  unfold jst2
  rw [List.map_cons, List.filter_map]
  refine congrArg (List.cons _) (congrArg (List.map _) (List.filter_congr (fun q _ => ?_)))
  simp [jx_L, jx_V_cat]
/-- stack words -/
def j2i (f : Int32 → Int32 → Int32) : List Value → Option (List Value)
  | .int y :: .int x :: r => some (.int (f x y) :: r)
  | _ => none
def j2l (f : Int64 → Int64 → Int64) : List Value → Option (List Value)
  | .long y :: .long x :: r => some (.long (f x y) :: r)
  | _ => none
def jsl (f : Int64 → Int32 → Int64) : List Value → Option (List Value)
  | .int y :: .long x :: r => some (.long (f x y) :: r)
  | _ => none
def j1i (f : Int32 → Int32) : List Value → Option (List Value)
  | .int x :: r => some (.int (f x) :: r)
  | _ => none
theorem j2i_inv {f : Int32 → Int32 → Int32} {st st' : List Value} (h : j2i f st = some st') : ∃ x y r, st = .int y :: .int x :: r ∧ st' = .int (f x y) :: r := by
  unfold j2i at h
  split at h
  · cases h; exact ⟨_, _, _, rfl, rfl⟩
  · cases h
theorem j2l_inv {f : Int64 → Int64 → Int64} {st st' : List Value} (h : j2l f st = some st') : ∃ x y r, st = .long y :: .long x :: r ∧ st' = .long (f x y) :: r := by
  unfold j2l at h
  split at h
  · cases h; exact ⟨_, _, _, rfl, rfl⟩
  · cases h
theorem jsl_inv {f : Int64 → Int32 → Int64} {st st' : List Value} (h : jsl f st = some st') : ∃ x y r, st = .int y :: .long x :: r ∧ st' = .long (f x y) :: r := by
  unfold jsl at h
  split at h
  · cases h; exact ⟨_, _, _, rfl, rfl⟩
  · cases h
theorem j1i_inv {f : Int32 → Int32} {st st' : List Value} (h : j1i f st = some st') : ∃ x r, st = .int x :: r ∧ st' = .int (f x) :: r := by
  unfold j1i at h
  split at h
  · cases h; exact ⟨_, _, rfl, rfl⟩
  · cases h
end
section
/-- words that touch the stack alone: the new stack, the word's length -/
def jstk (i : Instr) (st : List Value) : Option (List Value × Nat) := match i with
  | .iconst n => some (.int (Int32.ofInt n) :: st, 1)
  | .bipush n => some (.int (Int8.ofInt n).toInt32 :: st, 2)
  | .sipush n => some (.int (Int16.ofInt n).toInt32 :: st, 3)
  | .lconst n => some (.long (Int64.ofNat n.val) :: st, 1)
  | .aconst_null => some (.null :: st, 1)
  | .iadd => (j2i (fun x y => x + y) st).map (fun r => (r, 1))
  | .isub => (j2i (fun x y => x - y) st).map (fun r => (r, 1))
  | .imul => (j2i (fun x y => x * y) st).map (fun r => (r, 1))
  | .iand => (j2i (fun x y => x &&& y) st).map (fun r => (r, 1))
  | .ior => (j2i (fun x y => x ||| y) st).map (fun r => (r, 1))
  | .ixor => (j2i (fun x y => x ^^^ y) st).map (fun r => (r, 1))
  | .ishl => (j2i (fun x y => x <<< (y &&& 31)) st).map (fun r => (r, 1))
  | .ishr => (j2i (fun x y => x >>> (y &&& 31)) st).map (fun r => (r, 1))
  | .iushr => (j2i (fun x y => (x.toUInt32 >>> (y.toUInt32 &&& Int32.toUInt32 31)).toInt32) st).map (fun r => (r, 1))
  | .ladd => (j2l (fun x y => x + y) st).map (fun r => (r, 1))
  | .lsub => (j2l (fun x y => x - y) st).map (fun r => (r, 1))
  | .land => (j2l (fun x y => x &&& y) st).map (fun r => (r, 1))
  | .lor => (j2l (fun x y => x ||| y) st).map (fun r => (r, 1))
  | .lxor => (j2l (fun x y => x ^^^ y) st).map (fun r => (r, 1))
  | .lshl => (jsl (fun x y => x <<< (y.toInt64 &&& 63)) st).map (fun r => (r, 1))
  | .lshr => (jsl (fun x y => x >>> (y.toInt64 &&& 63)) st).map (fun r => (r, 1))
  | .lushr => (jsl (fun x y => (x.toUInt64 >>> (y.toInt64.toUInt64 &&& Int64.toUInt64 63)).toInt64) st).map (fun r => (r, 1))
  | .ineg => (j1i (fun x => -x) st).map (fun r => (r, 1))
  | .i2b => (j1i (fun x => x.toInt8.toInt32) st).map (fun r => (r, 1))
  | .i2s => (j1i (fun x => x.toInt16.toInt32) st).map (fun r => (r, 1))
  | .i2c => (j1i (fun x => (x.toUInt32 % 65536).toInt32) st).map (fun r => (r, 1))
  | .i2l => match st with
    | .int x :: r => some (.long x.toInt64 :: r, 1)
    | _ => none
  | .l2i => match st with
    | .long x :: r => some (.int x.toInt32 :: r, 1)
    | _ => none
  | .lcmp => match st with
    | .long y :: .long x :: r => some (.int (lg_cmp x y) :: r, 1)
    | _ => none
  | .dup => match st with
    | v :: r => if v.category = 1 then some (v :: v :: r, 1) else none
    | _ => none
  | .pop => match st with
    | v :: r => if v.category = 1 then some (r, 1) else none
    | _ => none
  | .dup_x1 => match st with
    | v :: w :: r => if v.category = 1 ∧ w.category = 1 then some (v :: w :: v :: r, 1) else none
    | _ => none
  | .dup2 => match st with
    | v :: w :: r => if v.category = 1 ∧ w.category = 1 then some (v :: w :: v :: w :: r, 1) else none
    | _ => none
  | _ => none
section JW2
variable {p : Program} {l : Launch} {e : Env} {R : Room} {s : State} {m : MethodId} {args : Array Value} {below : List Frame} {meth : Method} {c : Code} {H : Heap} {locs : List Loc} {cells slots : Nat} {Q : State → Prop} {cc : ByteArray} {pc : Nat} {ls : Array Slot} {α : Nat → Nat}
set_option maxHeartbeats 1000000 in
theorem jstk_ok (hx : p.tables.exec = Jvm.exec) (hb : c.code = cc) {i : Instr} {st st' : List Value} {len : Nat} (h : jstk i st = some (st', len)) (hd : decode cc pc = .ok (i, len)) (k : W p l e R s m args below meth c H locs cells slots Q (F0 m (pc + len) ls (st'.map (jx_V α)))) : W p l e R s m args below meth c H locs cells slots Q (F0 m (pc) ls (st.map (jx_V α))) := by
  unfold jstk at h
  split at h
  · cases h; exact lv_iconst hx hb hd rfl k
  · cases h; exact lv_bipush hx hb hd rfl k
  · cases h; exact lv_sipush hx hb hd rfl k
  · cases h; exact lv_lconst hx hb hd rfl k
  · cases h; exact lv_null hx hb hd k
  · obtain ⟨r, hr, e1⟩ := Option.map_eq_some_iff.mp h
    cases e1
    obtain ⟨x, y, r', rfl, rfl⟩ := j2i_inv hr
    exact lv_iadd hx hb hd k
  · obtain ⟨r, hr, e1⟩ := Option.map_eq_some_iff.mp h
    cases e1
    obtain ⟨x, y, r', rfl, rfl⟩ := j2i_inv hr
    exact lv_isub hx hb hd k
  · obtain ⟨r, hr, e1⟩ := Option.map_eq_some_iff.mp h
    cases e1
    obtain ⟨x, y, r', rfl, rfl⟩ := j2i_inv hr
    exact lv_imul hx hb hd k
  · obtain ⟨r, hr, e1⟩ := Option.map_eq_some_iff.mp h
    cases e1
    obtain ⟨x, y, r', rfl, rfl⟩ := j2i_inv hr
    exact lv_iand hx hb hd k
  · obtain ⟨r, hr, e1⟩ := Option.map_eq_some_iff.mp h
    cases e1
    obtain ⟨x, y, r', rfl, rfl⟩ := j2i_inv hr
    exact lv_ior hx hb hd k
  · obtain ⟨r, hr, e1⟩ := Option.map_eq_some_iff.mp h
    cases e1
    obtain ⟨x, y, r', rfl, rfl⟩ := j2i_inv hr
    exact lv_ixor hx hb hd k
  · obtain ⟨r, hr, e1⟩ := Option.map_eq_some_iff.mp h
    cases e1
    obtain ⟨x, y, r', rfl, rfl⟩ := j2i_inv hr
    exact lv_ishl hx hb hd k
  · obtain ⟨r, hr, e1⟩ := Option.map_eq_some_iff.mp h
    cases e1
    obtain ⟨x, y, r', rfl, rfl⟩ := j2i_inv hr
    exact lv_ishr hx hb hd k
  · obtain ⟨r, hr, e1⟩ := Option.map_eq_some_iff.mp h
    cases e1
    obtain ⟨x, y, r', rfl, rfl⟩ := j2i_inv hr
    exact lv_iushr hx hb hd rfl k
  · obtain ⟨r, hr, e1⟩ := Option.map_eq_some_iff.mp h
    cases e1
    obtain ⟨x, y, r', rfl, rfl⟩ := j2l_inv hr
    exact lv_ladd hx hb hd k
  · obtain ⟨r, hr, e1⟩ := Option.map_eq_some_iff.mp h
    cases e1
    obtain ⟨x, y, r', rfl, rfl⟩ := j2l_inv hr
    exact lv_lsub hx hb hd k
  · obtain ⟨r, hr, e1⟩ := Option.map_eq_some_iff.mp h
    cases e1
    obtain ⟨x, y, r', rfl, rfl⟩ := j2l_inv hr
    exact lv_land hx hb hd k
  · obtain ⟨r, hr, e1⟩ := Option.map_eq_some_iff.mp h
    cases e1
    obtain ⟨x, y, r', rfl, rfl⟩ := j2l_inv hr
    exact lv_lor hx hb hd k
  · obtain ⟨r, hr, e1⟩ := Option.map_eq_some_iff.mp h
    cases e1
    obtain ⟨x, y, r', rfl, rfl⟩ := j2l_inv hr
    exact lv_lxor hx hb hd k
  · obtain ⟨r, hr, e1⟩ := Option.map_eq_some_iff.mp h
    cases e1
    obtain ⟨x, y, r', rfl, rfl⟩ := jsl_inv hr
    exact lv_lshl hx hb hd rfl k
  · obtain ⟨r, hr, e1⟩ := Option.map_eq_some_iff.mp h
    cases e1
    obtain ⟨x, y, r', rfl, rfl⟩ := jsl_inv hr
    exact lv_lshr hx hb hd rfl k
  · obtain ⟨r, hr, e1⟩ := Option.map_eq_some_iff.mp h
    cases e1
    obtain ⟨x, y, r', rfl, rfl⟩ := jsl_inv hr
    exact lv_lushr hx hb hd rfl k
  · obtain ⟨r, hr, e1⟩ := Option.map_eq_some_iff.mp h
    cases e1
    obtain ⟨x, r', rfl, rfl⟩ := j1i_inv hr
    exact lv_ineg hx hb hd  k
  · obtain ⟨r, hr, e1⟩ := Option.map_eq_some_iff.mp h
    cases e1
    obtain ⟨x, r', rfl, rfl⟩ := j1i_inv hr
    exact lv_i2b hx hb hd rfl k
  · obtain ⟨r, hr, e1⟩ := Option.map_eq_some_iff.mp h
    cases e1
    obtain ⟨x, r', rfl, rfl⟩ := j1i_inv hr
    exact lv_i2s hx hb hd rfl k
  · obtain ⟨r, hr, e1⟩ := Option.map_eq_some_iff.mp h
    cases e1
    obtain ⟨x, r', rfl, rfl⟩ := j1i_inv hr
    exact lv_i2c hx hb hd rfl k
  · split at h
    · cases h; exact lv_i2l hx hb hd rfl k
    · cases h
  · split at h
    · cases h; exact lv_l2i hx hb hd rfl k
    · cases h
  · split at h
    · cases h; exact W.lcmp hx hb hd k
    · cases h
  · split at h
    · split at h
      · rename_i hv; cases h; exact lv_dup hx hb hd (by rw [jx_V_cat]; exact hv) k
      · cases h
    · cases h
  · split at h
    · split at h
      · rename_i hv; cases h; exact lv_pop hx hb hd (by rw [jx_V_cat]; exact hv) k
      · cases h
    · cases h
  · split at h
    · split at h
      · rename_i hv; cases h; exact lv_dup_x1 hx hb hd (by rw [jx_V_cat]; exact hv.1) (by rw [jx_V_cat]; exact hv.2) k
      · cases h
    · cases h
  · split at h
    · split at h
      · rename_i hv; cases h; exact lv_dup2_11 hx hb hd (by rw [jx_V_cat]; exact hv.1) (by rw [jx_V_cat]; exact hv.2) k
      · cases h
    · cases h
  · cases h
end JW2
/-- words that touch locals and stack -/
def jloc (i : Instr) (nL : Nat) (lv : List (Nat × Value)) (st : List Value) : Option (List (Nat × Value) × List Value × Nat) := match i with
  | .iload k => match jld k lv with
    | some (.int x) => some (lv, .int x :: st, 2)
    | _ => none
  | .iload_n k => match jld k.val lv with
    | some (.int x) => some (lv, .int x :: st, 1)
    | _ => none
  | .lload k => match jld k lv with
    | some (.long x) => some (lv, .long x :: st, 2)
    | _ => none
  | .lload_n k => match jld k.val lv with
    | some (.long x) => some (lv, .long x :: st, 1)
    | _ => none
  | .aload k => match jld k lv with
    | some (.ref x) => some (lv, .ref x :: st, 2)
    | some (.null) => some (lv, .null :: st, 2)
    | _ => none
  | .aload_n k => match jld k.val lv with
    | some (.ref x) => some (lv, .ref x :: st, 1)
    | some (.null) => some (lv, .null :: st, 1)
    | _ => none
  | .istore k => match st with
    | .int x :: r => if k < nL then some (jst1 k (.int x) lv, r, 2) else none
    | _ => none
  | .istore_n k => match st with
    | .int x :: r => if k.val < nL then some (jst1 k.val (.int x) lv, r, 1) else none
    | _ => none
  | .lstore k => match st with
    | .long x :: r => if k + 1 < nL then some (jst2 k (.long x) lv, r, 2) else none
    | _ => none
  | .lstore_n k => match st with
    | .long x :: r => if k.val + 1 < nL then some (jst2 k.val (.long x) lv, r, 1) else none
    | _ => none
  | .astore k => match st with
    | .ref x :: r => if k < nL then some (jst1 k (.ref x) lv, r, 2) else none
    | .null :: r => if k < nL then some (jst1 k (.null) lv, r, 2) else none
    | _ => none
  | .astore_n k => match st with
    | .ref x :: r => if k.val < nL then some (jst1 k.val (.ref x) lv, r, 1) else none
    | .null :: r => if k.val < nL then some (jst1 k.val (.null) lv, r, 1) else none
    | _ => none
  | .iinc k n => match jld k lv with
    | some (.int x) => if k < nL then some (jst1 k (.int (x + Int32.ofInt n)) lv, st, 3) else none
    | _ => none
  | _ => none
section JW3
variable {p : Program} {l : Launch} {e : Env} {R : Room} {s : State} {m : MethodId} {args : Array Value} {below : List Frame} {meth : Method} {c : Code} {H : Heap} {locs : List Loc} {cells slots : Nat} {Q : State → Prop} {cc : ByteArray} {pc : Nat} {ls : Array Slot} {α : Nat → Nat}
set_option maxHeartbeats 1000000 in
theorem jloc_ok (hx : p.tables.exec = Jvm.exec) (hb : c.code = cc) {i : Instr} {nL : Nat} {lv lv' : List (Nat × Value)} {st st' : List Value} {len : Nat} (h : jloc i nL lv st = some (lv', st', len)) (hd : decode cc pc = .ok (i, len)) (hl : lv_has ls nL (lv.map (jx_L α))) (kk : ∀ ls' : Array Slot, lv_has ls' nL (lv'.map (jx_L α)) → W p l e R s m args below meth c H locs cells slots Q (F0 m (pc + len) ls' (st'.map (jx_V α)))) : W p l e R s m args below meth c H locs cells slots Q (F0 m (pc) ls (st.map (jx_V α))) := by
  unfold jloc at h
  split at h
  · split at h
    · rename_i hq; cases h; exact lv_iload hx hb hd (jld_at hl hq) (kk ls hl)
    · cases h
  · split at h
    · rename_i hq; cases h; exact lv_iload_n hx hb hd rfl (jld_at hl hq) (kk ls hl)
    · cases h
  · split at h
    · rename_i hq; cases h; exact lv_lload hx hb hd (jld_at hl hq) (kk ls hl)
    · cases h
  · split at h
    · rename_i hq; cases h; exact lv_lload_n hx hb hd rfl (jld_at hl hq) (kk ls hl)
    · cases h
  · split at h
    · rename_i hq; cases h; exact lv_aload hx hb hd (jld_at hl hq) (kk ls hl)
    · rename_i hq; cases h; exact lv_aloadN hx hb hd (jld_at hl hq) (kk ls hl)
    · cases h
  · split at h
    · rename_i hq; cases h; exact lv_aload_n hx hb hd rfl (jld_at hl hq) (kk ls hl)
    · rename_i hq; cases h; exact lv_aload_nN hx hb hd rfl (jld_at hl hq) (kk ls hl)
    · cases h
  · split at h
    · split at h
      · rename_i hn; cases h; exact lv_istore hx hb hd hl hn (by rw [jst1_map]; rfl) kk
      · cases h
    · cases h
  · split at h
    · split at h
      · rename_i hn; cases h; exact lv_istore_n hx hb hd rfl hl hn (by rw [jst1_map]; rfl) kk
      · cases h
    · cases h
  · split at h
    · split at h
      · rename_i hn; cases h; exact lv_lstore hx hb hd hl hn (by rw [jst2_map]; rfl) kk
      · cases h
    · cases h
  · split at h
    · split at h
      · rename_i hn; cases h; exact lv_lstore_n hx hb hd rfl hl hn (by rw [jst2_map]; rfl) kk
      · cases h
    · cases h
  · split at h
    · split at h
      · rename_i hn; cases h; exact lv_astore hx hb hd hl hn (by rw [jst1_map]; rfl) kk
      · cases h
    · split at h
      · rename_i hn; cases h; exact lv_astoreN hx hb hd hl hn (by rw [jst1_map]; rfl) kk
      · cases h
    · cases h
  · split at h
    · split at h
      · rename_i hn; cases h; exact lv_astore_n hx hb hd rfl hl hn (by rw [jst1_map]; rfl) kk
      · cases h
    · split at h
      · rename_i hn; cases h; exact lv_astore_nN hx hb hd rfl hl hn (by rw [jst1_map]; rfl) kk
      · cases h
    · cases h
  · split at h
    · rename_i hq; split at h
      · rename_i hn; cases h
        obtain ⟨k9, hk9⟩ := List.getElem?_of_mem (List.mem_map.mpr ⟨_, jld_mem hq, rfl⟩ : jx_L α _ ∈ lv.map (jx_L α))
        exact lv_iinc hx hb hd hl hk9 rfl hn (by rw [jst1_map]; rfl) kk
      · cases h
    · cases h
  · cases h
end JW3
def jtgt (pc : Nat) (off : Int) : Option Nat := if 0 ≤ (pc : Int) + off then some ((pc : Int) + off).toNat else none
theorem jtgt_eq {pc t : Nat} {off : Int} (h : jtgt pc off = some t) : (pc : Int) + off = (t : Int) := by
  unfold jtgt at h
  split at h
  · cases h; omega
  · cases h
def jbr1 (c : Jvm.ClassFile.Cond) (x : Int32) (t f : Nat) : Nat := match c with
  | .eq => if x = 0 then t else f
  | .ne => if ¬ x = 0 then t else f
  | .lt => if x < 0 then t else f
  | .ge => if 0 ≤ x then t else f
  | .gt => if 0 < x then t else f
  | .le => if x ≤ 0 then t else f
def jbr2 (c : Jvm.ClassFile.Cond) (x y : Int32) (t f : Nat) : Nat := match c with
  | .eq => if x = y then t else f
  | .ne => if ¬ x = y then t else f
  | .lt => if x < y then t else f
  | .ge => if y ≤ x then t else f
  | .gt => if y < x then t else f
  | .le => if x ≤ y then t else f
def jsw (pc : Nat) (dflt lo hi : Int) (offs : Array Int) (x : Int32) : Option Nat := if x.toInt < lo ∨ hi < x.toInt then jtgt pc dflt else match offs[(x.toInt - lo).toNat]? with
  | some off => jtgt pc off
  | none => none
def jbrA (c : ACond) (x y t f : Nat) : Nat := match c with
  | .eq => if x = y then t else f
  | .ne => if ¬ x = y then t else f
/-- the constants among the references that may be compared -/
def jcmp (x : Nat) : Prop := 1 ≤ x ∧ x < 11
/-- jumps: the new pc and stack -/
def jjmp (i : Instr) (pc len : Nat) (st : List Value) : Option (Nat × List Value) := match i with
  | .goto off => if len = 3 then (jtgt pc off).map (fun t => (t, st)) else none
  | .ifCond c off => match st with
    | .int x :: r => if len = 3 then (jtgt pc off).map (fun t => (jbr1 c x t (pc + 3), r)) else none
    | _ => none
  | .if_icmp c off => match st with
    | .int y :: .int x :: r => if len = 3 then (jtgt pc off).map (fun t => (jbr2 c x y t (pc + 3), r)) else none
    | _ => none
  | .if_acmp c off => match st with
    | .ref y :: .ref x :: r => if len = 3 ∧ (1 ≤ x ∧ x < 11) ∧ (1 ≤ y ∧ y < 11) then (jtgt pc off).map (fun t => (jbrA c x y t (pc + 3), r)) else none
    | _ => none
  | .ifnull off => match st with
    | .null :: r => if len = 3 then (jtgt pc off).map (fun t => (t, r)) else none
    | .ref _ :: r => if len = 3 then some (pc + 3, r) else none
    | _ => none
  | .ifnonnull off => match st with
    | .null :: r => if len = 3 then some (pc + 3, r) else none
    | .ref _ :: r => if len = 3 then (jtgt pc off).map (fun t => (t, r)) else none
    | _ => none
  | .tableswitch d lo hi offs => match st with
    | .int x :: r => (jsw pc d lo hi offs x).map (fun t => (t, r))
    | _ => none
  | .lookupswitch d ps => match st with
    | .int x :: r => if (ps.toList.zip (ps.toList.drop 1)).all (fun (a, next) => a.1 < next.1) = true then (jtgt pc (Op.lookupswitch.offset ps.toList d x.toInt)).map (fun t => (t, r)) else none
    | _ => none
  | _ => none
section JW4
variable {p : Program} {l : Launch} {e : Env} {R : Room} {s : State} {m : MethodId} {args : Array Value} {below : List Frame} {meth : Method} {c : Code} {H : Heap} {locs : List Loc} {cells slots : Nat} {Q : State → Prop} {cc : ByteArray} {pc : Nat} {ls : Array Slot} {α : Nat → Nat}
set_option maxHeartbeats 1000000 in
theorem jjmp_ok (hx : p.tables.exec = Jvm.exec) (hb : c.code = cc) {i : Instr} {st st' : List Value} {len pc' : Nat} (hα : ∀ x y, jcmp x → jcmp y → α x = α y → x = y) (h : jjmp i pc len st = some (pc', st')) (hd : decode cc pc = .ok (i, len)) (k : W p l e R s m args below meth c H locs cells slots Q (F0 m (pc') ls (st'.map (jx_V α)))) : W p l e R s m args below meth c H locs cells slots Q (F0 m (pc) ls (st.map (jx_V α))) := by
  unfold jjmp at h
  split at h
  · split at h
    · rename_i hl3; subst hl3; obtain ⟨t, ht, e1⟩ := Option.map_eq_some_iff.mp h; cases e1; exact lv_goto hx hb hd (jtgt_eq ht) k
    · cases h
  · split at h
    · split at h
      · rename_i hl3; subst hl3; obtain ⟨t, ht, e1⟩ := Option.map_eq_some_iff.mp h; cases e1
        revert hd k
        cases ‹Jvm.ClassFile.Cond› <;> intro hd k <;> unfold jbr1 at k <;> dsimp only at k
        · exact lv_if_eq hx hb hd (jtgt_eq ht) (fun q => by rw [if_pos q] at k; exact k) (fun q => by rw [if_neg q] at k; exact k)
        · exact lv_if_ne hx hb hd (jtgt_eq ht) (fun q => by rw [if_pos q] at k; exact k) (fun q => by rw [if_neg (not_not_intro q)] at k; exact k)
        · exact lv_if_lt hx hb hd (jtgt_eq ht) (fun q => by rw [if_pos q] at k; exact k) (fun q => by rw [if_neg q] at k; exact k)
        · exact lv_if_ge hx hb hd (jtgt_eq ht) (fun q => by rw [if_pos q] at k; exact k) (fun q => by rw [if_neg q] at k; exact k)
        · exact lv_if_gt hx hb hd (jtgt_eq ht) (fun q => by rw [if_pos q] at k; exact k) (fun q => by rw [if_neg q] at k; exact k)
        · exact lv_if_le hx hb hd (jtgt_eq ht) (fun q => by rw [if_pos q] at k; exact k) (fun q => by rw [if_neg q] at k; exact k)
      · cases h
    · cases h
  · split at h
    · split at h
      · rename_i hl3; subst hl3; obtain ⟨t, ht, e1⟩ := Option.map_eq_some_iff.mp h; cases e1
        revert hd k
        cases ‹Jvm.ClassFile.Cond› <;> intro hd k <;> unfold jbr2 at k <;> dsimp only at k
        · exact lv_icmp_eq hx hb hd (jtgt_eq ht) (fun q => by rw [if_pos q] at k; exact k) (fun q => by rw [if_neg q] at k; exact k)
        · exact lv_icmp_ne hx hb hd (jtgt_eq ht) (fun q => by rw [if_pos q] at k; exact k) (fun q => by rw [if_neg (not_not_intro q)] at k; exact k)
        · exact lv_icmp_lt hx hb hd (jtgt_eq ht) (fun q => by rw [if_pos q] at k; exact k) (fun q => by rw [if_neg q] at k; exact k)
        · exact lv_icmp_ge hx hb hd (jtgt_eq ht) (fun q => by rw [if_pos q] at k; exact k) (fun q => by rw [if_neg q] at k; exact k)
        · exact lv_icmp_gt hx hb hd (jtgt_eq ht) (fun q => by rw [if_pos q] at k; exact k) (fun q => by rw [if_neg q] at k; exact k)
        · exact lv_icmp_le hx hb hd (jtgt_eq ht) (fun q => by rw [if_pos q] at k; exact k) (fun q => by rw [if_neg q] at k; exact k)
      · cases h
    · cases h
  · split at h
    · split at h
      · rename_i hl3; obtain ⟨hl3, hc1, hc2⟩ := hl3; subst hl3; obtain ⟨t, ht, e1⟩ := Option.map_eq_some_iff.mp h; cases e1
        revert hd k
        cases ‹ACond› <;> intro hd k <;> unfold jbrA at k <;> dsimp only at k
        · exact lv_acmp_eq (rx := some (α _)) (ry := some (α _)) hx hb hd (jtgt_eq ht) (fun q => by rw [if_pos (hα _ _ hc1 hc2 (Option.some.inj q))] at k; exact k) (fun q => by rw [if_neg (fun z => q (by rw [z]))] at k; exact k)
        · exact lv_acmp_ne (rx := some (α _)) (ry := some (α _)) hx hb hd (jtgt_eq ht) (fun q => by rw [if_pos (fun z => q (by rw [z]))] at k; exact k) (fun q => by rw [if_neg (not_not_intro (hα _ _ hc1 hc2 (Option.some.inj q)))] at k; exact k)
      · cases h
    · cases h
  · split at h
    · split at h
      · rename_i hl3; subst hl3; obtain ⟨t, ht, e1⟩ := Option.map_eq_some_iff.mp h; cases e1; exact lv_ifnullN hx hb hd (jtgt_eq ht) k
      · cases h
    · split at h
      · rename_i hl3; subst hl3; cases h; exact lv_ifnull hx hb hd k
      · cases h
    · cases h
  · split at h
    · split at h
      · rename_i hl3; subst hl3; cases h; exact lv_ifnonnullN hx hb hd k
      · cases h
    · split at h
      · rename_i hl3; subst hl3; obtain ⟨t, ht, e1⟩ := Option.map_eq_some_iff.mp h; cases e1; exact lv_ifnonnull hx hb hd (jtgt_eq ht) k
      · cases h
    · cases h
  · split at h
    · obtain ⟨t, ht, e1⟩ := Option.map_eq_some_iff.mp h; cases e1
      unfold jsw at ht
      split at ht
      · rename_i hq; exact lv_tableOut hx hb hd hq (jtgt_eq ht) k
      · rename_i hq; split at ht
        · rename_i off hoff; exact lv_tableIn hx hb hd (fun z => hq (Or.inl z)) (fun z => hq (Or.inr z)) hoff (jtgt_eq ht) k
        · cases ht
    · cases h
  · split at h
    · split at h
      · rename_i hps; obtain ⟨t, ht, e1⟩ := Option.map_eq_some_iff.mp h; cases e1; exact lv_lookup hx hb hd hps rfl (jtgt_eq ht) k
      · cases h
    · cases h
  · cases h
end JW4
end
section
/-! words that read or write the heap -/
/-- tables, by class number and pool index: a field (class number, slot, kind), a class to make (class number, its first fields), a static, a constant -/
abbrev jG : Type := (Nat → Nat → Option (Nat × Nat × Nat)) × (Nat → Nat → Option (Nat × List Value)) × (Nat → Nat → Option Value) × (Nat → Nat → Option Value)
/-- kinds: 0 int, 1 reference, 2 boolean, 3 long -/
def jfit (kd : Nat) (v : Value) : Bool := match kd, v with
  | 0, .int _ => true
  | 1, .ref _ => true
  | 1, .null => true
  | 2, .int x => decide (x = 0) || decide (x = 1)
  | 3, .long _ => true
  | _, _ => false
def jnewa (at' : ArrayType) (N : Nat) : Option jC := match at' with
  | .int => some (.inl (.int, N, .inl (fun _ => 0)))
  | .char => some (.inl (.char, N, .inl (fun _ => 0)))
  | .byte => some (.inl (.byte, N, .inl (fun _ => 0)))
  | .boolean => some (.inl (.boolean, N, .inl (fun _ => 0)))
  | .long => some (.inl (.long, N, .inr (.inl (fun _ => 0))))
  | _ => none
def jatok : FieldType → Bool
  | .int => true
  | .char => true
  | .byte => true
  | .boolean => true
  | .long => true
  | _ => false
theorem jat_of {ty : FieldType} (h : jatok ty = true) : ∃ (at' : ArrayType) (c : jC), newarray.typeOf at' = ty ∧ jnewa at' 0 = some c := by
  unfold jatok at h
  split at h
  · exact ⟨.int, _, rfl, rfl⟩
  · exact ⟨.char, _, rfl, rfl⟩
  · exact ⟨.byte, _, rfl, rfl⟩
  · exact ⟨.boolean, _, rfl, rfl⟩
  · exact ⟨.long, _, rfl, rfl⟩
  · cases h
def jhp (G : jG) (K cn : Nat) (ini : Bool) (i : Instr) (st : List Value) (h : jH) : Option (List Value × jH × Nat) := match i with
  | .getfield idx => match st with
    | .ref a :: r => match G.1 cn idx with
      | some (ci, k, _) => match h[a]? with
        | some (.inr (cj, fs)) => if cj = ci ∧ K ≤ a then match fs[k]? with
          | some v => some (v :: r, h, 3)
          | none => none
          else none
        | _ => none
      | none => none
    | _ => none
  | .putfield idx => match st with
    | v :: .ref a :: r => match G.1 cn idx with
      | some (ci, k, kd) => match h[a]? with
        | some (.inr (cj, fs)) => if cj = ci ∧ K ≤ a ∧ k < fs.length ∧ jfit (kd % 10) v = true ∧ (kd < 10 ∨ ini = true) then some (r, h.set a (.inr (ci, fs.set k v)), 3) else none
        | _ => none
      | none => none
    | _ => none
  | .getstatic idx => match G.2.2.1 cn idx with
    | some v => some (v :: st, h, 3)
    | none => none
  | .ldc idx => match G.2.2.2 cn idx with
    | some (.int x) => some (.int x :: st, h, 2)
    | some (.ref a) => some (.ref a :: st, h, 2)
    | _ => none
  | .ldc_w idx => match G.2.2.2 cn idx with
    | some (.int x) => some (.int x :: st, h, 3)
    | _ => none
  | .ldc2_w idx => match G.2.2.2 cn idx with
    | some (.long x) => some (.long x :: st, h, 3)
    | _ => none
  | .new idx => match G.2.1 cn idx with
    | some (ci, fs) => some (.ref h.length :: st, h ++ [.inr (ci, fs)], 3)
    | none => none
  | .newarray at' => match st with
    | .int n :: r => if n < 0 ∨ 60000000 < n.toNatClampNeg then none else match jnewa at' n.toNatClampNeg with
      | some c => some (.ref h.length :: r, h ++ [c], 2)
      | none => none
    | _ => none
  | .arraylength => match st with
    | .ref a :: r => match h[a]? with
      | some (.inl (ty, n, _)) => if jatok ty = true then some (.int (Int32.ofNat n) :: r, h, 1) else none
      | _ => none
    | _ => none
  | .iaload => match st with
    | .int j :: .ref a :: r => match h[a]? with
      | some (.inl (.int, n, .inl f)) => if j < 0 ∨ n ≤ j.toNatClampNeg then none else some (.int (f j.toNatClampNeg) :: r, h, 1)
      | _ => none
    | _ => none
  | .caload => match st with
    | .int j :: .ref a :: r => match h[a]? with
      | some (.inl (.char, n, .inl f)) => if j < 0 ∨ n ≤ j.toNatClampNeg then none else some (.int (f j.toNatClampNeg) :: r, h, 1)
      | _ => none
    | _ => none
  | .laload => match st with
    | .int j :: .ref a :: r => match h[a]? with
      | some (.inl (.long, n, .inr (.inl f))) => if j < 0 ∨ n ≤ j.toNatClampNeg then none else some (.long (f j.toNatClampNeg) :: r, h, 1)
      | _ => none
    | _ => none
  | .iastore => match st with
    | .int x :: .int j :: .ref a :: r => match h[a]? with
      | some (.inl (.int, n, .inl f)) => if (j < 0 ∨ n ≤ j.toNatClampNeg) ∨ a < K then none else some (r, h.set a (.inl (.int, n, .inl (upd f j.toNatClampNeg x))), 1)
      | _ => none
    | _ => none
  | .castore => match st with
    | .int x :: .int j :: .ref a :: r => match h[a]? with
      | some (.inl (.char, n, .inl f)) => if (j < 0 ∨ n ≤ j.toNatClampNeg) ∨ a < K then none else some (r, h.set a (.inl (.char, n, .inl (upd f j.toNatClampNeg (vp_nar .char x)))), 1)
      | _ => none
    | _ => none
  | .lastore => match st with
    | .long x :: .int j :: .ref a :: r => match h[a]? with
      | some (.inl (.long, n, .inr (.inl f))) => if (j < 0 ∨ n ≤ j.toNatClampNeg) ∨ a < K then none else some (r, h.set a (.inl (.long, n, .inr (.inl (vp_updL f j.toNatClampNeg x)))), 1)
      | _ => none
    | _ => none
  | _ => none
/-- the heap's list and the machine's heap: the first K entries are what was there before (the script, constants), the rest what has been made, from sz on -/
def jRel (D : va_G) (cl : List vw_C) (α : Nat → Nat) (dA : FieldType → ClassId) (K sz : Nat) (h : jH) (s : State) (H : Heap) (locs : List Loc) : Prop :=
  K ≤ h.length ∧ va_P D cl (jx_ws α dA K h) H ∧ va_S (fun q => sz ≤ q) s.heap H locs
theorem jx_ws_at {α : Nat → Nat} {dA : FieldType → ClassId} {K sz i : Nat} (hα : ∀ j, α (K + j) = sz + j) {h : jH} {q : Nat × va_E} (hq : (jx_ws α dA K h)[i]? = some q) : q.1 = sz + i := by
  unfold jx_ws at hq
  rw [List.getElem?_mapIdx] at hq
  obtain ⟨c, -, e⟩ := Option.map_eq_some_iff.mp hq
  rw [← e]
  exact hα i
theorem jx_D {α : Nat → Nat} {dA : FieldType → ClassId} {K sz : Nat} (hα : ∀ j, α (K + j) = sz + j) (h : jH) : va_D (fun q => sz ≤ q) (jx_ws α dA K h) := by
  refine ⟨fun i j p q hi hj hpq => ?_, fun k q hk => ?_⟩
  · have h1 := jx_ws_at hα hi
    have h2 := jx_ws_at hα hj
    omega
  · have h1 := jx_ws_at hα hk
    show sz ≤ q.1
    omega
theorem jRel.size {D : va_G} {cl : List vw_C} {α : Nat → Nat} {dA : FieldType → ClassId} {K sz : Nat} {h : jH} {s : State} {H : Heap} {locs : List Loc} (hR : jRel D cl α dA K sz h s H locs) (hα : ∀ j, α (K + j) = sz + j) (hs : sz ≤ s.heap.size) (hub : H.size ≤ sz + (h.length - K)) : H.size = sz + (h.length - K) := by
  obtain ⟨hK, hP, hS⟩ := hR
  by_cases hl : h.length = K
  · have := hS.1
    omega
  · obtain ⟨c, hc⟩ : ∃ c, h[h.length - 1]? = some c := ⟨h[h.length - 1]'(by omega), List.getElem?_eq_getElem (by omega)⟩
    have h1 := (hP _ _ (jx_ws_get (α := α) (dA := dA) hc (by omega : K ≤ h.length - 1))).lt
    have h2 : α (h.length - 1) = sz + (h.length - 1 - K) := by rw [← hα]; congr 1; omega
    have h3 : α (h.length - 1) < H.size := h1
    omega
/-- what a class's field link means -/
def jFok (SP : State → Prop) (TB : List Jvm.Cond) (cl : List vw_C) (own : String) (idx ci k kd : Nat) : Prop :=
  ∃ (C : String) (T : u_T) (N : Nat) (ty : Nat → FieldType), cl[ci]? = some (C, T, N) ∧ k < N ∧ (∀ w ∈ u_ws C T N, w ∈ TB) ∧ (∀ j, j < N → parseFieldDescriptor (T j).2.2.1 = some (ty j)) ∧
    (∀ a, a < N → ∀ b, b < N → a ≠ b → (T a).2.1 ≠ (T b).2.1) ∧ (Jvm.Cond.fieldLink own idx (T k).1 (T k).2.1 (T k).2.2.1 ∈ TB ∨ (kd < 10 ∧ ∃ host, ∀ s, SP s → va_Nw (.fieldLinkNest own idx (T k).1 (T k).2.1 (T k).2.2.1 host) s)) ∧
    (kd < 10 → (T k).2.2.2 = false) ∧ (¬ kd < 10 → (T k).2.2.2 = true ∧ (T k).1 = own) ∧
    (kd % 10 = 0 → ty k = .int) ∧ (kd % 10 = 1 → (∃ n, ty k = .object n) ∨ ∃ t, ty k = .array t) ∧ (kd % 10 = 2 → ty k = .boolean) ∧ (kd % 10 = 3 → ty k = .long)
theorem jfit_ok {α : Nat → Nat} {kd : Nat} {v : Value} {ty : FieldType} (h : jfit kd v = true) (h0 : kd = 0 → ty = .int) (h1 : kd = 1 → (∃ n, ty = .object n) ∨ ∃ t, ty = .array t) (h2 : kd = 2 → ty = .boolean) (h3 : kd = 3 → ty = .long) :
    narrow ty (jx_V α v) = jx_V α v ∧ fits ty (jx_V α v) = true := by
  unfold jfit at h
  split at h
  · rw [h0 rfl]; exact ⟨rfl, rfl⟩
  · rcases h1 rfl with ⟨n, e⟩ | ⟨t, e⟩ <;> rw [e] <;> exact ⟨rfl, rfl⟩
  · rcases h1 rfl with ⟨n, e⟩ | ⟨t, e⟩ <;> rw [e] <;> exact ⟨rfl, rfl⟩
  · rw [h2 rfl]
    simp only [Bool.or_eq_true, decide_eq_true_eq] at h
    rcases h with rfl | rfl
    · exact ⟨rfl, rfl⟩
    · exact ⟨rfl, rfl⟩
  · rw [h3 rfl]; exact ⟨rfl, rfl⟩
  · cases h
section JH
variable {p : Program} {l : Launch} {e : Env} {R : Room} {s : State} {m : MethodId} {args : Array Value} {below : List Frame} {meth : Method} {c : Code} {H : Heap} {locs : List Loc} {cells slots : Nat} {Q : State → Prop} {cc : ByteArray} {pc : Nat} {ls : Array Slot}
variable {D : va_G} {cl : List vw_C} {tys : List (ClassId × FieldType)} {α : Nat → Nat} {dA : FieldType → ClassId} {K sz : Nat} {TB : List Jvm.Cond} {own : String} {h : jH} {r : List Value}
theorem W.jsized {g : JFrame} (k : H.size ≤ s.heap.size + cells → W p l e R s m args below meth c H locs cells slots Q g) : W p l e R s m args below meth c H locs cells slots Q g :=
  fun T hT X => k (by rw [← hT]; exact X.heapSize) T hT X
theorem jget_ok (hx : p.tables.exec = Jvm.exec) (hb : c.code = cc) (hts : ∀ w ∈ TB, w.before args s = true) (hown : s.vm.findClass own = some m.cls) (hK : va_K D cl tys s) (hR : jRel D cl α dA K sz h s H locs) {idx ci k kd a : Nat} {fs : List Value} {v : Value}
    {SP : State → Prop} (hSP : SP s) (hF : jFok SP TB cl own idx ci k kd) (ha : h[a]? = some (.inr (ci, fs))) (hKa : K ≤ a) (hv : fs[k]? = some v) (hd : decode cc pc = .ok (.getfield idx, 3)) (kk : W p l e R s m args below meth c H locs cells slots Q (F0 m (pc + 3) ls (jx_V α v :: r))) :
    W p l e R s m args below meth c H locs cells slots Q (F0 m pc ls (.ref (α a) :: r)) := by
  obtain ⟨C, T, N, ty, hc, hk, hin, -, -, hlk, -⟩ := hF
  rcases hlk with hlk | ⟨-, host, hlk⟩
  · exact va_get (D := D) hx hb hts hin hown hK hR.2.1 (a - K) (jx_ws_get ha hKa) hc k hk (hts _ hlk) (fun _ h9 => h9) (by rw [List.getElem?_map, hv]; rfl) hd kk
  · exact va_getN (D := D) hx hb hts hin hown hK hR.2.1 (a - K) (jx_ws_get ha hKa) hc k hk (va_Nw.use rfl (hlk s hSP)) (fun _ h9 => h9) (by rw [List.getElem?_map, hv]; rfl) hd kk
theorem jRel_set {H1 : Heap} {locs1 : List Loc} (hR : jRel D cl α dA K sz h s H locs) {a : Nat} {c1 : jC} {e1 : va_E} (hKa : K ≤ a) (he : jx_E α dA c1 = e1) (hP : va_P D cl ((jx_ws α dA K h).set (a - K) (α a, e1)) H1) (hS : va_S (fun q => sz ≤ q) s.heap H1 locs1) : jRel D cl α dA K sz (h.set a c1) s H1 locs1 :=
  ⟨by rw [List.length_set]; exact hR.1, by rw [jx_ws_set hKa, he]; exact hP, hS⟩
theorem jput_ok (hx : p.tables.exec = Jvm.exec) (hb : c.code = cc) (hts : ∀ w ∈ TB, w.before args s = true) (hown : s.vm.findClass own = some m.cls) (hK : va_K D cl tys s) (hα : ∀ j, α (K + j) = sz + j) (hR : jRel D cl α dA K sz h s H locs) {idx ci k kd a : Nat} {fs : List Value} {v : Value}
    {SP : State → Prop} (hSP : SP s) (hF : jFok SP TB cl own idx ci k kd) (ha : h[a]? = some (.inr (ci, fs))) (hKa : K ≤ a) (hkl : k < fs.length) (hfit : jfit (kd % 10) v = true) (hini : kd < 10 ∨ meth.name = "<init>") (hd : decode cc pc = .ok (.putfield idx, 3))
    (kk : ∀ (H1 : Heap) (locs1 : List Loc), jRel D cl α dA K sz (h.set a (.inr (ci, fs.set k v))) s H1 locs1 → W p l e R s m args below meth c H1 locs1 cells slots Q (F0 m (pc + 3) ls r)) :
    W p l e R s m args below meth c H locs cells slots Q (F0 m pc ls (jx_V α v :: .ref (α a) :: r)) := by
  obtain ⟨C, T, N, ty, hc, hk, hin, hty, hnm, hlk, hf1, hf2, t0, t1, t2, t3⟩ := hF
  obtain ⟨hn, hft⟩ := jfit_ok (α := α) hfit t0 t1 t2 t3
  have hE : jx_E α dA (.inr (ci, fs.set k v)) = .inr (ci, (fs.map (jx_V α)).set k (jx_V α v)) := by
    show Sum.inr (ci, (fs.set k v).map (jx_V α)) = _
    rw [List.map_set]
  by_cases hkd : kd < 10
  · rcases hlk with hlk | ⟨-, host, hlk⟩
    · exact va_put (D := D) hx hb hts hin ty hty hnm hown hK hR.2.1 (jx_D hα h) hR.2.2 (a - K) (jx_ws_get ha hKa) hc k hk (hts _ hlk) (fun _ h9 => h9) (hf1 hkd) (hty k hk) hn hft (by rw [List.length_map]; exact hkl) hd
        (fun H1 locs1 q1 _ q3 => kk H1 locs1 (jRel_set hR hKa hE q1 q3))
    · exact va_putN (D := D) hx hb hts hin ty hty hnm hown hK hR.2.1 (jx_D hα h) hR.2.2 (a - K) (jx_ws_get ha hKa) hc k hk (va_Nw.use rfl (hlk s hSP)) (fun _ h9 => h9) (hf1 hkd) (hty k hk) hn hft (by rw [List.length_map]; exact hkl) hd
        (fun H1 locs1 q1 _ q3 => kk H1 locs1 (jRel_set hR hKa hE q1 q3))
  · have hlk := hlk.resolve_right (fun z => hkd z.1)
    exact va_putF (D := D) hx hb hts hin ty hty hnm hown hK hR.2.1 (jx_D hα h) hR.2.2 (a - K) (jx_ws_get ha hKa) hc k hk (hts _ hlk) (fun _ h9 => h9) (hf2 hkd).1 (hini.resolve_left hkd) (hf2 hkd).2 (hty k hk) hn hft (by rw [List.length_map]; exact hkl) hd
        (fun H1 locs1 q1 _ q3 => kk H1 locs1 (jRel_set hR hKa hE q1 q3))
/-- arrays -/
def jTy (tys : List (ClassId × FieldType)) (dA : FieldType → ClassId) (ty : FieldType) : Prop := ∃ t0 : Nat, tys[t0]? = some (dA ty, ty)
theorem jiald (hx : p.tables.exec = Jvm.exec) (hb : c.code = cc) (hK : va_K D cl tys s) (ht : jTy tys dA .int) (hR : jRel D cl α dA K sz h s H locs) {a n : Nat} {f : Nat → Int32} {j : Int32}
    (ha : h[a]? = some (.inl (.int, n, .inl f))) (hKa : K ≤ a) (hj : ¬ (j < 0 ∨ n ≤ j.toNatClampNeg)) (hd : decode cc pc = .ok (.iaload, 1)) (kk : W p l e R s m args below meth c H locs cells slots Q (F0 m (pc + 1) ls (.int (f j.toNatClampNeg) :: r))) :
    W p l e R s m args below meth c H locs cells slots Q (F0 m pc ls (.int j :: .ref (α a) :: r)) := by
  obtain ⟨t0, ht⟩ := ht
  exact va_iald hx hb hK hR.2.1 (a - K) t0 (jx_ws_get ha hKa) ht hj hd kk
theorem jcald (hx : p.tables.exec = Jvm.exec) (hb : c.code = cc) (hK : va_K D cl tys s) (ht : jTy tys dA .char) (hR : jRel D cl α dA K sz h s H locs) {a n : Nat} {f : Nat → Int32} {j : Int32}
    (ha : h[a]? = some (.inl (.char, n, .inl f))) (hKa : K ≤ a) (hj : ¬ (j < 0 ∨ n ≤ j.toNatClampNeg)) (hd : decode cc pc = .ok (.caload, 1)) (kk : W p l e R s m args below meth c H locs cells slots Q (F0 m (pc + 1) ls (.int (f j.toNatClampNeg) :: r))) :
    W p l e R s m args below meth c H locs cells slots Q (F0 m pc ls (.int j :: .ref (α a) :: r)) := by
  obtain ⟨t0, ht⟩ := ht
  exact va_cald hx hb hK hR.2.1 (a - K) t0 (jx_ws_get ha hKa) ht hj hd kk
theorem jlald (hx : p.tables.exec = Jvm.exec) (hb : c.code = cc) (hK : va_K D cl tys s) (ht : jTy tys dA .long) (hR : jRel D cl α dA K sz h s H locs) {a n : Nat} {f : Nat → Int64} {j : Int32}
    (ha : h[a]? = some (.inl (.long, n, .inr (.inl f)))) (hKa : K ≤ a) (hj : ¬ (j < 0 ∨ n ≤ j.toNatClampNeg)) (hd : decode cc pc = .ok (.laload, 1)) (kk : W p l e R s m args below meth c H locs cells slots Q (F0 m (pc + 1) ls (.long (f j.toNatClampNeg) :: r))) :
    W p l e R s m args below meth c H locs cells slots Q (F0 m pc ls (.int j :: .ref (α a) :: r)) := by
  obtain ⟨t0, ht⟩ := ht
  exact va_lald hx hb hK hR.2.1 (a - K) t0 (jx_ws_get ha hKa) ht hj hd kk
theorem jiast (hx : p.tables.exec = Jvm.exec) (hb : c.code = cc) (hK : va_K D cl tys s) (hα : ∀ j, α (K + j) = sz + j) (ht : jTy tys dA .int) (hR : jRel D cl α dA K sz h s H locs) {a n : Nat} {f : Nat → Int32} {j : Int32} {x : Int32}
    (ha : h[a]? = some (.inl (.int, n, .inl f))) (hKa : K ≤ a) (hj : ¬ (j < 0 ∨ n ≤ j.toNatClampNeg)) (hd : decode cc pc = .ok (.iastore, 1))
    (kk : ∀ (H1 : Heap) (locs1 : List Loc), jRel D cl α dA K sz (h.set a (.inl (.int, n, .inl (upd f j.toNatClampNeg x)))) s H1 locs1 → W p l e R s m args below meth c H1 locs1 cells slots Q (F0 m (pc + 1) ls r)) :
    W p l e R s m args below meth c H locs cells slots Q (F0 m pc ls (.int x :: .int j :: .ref (α a) :: r)) := by
  obtain ⟨t0, ht⟩ := ht
  exact va_iast hx hb hK hR.2.1 (jx_D hα h) hR.2.2 (a - K) t0 (jx_ws_get ha hKa) ht hj hd (fun H1 locs1 q1 _ q3 => kk H1 locs1 (jRel_set hR hKa rfl q1 q3))
theorem jcast (hx : p.tables.exec = Jvm.exec) (hb : c.code = cc) (hK : va_K D cl tys s) (hα : ∀ j, α (K + j) = sz + j) (ht : jTy tys dA .char) (hR : jRel D cl α dA K sz h s H locs) {a n : Nat} {f : Nat → Int32} {j : Int32} {x : Int32}
    (ha : h[a]? = some (.inl (.char, n, .inl f))) (hKa : K ≤ a) (hj : ¬ (j < 0 ∨ n ≤ j.toNatClampNeg)) (hd : decode cc pc = .ok (.castore, 1))
    (kk : ∀ (H1 : Heap) (locs1 : List Loc), jRel D cl α dA K sz (h.set a (.inl (.char, n, .inl (upd f j.toNatClampNeg (vp_nar .char x))))) s H1 locs1 → W p l e R s m args below meth c H1 locs1 cells slots Q (F0 m (pc + 1) ls r)) :
    W p l e R s m args below meth c H locs cells slots Q (F0 m pc ls (.int x :: .int j :: .ref (α a) :: r)) := by
  obtain ⟨t0, ht⟩ := ht
  exact va_cast hx hb hK hR.2.1 (jx_D hα h) hR.2.2 (a - K) t0 (jx_ws_get ha hKa) ht hj hd (fun H1 locs1 q1 _ q3 => kk H1 locs1 (jRel_set hR hKa rfl q1 q3))
theorem jlast (hx : p.tables.exec = Jvm.exec) (hb : c.code = cc) (hK : va_K D cl tys s) (hα : ∀ j, α (K + j) = sz + j) (ht : jTy tys dA .long) (hR : jRel D cl α dA K sz h s H locs) {a n : Nat} {f : Nat → Int64} {j : Int32} {x : Int64}
    (ha : h[a]? = some (.inl (.long, n, .inr (.inl f)))) (hKa : K ≤ a) (hj : ¬ (j < 0 ∨ n ≤ j.toNatClampNeg)) (hd : decode cc pc = .ok (.lastore, 1))
    (kk : ∀ (H1 : Heap) (locs1 : List Loc), jRel D cl α dA K sz (h.set a (.inl (.long, n, .inr (.inl (vp_updL f j.toNatClampNeg x))))) s H1 locs1 → W p l e R s m args below meth c H1 locs1 cells slots Q (F0 m (pc + 1) ls r)) :
    W p l e R s m args below meth c H locs cells slots Q (F0 m pc ls (.long x :: .int j :: .ref (α a) :: r)) := by
  obtain ⟨t0, ht⟩ := ht
  exact va_last hx hb hK hR.2.1 (jx_D hα h) hR.2.2 (a - K) t0 (jx_ws_get ha hKa) ht hj hd (fun H1 locs1 q1 _ q3 => kk H1 locs1 (jRel_set hR hKa rfl q1 q3))
theorem jx_A_len {α : Nat → Nat} (x : vp_A) : (jx_A α x).1 = x.1 := by
  unfold jx_A
  split <;> rfl
theorem jalen (hx : p.tables.exec = Jvm.exec) (hb : c.code = cc) (hK : va_K D cl tys s) {ty : FieldType} (ht : jTy tys dA ty) (hR : jRel D cl α dA K sz h s H locs) {a : Nat} {x : vp_A}
    (ha : h[a]? = some (.inl (ty, x))) (hKa : K ≤ a) (hd : decode cc pc = .ok (.arraylength, 1)) (kk : W p l e R s m args below meth c H locs cells slots Q (F0 m (pc + 1) ls (.int (Int32.ofNat x.1) :: r))) :
    W p l e R s m args below meth c H locs cells slots Q (F0 m pc ls (.ref (α a) :: r)) := by
  obtain ⟨t0, ht⟩ := ht
  exact va_alen hx hb hK hR.2.1 (a - K) t0 (jx_ws_get ha hKa) ht (by rw [jx_A_len]) hd kk
/-- a class that can be made -/
def jNok (TB : List Jvm.Cond) (cl : List vw_C) (own : String) (idx ci : Nat) (fs : List Value) : Prop :=
  ∃ (C : String) (T : u_T) (N : Nat) (ty : Nat → FieldType), cl[ci]? = some (C, T, N) ∧ fs.length = N ∧ (∀ w ∈ u_ws C T N, w ∈ TB) ∧ (∀ j, j < N → parseFieldDescriptor (T j).2.2.1 = some (ty j)) ∧
    Jvm.Cond.classLink own idx C ∈ TB ∧ Jvm.Cond.instantiable C N ∈ TB ∧ Jvm.Cond.initialized C ∈ TB ∧ (∀ j, j < N → defaultValue (ty j) = vp_V fs j) ∧ (∀ v ∈ fs, ∀ a, v ≠ .ref a)
theorem jx_V_noref {α : Nat → Nat} {fs : List Value} (h : ∀ v ∈ fs, ∀ a, v ≠ .ref a) : fs.map (jx_V α) = fs := by
  have h1 : fs.map (jx_V α) = fs.map id := List.map_congr_left (fun v hv => by
    cases v with
    | ref a => exact absurd rfl (h _ hv a)
    | _ => rfl)
  rw [h1, List.map_id]
theorem jRel_push {H1 : Heap} (hR : jRel D cl α dA K sz h s H locs) (hsz : sz ≤ s.heap.size) {c1 : jC} (hz : H.size = α h.length) (hz1 : H1.size = H.size + 1) (ho : ∀ q, q < H.size → H1[q]? = H[q]?) (hn : va_at D cl (α h.length, jx_E α dA c1) H1) : jRel D cl α dA K sz (h ++ [c1]) s H1 locs := by
  obtain ⟨hK, hP, hS⟩ := hR
  refine ⟨by rw [List.length_append]; omega, ?_, ⟨by have := hS.1; omega, fun q h1 h2 => (ho q (Nat.lt_of_lt_of_le h1 hS.1)).trans (hS.2.1 q h1 h2), hS.2.2⟩⟩
  rw [jx_ws_push hK]
  refine (hP.kept (fun k x hx => ho x.1 ((hP k x hx).lt))).app (fun k x hx => ?_)
  have hk : k < 1 := (List.getElem?_eq_some_iff.mp hx).1
  rw [show k = 0 by omega] at hx
  cases hx
  exact hn
theorem jnew_ok (hx : p.tables.exec = Jvm.exec) (hb : c.code = cc) (hts : ∀ w ∈ TB, w.before args s = true) (hown : s.vm.findClass own = some m.cls) (hK : va_K D cl tys s) (hsz : sz ≤ s.heap.size) (hR : jRel D cl α dA K sz h s H locs) (hz : H.size = α h.length) {idx ci : Nat} {fs : List Value}
    (hN : jNok TB cl own idx ci fs) (hcells : cells + 1 ≤ R.cells) (hslots : slots + fs.length ≤ R.slots) (hd : decode cc pc = .ok (.new idx, 3))
    (kk : ∀ H1 : Heap, jRel D cl α dA K sz (h ++ [.inr (ci, fs)]) s H1 locs → W p l e R s m args below meth c H1 locs (cells + 1) (slots + fs.length) Q (F0 m (pc + 3) ls (.ref (α h.length) :: r))) :
    W p l e R s m args below meth c H locs cells slots Q (F0 m pc ls r) := by
  obtain ⟨C, T, N, ty, hc, rfl, hin, hty, h1, h2, h3, h4, h5⟩ := hN
  have hKn := hK.1 ci _ hc
  refine W.newcK hx hb hown (hts _ h1) (hts _ h2) (hts _ h3) rfl hd hcells hslots hKn.2.1 hz fun H1 kC hkC e1 z1 o1 => ?_
  refine kk H1 (jRel_push hR hsz hz (by rw [z1, hz]) (fun q hq => o1 q (by rw [← hz]; exact hq)) ?_)
  show ∃ r : vw_C, cl[ci]? = some r ∧ t_OB (α h.length) (D.1 ci) r.2.2 (D.2 ci) H1 (vp_V (fs.map (jx_V α)))
  rw [jx_V_noref h5]
  exact ⟨_, hc, (u_born ty hts hin hKn hkC e1 hty).to h4⟩
theorem jnewa_ok (hx : p.tables.exec = Jvm.exec) (hb : c.code = cc) (hts : ∀ w ∈ TB, w.before args s = true) (hK : va_K D cl tys s) (hsz : sz ≤ s.heap.size) (hR : jRel D cl α dA K sz h s H locs) (hz : H.size = α h.length) {at' : ArrayType} {n : Int32} {c1 : jC}
    (ht : jTy tys dA (newarray.typeOf at')) (hA : Jvm.Cond.arrayClass (newarray.typeOf at') ∈ TB) (hc1 : jnewa at' n.toNatClampNeg = some c1) (hn : ¬ n < 0) (hb2 : ¬ 60000000 < n.toNatClampNeg) (hcells : cells + 1 ≤ R.cells) (hslots : slots + n.toNatClampNeg ≤ R.slots) (hd : decode cc pc = .ok (.newarray at', 2))
    (kk : ∀ H1 : Heap, jRel D cl α dA K sz (h ++ [c1]) s H1 locs → W p l e R s m args below meth c H1 locs (cells + 1) (slots + n.toNatClampNeg) Q (F0 m (pc + 2) ls (.ref (α h.length) :: r))) :
    W p l e R s m args below meth c H locs cells slots Q (F0 m pc ls (.int n :: r)) := by
  obtain ⟨t0, ht⟩ := ht
  have hcb : componentBytes (newarray.typeOf at') ≤ 8 := by cases at' <;> decide
  refine va_newaK hx hb (hts _ hA) rfl hd rfl hn rfl (by have := Nat.mul_le_mul (Nat.le_of_not_lt hb2) hcb; omega) hcells hslots hz fun H1 cA e1 z1 o1 hAr hNm => ?_
  refine kk H1 (jRel_push hR hsz hz (by rw [z1, hz]) (fun q hq => o1 q (by rw [← hz]; exact hq)) ?_)
  have hRA := (hK.2 t0 _ ht).2
  unfold jnewa at hc1
  cases at' <;> first
    | (cases hc1; done)
    | (cases hc1
       have hcA : cA = dA _ := Option.some.inj (hNm.symm.trans hRA)
       subst hcA
       exact e1)
theorem jgets_ok (hx : p.tables.exec = Jvm.exec) (hb : c.code = cc) (hts : ∀ w ∈ TB, w.before args s = true) (hown : s.vm.findClass own = some m.cls) (hR : jRel D cl α dA K sz h s H locs) {idx : Nat} {C n d : String} {v : Value} (hZ : va_Z C n d (jx_V α v) (fun q => sz ≤ q) s s.heap) (hlk : Jvm.Cond.fieldLink own idx C n d ∈ TB)
    (hd : decode cc pc = .ok (.getstatic idx, 3)) (kk : W p l e R s m args below meth c H locs cells slots Q (F0 m (pc + 3) ls (jx_V α v :: r))) : W p l e R s m args below meth c H locs cells slots Q (F0 m pc ls r) :=
  va_gets hx hb hZ hR.2.2 hown (hts _ hlk) (fun _ h9 => h9) hd kk
end JH
end
section
/-! the small machine's run -/
/-- a method: its name, bytes, locals, answer's type, class number, whether it makes an object, its words by place, its handlers (from, to, handler, class numbers caught) -/
abbrev jM : Type := MethodName × ByteArray × Nat × Option FieldType × Nat × Bool × (Nat → Option (Instr × Nat)) × List ((Nat × Nat × Nat × Nat) × List Nat)
/-- a call by class number and pool index: kind (0 on an object, 1 making, 2 static, 3 Object's own making), method, how many arguments with the object, class number of the object -/
abbrev jL : Type := Nat → Nat → Option (Nat × Nat × Nat × Nat)
def jsz : jC → Nat
  | .inl (_, n, _) => n
  | .inr (_, fs) => fs.length
def jtot (h : jH) : Nat := (h.map jsz).sum
def jstep (G : jG) (K cn nL : Nat) (ini : Bool) (i : Instr) (len pc : Nat) (lv : List (Nat × Value)) (st : List Value) (h : jH) : Option jS :=
  match jstk i st with
  | some (st', k) => if k = len then some (pc + len, lv, st', h) else none
  | none => match jloc i nL lv st with
    | some (lv', st', k) => if k = len then some (pc + len, lv', st', h) else none
    | none => match jjmp i pc len st with
      | some (pc', st') => some (pc', lv, st', h)
      | none => match jhp G K cn ini i st h with
        | some (st', h', k) => if k = len then some (pc + len, lv, st', h') else none
        | none => none
def jend (ret : Option FieldType) (i : Instr) (len : Nat) (st : List Value) : Option (Option Value) := match i with
  | .ireturn => match st, ret with
    | [.int v], some .int => if len = 1 then some (some (.int v)) else none
    | [.int v], some .boolean => if len = 1 ∧ (v = 0 ∨ v = 1) then some (some (.int v)) else none
    | _, _ => none
  | .lreturn => match st, ret with
    | [.long v], some .long => if len = 1 then some (some (.long v)) else none
    | _, _ => none
  | .areturn => match st, ret with
    | [.ref a], some (.object _) => if len = 1 then some (some (.ref a)) else none
    | [.null], some (.object _) => if len = 1 then some (some .null) else none
    | [.ref a], some (.array _) => if len = 1 then some (some (.ref a)) else none
    | [.null], some (.array _) => if len = 1 then some (some .null) else none
    | _, _ => none
  | .return_ => match st, ret with
    | [], none => if len = 1 then some none else none
    | _, _ => none
  | _ => none
/-- the call that stands here: kind, method, arguments, what stays on the stack -/
def jcall (gM : jL) (K cn : Nat) (i : Instr) (len : Nat) (st : List Value) (h : jH) : Option (Nat × Nat × List Value × List Value) := match i with
  | .invokevirtual idx => match gM cn idx with
    | some (0, z, n, ci) => if len = 3 ∧ n ≤ st.length then match (st.take n).reverse with
      | .ref b :: _ => match h[b]? with
        | some (.inr (cj, _)) => if cj = ci ∧ K ≤ b then some (0, z, (st.take n).reverse, st.drop n) else none
        | _ => none
      | _ => none
      else none
    | _ => none
  | .invokespecial idx => match gM cn idx with
    | some (1, z, n, _) => if len = 3 ∧ n ≤ st.length then match (st.take n).reverse with
      | .ref _ :: _ => some (1, z, (st.take n).reverse, st.drop n)
      | _ => none
      else none
    | some (4, z, n, _) => if len = 3 ∧ n ≤ st.length then match (st.take n).reverse with
      | .ref _ :: _ => some (4, z, (st.take n).reverse, st.drop n)
      | _ => none
      else none
    | some (3, _, _, _) => match st with
      | .ref b :: r => if len = 3 then some (3, 0, [.ref b], r) else none
      | _ => none
    | _ => none
  | .invokestatic idx => match gM cn idx with
    | some (2, z, n, _) => if len = 3 ∧ n ≤ st.length then some (2, z, (st.take n).reverse, st.drop n) else none
    | some (5, _, _, _) => if len = 3 ∧ 5 ≤ st.length then some (5, 0, (st.take 5).reverse, st.drop 5) else none
    | _ => none
  | _ => none
/-- System.arraycopy of ints -/
def jcopy (K : Nat) (as : List Value) (h : jH) : Option jH := match as with
  | [.ref a0, .int sp, .ref a, .int dp, .int n] => match h[a0]?, h[a]? with
    | some (.inl (.int, n0, .inl f)), some (.inl (.int, n1, .inl g)) =>
      if (sp < 0 ∨ dp < 0 ∨ n < 0) ∨ (n0 < sp.toNatClampNeg + n.toNatClampNeg ∨ n1 < dp.toNatClampNeg + n.toNatClampNeg) ∨ a0 < K ∨ a < K then none
      else some (h.set a (.inl (.int, n1, .inl (va_cpy f g sp.toNatClampNeg dp.toNatClampNeg n.toNatClampNeg))))
    | _, _ => none
  | _ => none
def jhand (hs : List ((Nat × Nat × Nat × Nat) × List Nat)) (pc : Nat) (h : jH) (a : Nat) : Option Nat := match h[a]? with
  | some (.inr (ci, _)) => match hs.find? (fun q => decide (q.1.1 ≤ pc ∧ pc < q.1.2.1 ∧ ci ∈ q.2)) with
    | some q => some q.1.2.2.1
    | none => none
  | _ => none
/-- the tables: fields and constants, calls, methods, exceptions (class number, entries of 'new' and of the making) -/
abbrev jT : Type := jG × jL × (Nat → Option jM) × (Nat → Nat → Nat → Option Nat)
/-- 'throw new X(text)' stands here: X's class number -/
def jthr (T : jT) (K : Nat) (M : jM) (i : Instr) (len pc : Nat) (st : List Value) : Option Nat := match i with
  | .new idx => match M.2.2.2.2.2.2.1 (pc + 3), M.2.2.2.2.2.2.1 (pc + 4), M.2.2.2.2.2.2.1 (pc + 6), M.2.2.2.2.2.2.1 (pc + 9), M.2.2.2.2.2.2.2 with
    | some (.dup, 1), some (.ldc k, 2), some (.invokespecial ic, 3), some (.athrow, 1), [] => match T.1.2.2.2 M.2.2.2.2.1 k with
      | some (.ref _) => if len = 3 ∧ (st.map fun v => v.category).sum ≤ 8 then T.2.2.2 M.2.2.2.2.1 idx ic else none
      | _ => none
    | _, _, _, _, _ => none
  | _ => none
abbrev jO : Type := (Option Value ⊕ Nat) × jH
def jbody (T : jT) (K : Nat) (rec : Nat → jM → jS → Option jO) (d : Nat) (M : jM) (s : jS) : Option jO :=
  match M.2.2.2.2.2.2.1 s.1 with
  | none => none
  | some (i, len) =>
    match jstep T.1 K M.2.2.2.2.1 M.2.2.1 M.2.2.2.2.2.1 i len s.1 s.2.1 s.2.2.1 s.2.2.2 with
    | some s' => rec d M s'
    | none =>
      match jend M.2.2.2.1 i len s.2.2.1 with
      | some v => some (.inl v, s.2.2.2)
      | none =>
        match jcall T.2.1 K M.2.2.2.2.1 i len s.2.2.1 s.2.2.2 with
        | some (kd, z, as, r) =>
          match d with
          | 0 => none
          | d' + 1 =>
            if 8 < (r.map fun v => v.category).sum then none else
            if kd = 3 then rec (d' + 1) M (s.1 + 3, s.2.1, r, s.2.2.2) else
            if kd = 5 then match jcopy K as s.2.2.2 with
              | some h' => rec (d' + 1) M (s.1 + 3, s.2.1, r, h')
              | none => none
            else
            match T.2.2.1 z with
            | none => none
            | some Z =>
              if Z.2.2.1 < (lg_sl as).length then none else
              match rec d' Z (0, lv_args 0 as, [], s.2.2.2) with
              | some (.inl v, h') => rec (d' + 1) M (s.1 + 3, s.2.1, v.toList ++ r, h')
              | some (.inr a, h') => match M.2.2.2.2.2.2.2 with
                | [] => some (.inr a, h')
                | b :: hs => match jhand (b :: hs) s.1 h' a with
                  | some q => rec (d' + 1) M (q, s.2.1, [.ref a], h')
                  | none => none
              | none => none
        | none => match jthr T K M i len s.1 s.2.2.1 with
          | some ci => if d < 8 then none else some (.inr s.2.2.2.length, s.2.2.2 ++ [.inr (ci, [.null, .null, .null, .null, .null, .null])])
          | none => none
def jrun (T : jT) (K : Nat) : Nat → Nat → jM → jS → Option jO
  | 0 => fun _ _ _ => none
  | n + 1 => jbody T K (jrun T K n)
theorem jbody_mono {T : jT} {K : Nat} {f g : Nat → jM → jS → Option jO} (hfg : ∀ d M s r, f d M s = some r → g d M s = some r) {d : Nat} {M : jM} {s : jS} {r : jO} (h : jbody T K f d M s = some r) : jbody T K g d M s = some r := by
  unfold jbody at h ⊢
  cases h1 : M.2.2.2.2.2.2.1 s.1 with
  | none => rw [h1] at h; cases h
  | some q =>
    obtain ⟨i, len⟩ := q
    simp only [h1] at h ⊢
    cases h2 : jstep T.1 K M.2.2.2.2.1 M.2.2.1 M.2.2.2.2.2.1 i len s.1 s.2.1 s.2.2.1 s.2.2.2 with
    | some s' => simp only [h2] at h ⊢; exact hfg _ _ _ _ h
    | none =>
      simp only [h2] at h ⊢
      cases h3 : jend M.2.2.2.1 i len s.2.2.1 with
      | some v => simp only [h3] at h ⊢; exact h
      | none =>
        simp only [h3] at h ⊢
        cases h4 : jcall T.2.1 K M.2.2.2.2.1 i len s.2.2.1 s.2.2.2 with
        | some q =>
          obtain ⟨kd, z, as, r0⟩ := q
          simp only [h4] at h ⊢
          cases d with
          | zero => cases h
          | succ d' =>
            by_cases h5 : 8 < (r0.map fun v => v.category).sum
            · simp only [h5, if_true] at h; cases h
            · simp only [h5, if_false] at h ⊢
              by_cases h6 : kd = 3
              · simp only [h6, if_true] at h ⊢; exact hfg _ _ _ _ h
              · simp only [h6, if_false] at h ⊢
                by_cases h66 : kd = 5
                · simp only [h66, if_true] at h ⊢
                  cases h67 : jcopy K as s.2.2.2 with
                  | none => simp only [h67] at h; cases h
                  | some h' => simp only [h67] at h ⊢; exact hfg _ _ _ _ h
                simp only [h66, if_false] at h ⊢
                cases h7 : T.2.2.1 z with
                | none => simp only [h7] at h; cases h
                | some Z =>
                  simp only [h7] at h ⊢
                  by_cases h8 : Z.2.2.1 < (lg_sl as).length
                  · simp only [h8, if_true] at h; cases h
                  · simp only [h8, if_false] at h ⊢
                    cases h9 : f d' Z (0, lv_args 0 as, [], s.2.2.2) with
                    | none => simp only [h9] at h; cases h
                    | some q9 =>
                      simp only [h9] at h
                      rw [hfg _ _ _ _ h9]
                      obtain ⟨o, h'⟩ := q9
                      cases o with
                      | inl v => exact hfg _ _ _ _ h
                      | inr a =>
                        simp only at h ⊢
                        cases h11 : M.2.2.2.2.2.2.2 with
                        | nil => simp only [h11] at h ⊢; exact h
                        | cons b hs =>
                          simp only [h11] at h ⊢
                          cases h10 : jhand (b :: hs) s.1 h' a with
                          | some q => simp only [h10] at h ⊢; exact hfg _ _ _ _ h
                          | none => simp only [h10] at h; cases h
        | none =>
          simp only [h4] at h ⊢
          exact h
theorem jrun_mono {T : jT} {K : Nat} : ∀ (n : Nat) {d : Nat} {M : jM} {s : jS} {r : jO}, jrun T K n d M s = some r → jrun T K (n + 1) d M s = some r
  | 0, _, _, _, _, h => by cases h
  | n + 1, _, _, _, _, h => jbody_mono (fun _ _ _ _ h => jrun_mono n h) h
theorem jrun_le {T : jT} {K n : Nat} (k : Nat) {d : Nat} {M : jM} {s : jS} {r : jO} (h : jrun T K n d M s = some r) : jrun T K (n + k) d M s = some r := by
  induction k with
  | zero => exact h
  | succ k ih => exact jrun_mono _ ih
/-- the method comes to this end -/
def jEv (T : jT) (K d : Nat) (M : jM) (s : jS) (r : jO) : Prop := ∃ n, jrun T K n d M s = some r
/-- k plain steps -/
def jit (T : jT) (K : Nat) (M : jM) : Nat → jS → Option jS
  | 0, s => some s
  | k + 1, s => match M.2.2.2.2.2.2.1 s.1 with
    | none => none
    | some (i, len) => match jstep T.1 K M.2.2.2.2.1 M.2.2.1 M.2.2.2.2.2.1 i len s.1 s.2.1 s.2.2.1 s.2.2.2 with
      | some s' => jit T K M k s'
      | none => none
theorem jEv.steps {T : jT} {K d : Nat} {M : jM} {r : jO} : ∀ (k : Nat) {s s' : jS}, jit T K M k s = some s' → jEv T K d M s' r → jEv T K d M s r
  | 0, _, _, h, kk => by cases h; exact kk
  | k + 1, s, s', h, kk => by
    unfold jit at h
    split at h
    · cases h
    · rename_i i len hf
      split at h
      · rename_i s1 hs
        obtain ⟨n, hn⟩ := jEv.steps k h kk
        refine ⟨n + 1, ?_⟩
        show jbody T K (jrun T K n) d M s = some r
        unfold jbody
        simp only [hf, hs]
        exact hn
      · cases h
/-- what stands here when it is no plain step: the end (.inl), or a call -/
def jat (T : jT) (K : Nat) (M : jM) (s : jS) : Option (Option Value ⊕ (Nat × Nat × List Value × List Value)) := match M.2.2.2.2.2.2.1 s.1 with
  | none => none
  | some (i, len) => match jstep T.1 K M.2.2.2.2.1 M.2.2.1 M.2.2.2.2.2.1 i len s.1 s.2.1 s.2.2.1 s.2.2.2 with
    | some _ => none
    | none => match jend M.2.2.2.1 i len s.2.2.1 with
      | some v => some (.inl v)
      | none => match jcall T.2.1 K M.2.2.2.2.1 i len s.2.2.1 s.2.2.2 with
        | some (kd, z, as, r) => if 8 < (r.map fun v => v.category).sum then none else some (.inr (kd, z, as, r))
        | none => none
theorem jEv.ret {T : jT} {K d : Nat} {M : jM} {s : jS} {v : Option Value} (h : jat T K M s = some (.inl v)) : jEv T K d M s (.inl v, s.2.2.2) := by
  refine ⟨1, ?_⟩
  show jbody T K (jrun T K 0) d M s = _
  unfold jat at h
  unfold jbody
  split at h
  · cases h
  · rename_i i len hf
    split at h
    · cases h
    · rename_i hs
      split at h
      · rename_i w hw
        cases h
        simp only [hf, hs, hw]
      · split at h
        · split at h <;> cases h
        · cases h
theorem jEv.call {T : jT} {K d : Nat} {M Z : jM} {s : jS} {kd z : Nat} {as r0 : List Value} {v : Option Value} {h' : jH} {r : jO} (h : jat T K M s = some (.inr (kd, z, as, r0))) (hk : kd ≠ 3) (hk5 : kd ≠ 5) (hz : T.2.2.1 z = some Z) (hl : (lg_sl as).length ≤ Z.2.2.1)
    (hc : jEv T K d Z (0, lv_args 0 as, [], s.2.2.2) (.inl v, h')) (kk : jEv T K (d + 1) M (s.1 + 3, s.2.1, v.toList ++ r0, h') r) : jEv T K (d + 1) M s r := by
  obtain ⟨n1, hn1⟩ := hc
  obtain ⟨n2, hn2⟩ := kk
  refine ⟨n1 + n2 + 1, ?_⟩
  show jbody T K (jrun T K (n1 + n2)) (d + 1) M s = _
  have e1 := jrun_le n2 hn1
  have e2 : jrun T K (n1 + n2) (d + 1) M (s.1 + 3, s.2.1, v.toList ++ r0, h') = some r := by
    rw [Nat.add_comm]
    exact jrun_le n1 hn2
  unfold jat at h
  unfold jbody
  split at h
  · cases h
  · rename_i i len hf
    split at h
    · cases h
    · rename_i hs
      split at h
      · cases h
      · rename_i hw
        split at h
        · rename_i kd' z' as' r' hcl
          split at h
          · cases h
          · rename_i h8
            cases h
            simp only [hf, hs, hw, hcl, if_neg h8, if_neg hk, if_neg hk5, hz, if_neg (Nat.not_lt.mpr hl), e1]
            exact e2
        · cases h
theorem jEv.obj {T : jT} {K d : Nat} {M : jM} {s : jS} {z : Nat} {as r0 : List Value} {r : jO} (h : jat T K M s = some (.inr (3, z, as, r0)))
    (kk : jEv T K (d + 1) M (s.1 + 3, s.2.1, r0, s.2.2.2) r) : jEv T K (d + 1) M s r := by
  obtain ⟨n2, hn2⟩ := kk
  refine ⟨n2 + 1, ?_⟩
  show jbody T K (jrun T K n2) (d + 1) M s = _
  unfold jat at h
  unfold jbody
  split at h
  · cases h
  · rename_i i len hf
    split at h
    · cases h
    · rename_i hs
      split at h
      · cases h
      · rename_i hw
        split at h
        · rename_i kd' z' as' r' hcl
          split at h
          · cases h
          · rename_i h8
            cases h
            simp only [hf, hs, hw, hcl, if_neg h8, if_true]
            exact hn2
        · cases h
end
section
/-! what the small machine does, the machine does -/
def jLok (SP : State → Prop) (TB : List Jvm.Cond) (cl : List vw_C) (mt : Nat → Option jM) (own : String) (idx kd z n ci : Nat) : Prop :=
  (kd = 0 → ∃ (Z : jM) (T : u_T) (N : Nat), mt z = some Z ∧ cl[ci]? = some (Z.1.cls, T, N) ∧ Jvm.Cond.methodLink own idx Z.1 ∈ TB ∧ Jvm.Cond.instanceMethod Z.1 ∈ TB ∧ Jvm.Cond.selects Z.1.cls Z.1 Z.1 ∈ TB ∧ (parseMethodDescriptor Z.1.desc).map (fun d => d.parameters.length) = some (n - 1)) ∧
  (kd = 1 → ∃ Z : jM, mt z = some Z ∧ Z.1.name = "<init>" ∧ Z.2.2.2.1 = none ∧ Z.2.2.2.2.2.2.2 = [] ∧ Jvm.Cond.methodLink own idx Z.1 ∈ TB ∧ Jvm.Cond.instanceMethod Z.1 ∈ TB ∧ (parseMethodDescriptor Z.1.desc).map (fun d => d.parameters.length) = some (n - 1)) ∧
  (kd = 2 → ∃ Z : jM, mt z = some Z ∧ Jvm.Cond.methodLink own idx Z.1 ∈ TB ∧ Jvm.Cond.static Z.1 ∈ TB ∧ (parseMethodDescriptor Z.1.desc).map (fun d => d.parameters.length) = some n) ∧
  (kd = 3 → Jvm.Cond.methodLink own idx Lib.objectInit ∈ TB ∧ Jvm.Cond.instanceMethod Lib.objectInit ∈ TB ∧ Jvm.Cond.code Lib.objectInit ⟨#[0xb1]⟩ 1 none ∈ TB) ∧
  (kd = 4 → ∃ (Z : jM) (host : String), mt z = some Z ∧ Z.1.name = "<init>" ∧ Z.2.2.2.1 = none ∧ Z.2.2.2.2.2.2.2 = [] ∧ (∀ s, SP s → va_Nw (.methodLinkNest own idx Z.1 host) s) ∧ Jvm.Cond.instanceMethod Z.1 ∈ TB ∧ (parseMethodDescriptor Z.1.desc).map (fun d => d.parameters.length) = some (n - 1)) ∧
  (kd = 5 → Jvm.Cond.methodLink own idx arraycopyName ∈ TB ∧ Jvm.Cond.native arraycopyName ∈ TB ∧ Jvm.Cond.static arraycopyName ∈ TB ∧ Jvm.Cond.initialized "java/lang/System" ∈ TB)
/-- what is known of a method's tables -/
def jMok (TB : List Jvm.Cond) (cl : List vw_C) (α : Nat → Nat) (sz : Nat) (SP : State → Prop) (T : jT) (own : String) (cn : Nat) (bytes : ByteArray) (nL : Nat) (ft : Nat → Option (Instr × Nat)) : Prop :=
  (∀ pc i len, ft pc = some (i, len) → decode bytes pc = .ok (i, len)) ∧ nL ≤ 45 ∧
  (∀ idx ci k kd, T.1.1 cn idx = some (ci, k, kd) → jFok SP TB cl own idx ci k kd) ∧
  (∀ idx ci fs, T.1.2.1 cn idx = some (ci, fs) → jNok TB cl own idx ci fs) ∧
  (∀ idx v, T.1.2.2.1 cn idx = some v → ∀ s, SP s → ∃ C n d, va_Z C n d (jx_V α v) (fun q => sz ≤ q) s s.heap ∧ Jvm.Cond.fieldLink own idx C n d ∈ TB) ∧
  (∀ idx v, T.1.2.2.2 cn idx = some v → (∃ x, v = .int x ∧ Jvm.Cond.constant own idx x ∈ TB) ∨ (∃ x, v = .long x ∧ Jvm.Cond.constantLong own idx x ∈ TB) ∨ ∃ a tx, v = .ref a ∧ ∀ s, SP s → vk_R own idx tx (α a) s) ∧
  (∀ idx kd z n ci, T.2.1 cn idx = some (kd, z, n, ci) → jLok SP TB cl T.2.2.1 own idx kd z n ci)
/-- the frame of things: addresses, words, what is kept -/
def jOK (D : va_G) (cl : List vw_C) (tys : List (ClassId × FieldType)) (α : Nat → Nat) (dA : FieldType → ClassId) (K sz : Nat) (SP : State → Prop) (TB : List Jvm.Cond) (hd0 : jH) (T : jT) : Prop :=
  (∀ j, α (K + j) = sz + j) ∧ (hd0.length = K ∧ ∀ x y, jcmp x → jcmp y → α x = α y → x = y) ∧
  (∀ w ∈ TB, (w.onTables && w.keeps) = true ∨ ∃ ty, w = .arrayClass ty) ∧
  (∀ at' N c, jnewa at' N = some c → jTy tys dA (newarray.typeOf at') ∧ Jvm.Cond.arrayClass (newarray.typeOf at') ∈ TB) ∧
  (∀ (u U : State), u.WarmedH U.vm → (∀ q : Nat, q < sz → U.heap[q]? = u.heap[q]?) → SP u → SP U) ∧
  (∀ a ty x, hd0[a]? = some (.inl (ty, x)) → ty = .int ∧ ∃ xs, x.2 = .inl xs ∧ α a < sz ∧ ∀ s, SP s → va_X (α a) x.1 xs s s.heap) ∧
  (∀ z M, T.2.2.1 z = some M → plainName M.1.cls = true ∧ (M.1.cls ≠ "java/lang/invoke/MethodHandle" ∧ M.1.cls ≠ "java/lang/invoke/VarHandle") ∧ (M.2.2.2.2.2.1 = true → M.1.name = "<init>") ∧
    (if M.2.2.2.2.2.2.2.map (fun q => q.1) = [] then Jvm.Cond.code M.1 M.2.1 M.2.2.1 M.2.2.2.1 else Jvm.Cond.codeWith M.1 M.2.1 M.2.2.1 M.2.2.2.1 (M.2.2.2.2.2.2.2.map (fun q => q.1))) ∈ TB ∧ Jvm.Cond.initialized M.1.cls ∈ TB ∧ jMok TB cl α sz SP T M.1.cls M.2.2.2.2.1 M.2.1 M.2.2.1 M.2.2.2.2.2.2.1)
theorem jld_take {K a : Nat} {h hd0 : jH} (hh : h.take K = hd0) (ha : a < K) : h[a]? = hd0[a]? := by
  rw [← hh, List.getElem?_take, if_pos ha]
theorem jtot_push (h : jH) (c : jC) : jtot (h ++ [c]) = jtot h + jsz c := by simp [jtot]
theorem jtot_set {h : jH} {a : Nat} {c c' : jC} (ha : h[a]? = some c) (hs : jsz c' = jsz c) : jtot (h.set a c') = jtot h := by
  unfold jtot
  rw [List.map_set, hs]
  congr 1
  apply List.ext_getElem?
  intro i
  rw [List.getElem?_set]
  by_cases hi : a = i
  · subst hi
    rw [if_pos rfl, List.length_map, List.getElem?_map, ha, if_pos ((List.getElem?_eq_some_iff.mp ha).1)]
    rfl
  · rw [if_neg hi]
theorem jhp_grow {G : jG} {K cn : Nat} {ini : Bool} {i : Instr} {st st' : List Value} {h h' : jH} {k : Nat} (hq : jhp G K cn ini i st h = some (st', h', k)) (hKl : K ≤ h.length) : h'.take K = h.take K ∧ h.length ≤ h'.length ∧ (jtot h ≤ jtot h') := by
  unfold jhp at hq
  repeat' split at hq
  all_goals first
    | (cases hq; done)
    | (cases hq; exact ⟨rfl, Nat.le_refl _, Nat.le_refl _⟩)
    | (cases hq; exact ⟨by rw [List.take_append_of_le_length hKl], by rw [List.length_append]; exact Nat.le_add_right _ _, by rw [jtot_push]; exact Nat.le_add_right _ _⟩)
    | (cases hq; exact ⟨by rw [List.take_set_of_le (by first | omega | exact Nat.le_of_not_lt (fun z => absurd (Or.inr z) (by assumption)))], by rw [List.length_set]; exact Nat.le_refl _, by rw [jtot_set (by assumption) (by first | rfl | simp [jsz])]; exact Nat.le_refl _⟩)
theorem jstep_grow {G : jG} {K cn nL : Nat} {ini : Bool} {i : Instr} {len pc : Nat} {lv : List (Nat × Value)} {st : List Value} {h : jH} {s' : jS} (hs : jstep G K cn nL ini i len pc lv st h = some s') (hKl : K ≤ h.length) : s'.2.2.2.take K = h.take K ∧ h.length ≤ s'.2.2.2.length ∧ jtot h ≤ jtot s'.2.2.2 := by
  unfold jstep at hs
  split at hs
  · split at hs
    · cases hs; exact ⟨rfl, Nat.le_refl _, Nat.le_refl _⟩
    · cases hs
  · split at hs
    · split at hs
      · cases hs; exact ⟨rfl, Nat.le_refl _, Nat.le_refl _⟩
      · cases hs
    · split at hs
      · cases hs; exact ⟨rfl, Nat.le_refl _, Nat.le_refl _⟩
      · split at hs
        · rename_i hq
          split at hs
          · cases hs; exact jhp_grow hq hKl
          · cases hs
        · cases hs
section JS
variable {p : Program} {l : Launch} {e : Env} {R : Room} {s : State} {m : MethodId} {args : Array Value} {below : List Frame} {meth : Method} {c : Code} {Q : State → Prop}
variable {D : va_G} {cl : List vw_C} {tys : List (ClassId × FieldType)} {α : Nat → Nat} {dA : FieldType → ClassId} {K sz : Nat} {SP : State → Prop} {TB : List Jvm.Cond} {hd0 : jH} {T : jT}
/-- a method's own surroundings -/
def jEnv (D : va_G) (cl : List vw_C) (tys : List (ClassId × FieldType)) (α : Nat → Nat) (K sz : Nat) (SP : State → Prop) (TB : List Jvm.Cond) (T : jT) (p : Program) (s : State) (m : MethodId) (args : Array Value) (meth : Method) (c : Code)
    (own : String) (cn : Nat) (bytes : ByteArray) (nL : Nat) (ini : Bool) (ft : Nat → Option (Instr × Nat)) (n0 : Nat) : Prop :=
  p.tables.exec = Jvm.exec ∧ c.code = bytes ∧ c.maxLocals = nL ∧ s.vm.findClass own = some m.cls ∧ (∀ w ∈ TB, w.before args s = true) ∧ (ini = true → meth.name = "<init>") ∧ va_K D cl tys s ∧ SP s ∧ K ≤ n0 ∧ s.heap.size = sz + (n0 - K) ∧
    jMok TB cl α sz SP T own cn bytes nL ft
set_option maxHeartbeats 4000000 in
theorem jhp_ok (O : jOK D cl tys α dA K sz SP TB hd0 T) {own : String} {cn : Nat} {bytes : ByteArray} {nL : Nat} {ini : Bool} {ft : Nat → Option (Instr × Nat)} {n0 t0 : Nat}
    (V : jEnv D cl tys α K sz SP TB T p s m args meth c own cn bytes nL ini ft n0) {i : Instr} {len pc : Nat} {lv : List (Nat × Value)} {st st' : List Value} {h h' : jH} (hd : decode bytes pc = .ok (i, len))
    (hq : jhp T.1 K cn ini i st h = some (st', h', len)) (hh : h.take K = hd0) (hn0 : n0 ≤ h.length) (ht0 : t0 ≤ jtot h) (hKl : K ≤ h.length) :
    h'.take K = hd0 ∧ h.length ≤ h'.length ∧ jtot h ≤ jtot h' ∧
    ((h'.length - n0 ≤ R.cells) → (jtot h' - t0 ≤ R.slots) →
      (∀ (ls : Array Slot) (H : Heap) (locs : List Loc), lv_has ls nL (lv.map (jx_L α)) → jRel D cl α dA K sz h' s H locs → W p l e R s m args below meth c H locs (h'.length - n0) (jtot h' - t0) Q (F0 m (pc + len) ls (st'.map (jx_V α)))) →
      ∀ (ls : Array Slot) (H : Heap) (locs : List Loc), lv_has ls nL (lv.map (jx_L α)) → jRel D cl α dA K sz h s H locs → W p l e R s m args below meth c H locs (h.length - n0) (jtot h - t0) Q (F0 m pc ls (st.map (jx_V α)))) := by
  obtain ⟨hα, ⟨hd0l, hinj⟩, hgood, harr, hSPm, hscr, hmt⟩ := O
  obtain ⟨hx, hb, hml, hown, hts, hini, hK, hSP, hKn, hsz, hdec, hnL, hF, hN, hS, hC, hL⟩ := V
  have hsz' : sz ≤ s.heap.size := by omega
  unfold jhp at hq
  split at hq
  · split at hq
    · split at hq
      · rename_i ci k kd hg
        split at hq
        · rename_i cj fs ha
          split at hq
          · rename_i hc
            split at hq
            · rename_i v hv
              cases hq
              obtain ⟨rfl, hKa⟩ := hc
              exact ⟨hh, Nat.le_refl _, Nat.le_refl _, fun _ _ k ls H locs hl hR => jget_ok hx hb hts hown hK hR hSP (hF _ _ _ _ hg) ha hKa hv hd (k ls H locs hl hR)⟩
            · cases hq
          · cases hq
        · cases hq
      · cases hq
    · cases hq
  · split at hq
    · split at hq
      · rename_i ci k kd hg
        split at hq
        · rename_i cj fs ha
          split at hq
          · rename_i hc
            cases hq
            obtain ⟨rfl, hKa, hkl, hft, hin2⟩ := hc
            refine ⟨by rw [List.take_set_of_le hKa]; exact hh, by rw [List.length_set]; exact Nat.le_refl _, by rw [jtot_set ha (by simp [jsz])]; exact Nat.le_refl _, fun _ _ k ls H locs hl hR => ?_⟩
            refine jput_ok hx hb hts hown hK hα hR hSP (hF _ _ _ _ hg) ha hKa hkl hft (hin2.imp id hini) hd (fun H1 locs1 hR1 => ?_)
            have k1 := k ls H1 locs1 hl hR1
            rw [List.length_set, jtot_set ha (by simp [jsz])] at k1
            exact k1
          · cases hq
        · cases hq
      · cases hq
    · cases hq
  · split at hq
    · rename_i v hg
      cases hq
      refine ⟨hh, Nat.le_refl _, Nat.le_refl _, fun _ _ k ls H locs hl hR => ?_⟩
      obtain ⟨C, n, d, hZ, hlk⟩ := hS _ _ hg s hSP
      exact jgets_ok hx hb hts hown hR hZ hlk hd (k ls H locs hl hR)
    · cases hq
  · split at hq
    · rename_i x hg
      cases hq
      refine ⟨hh, Nat.le_refl _, Nat.le_refl _, fun _ _ k ls H locs hl hR => ?_⟩
      rcases hC _ _ hg with ⟨x', e1, hw⟩ | ⟨x', e1, hw⟩ | ⟨a, tx, e1, hw⟩
      · cases e1; exact lv_ldc hx hb hown (hts _ hw) hd (k ls H locs hl hR)
      · cases e1
      · cases e1
    · rename_i x hg
      cases hq
      refine ⟨hh, Nat.le_refl _, Nat.le_refl _, fun _ _ k ls H locs hl hR => ?_⟩
      rcases hC _ _ hg with ⟨x', e1, hw⟩ | ⟨x', e1, hw⟩ | ⟨a, tx, e1, hw⟩
      · cases e1
      · cases e1
      · cases e1; exact va_ldcS hx hb hown (hw s hSP) hd (k ls H locs hl hR)
    · cases hq
  · split at hq
    · rename_i x hg
      cases hq
      refine ⟨hh, Nat.le_refl _, Nat.le_refl _, fun _ _ k ls H locs hl hR => ?_⟩
      rcases hC _ _ hg with ⟨x', e1, hw⟩ | ⟨x', e1, hw⟩ | ⟨a, tx, e1, hw⟩
      · cases e1; exact lv_ldcw hx hb hown (hts _ hw) hd (k ls H locs hl hR)
      · cases e1
      · cases e1
    · cases hq
  · split at hq
    · rename_i x hg
      cases hq
      refine ⟨hh, Nat.le_refl _, Nat.le_refl _, fun _ _ k ls H locs hl hR => ?_⟩
      rcases hC _ _ hg with ⟨x', e1, hw⟩ | ⟨x', e1, hw⟩ | ⟨a, tx, e1, hw⟩
      · cases e1
      · cases e1; exact lv_ldc2 hx hb hown (hts _ hw) hd (k ls H locs hl hR)
      · cases e1
    · cases hq
  · split at hq
    · rename_i ci fs hg
      cases hq
      refine ⟨by rw [List.take_append_of_le_length hKl]; exact hh, by rw [List.length_append]; omega, by rw [jtot_push]; omega, fun hc1 hc2 k ls H locs hl hR => ?_⟩
      refine W.jsized (fun hub => ?_)
      have hz : H.size = α h.length := by
        rw [hR.size hα hsz' (by omega), ← hα]
        congr 1
        omega
      rw [List.length_append] at hc1
      rw [jtot_push] at hc2
      refine jnew_ok hx hb hts hown hK hsz' hR hz (hN _ _ _ hg) (by simp at hc1; omega) (by simp only [jsz] at hc2; omega) hd (fun H1 hR1 => ?_)
      have k1 := k ls H1 locs hl hR1
      rw [List.length_append, jtot_push] at k1
      refine W.cs ?_ ?_ k1
      · simp; omega
      · simp only [jsz]; omega
    · cases hq
  · split at hq
    · split at hq
      · cases hq
      · rename_i n r hn
        split at hq
        · rename_i c1 hc1
          cases hq
          refine ⟨by rw [List.take_append_of_le_length hKl]; exact hh, by rw [List.length_append]; omega, by rw [jtot_push]; omega, fun hr1 hr2 k ls H locs hl hR => ?_⟩
          refine W.jsized (fun hub => ?_)
          have hz : H.size = α h.length := by
            rw [hR.size hα hsz' (by omega), ← hα]
            congr 1
            omega
          have hsz1 : jsz c1 = n.toNatClampNeg := by
            unfold jnewa at hc1
            split at hc1 <;> first | (cases hc1; rfl) | cases hc1
          rw [List.length_append] at hr1
          rw [jtot_push, hsz1] at hr2
          refine jnewa_ok hx hb hts hK hsz' hR hz (harr _ _ _ hc1).1 (harr _ _ _ hc1).2 hc1 (fun z => hn (Or.inl z)) (fun z => hn (Or.inr z)) (by simp at hr1; omega) (by omega) hd (fun H1 hR1 => ?_)
          have k1 := k ls H1 locs hl hR1
          rw [List.length_append, jtot_push, hsz1] at k1
          refine W.cs ?_ ?_ k1
          · simp; omega
          · omega
        · cases hq
    · cases hq
  · split at hq
    · rename_i a r
      split at hq
      · rename_i ty n x ha
        split at hq
        · rename_i hty
          cases hq
          obtain ⟨at', c0, e0, e2⟩ := jat_of hty
          refine ⟨hh, Nat.le_refl _, Nat.le_refl _, fun _ _ k ls H locs hl hR => ?_⟩
          by_cases hKa : K ≤ a
          · exact jalen hx hb hK (e0 ▸ (harr _ _ _ e2).1) hR ha hKa hd (k ls H locs hl hR)
          · rw [jld_take hh (by omega)] at ha
            obtain ⟨-, xs, e1, h1, h2⟩ := hscr _ _ _ ha
            exact va_slen hx hb (h2 s hSP) (by omega) (fun z => absurd (show sz ≤ _ from z) (by omega)) hR.2.2 hd (k ls H locs hl hR)
        · cases hq
      · cases hq
    · cases hq
  · split at hq
    · rename_i j a r
      split at hq
      · rename_i n f ha
        split at hq
        · cases hq
        · rename_i hj
          cases hq
          refine ⟨hh, Nat.le_refl _, Nat.le_refl _, fun _ _ k ls H locs hl hR => ?_⟩
          by_cases hKa : K ≤ a
          · exact jiald hx hb hK (harr .int 0 _ rfl).1 hR ha hKa hj hd (k ls H locs hl hR)
          · rw [jld_take hh (by omega)] at ha
            obtain ⟨-, xs, e1, h1, h2⟩ := hscr _ _ _ ha
            cases e1
            exact va_sld hx hb (h2 s hSP) (by omega) (fun z => absurd (show sz ≤ _ from z) (by omega)) hR.2.2 hj hd (k ls H locs hl hR)
      · cases hq
    · cases hq
  · split at hq
    · rename_i j a r
      split at hq
      · rename_i n f ha
        split at hq
        · cases hq
        · rename_i hj
          cases hq
          refine ⟨hh, Nat.le_refl _, Nat.le_refl _, fun _ _ k ls H locs hl hR => ?_⟩
          by_cases hKa : K ≤ a
          · exact jcald hx hb hK (harr .char 0 _ rfl).1 hR ha hKa hj hd (k ls H locs hl hR)
          · rw [jld_take hh (by omega)] at ha
            obtain ⟨e0, -⟩ := hscr _ _ _ ha
            cases e0
      · cases hq
    · cases hq
  · split at hq
    · rename_i j a r
      split at hq
      · rename_i n f ha
        split at hq
        · cases hq
        · rename_i hj
          cases hq
          refine ⟨hh, Nat.le_refl _, Nat.le_refl _, fun _ _ k ls H locs hl hR => ?_⟩
          by_cases hKa : K ≤ a
          · exact jlald hx hb hK (harr .long 0 _ rfl).1 hR ha hKa hj hd (k ls H locs hl hR)
          · rw [jld_take hh (by omega)] at ha
            obtain ⟨e0, -⟩ := hscr _ _ _ ha
            cases e0
      · cases hq
    · cases hq
  · split at hq
    · rename_i x j a r
      split at hq
      · rename_i n f ha
        split at hq
        · cases hq
        · rename_i hj
          cases hq
          have hKa : K ≤ a := Nat.le_of_not_lt (fun z => hj (Or.inr z))
          refine ⟨by rw [List.take_set_of_le hKa]; exact hh, by rw [List.length_set]; exact Nat.le_refl _, by rw [jtot_set ha (by rfl)]; exact Nat.le_refl _, fun _ _ k ls H locs hl hR => ?_⟩
          refine jiast hx hb hK hα (harr .int 0 _ rfl).1 hR ha hKa (fun z => hj (Or.inl z)) hd (fun H1 locs1 hR1 => ?_)
          have k1 := k ls H1 locs1 hl hR1
          rw [List.length_set, jtot_set ha (by rfl)] at k1
          exact k1
      · cases hq
    · cases hq
  · split at hq
    · rename_i x j a r
      split at hq
      · rename_i n f ha
        split at hq
        · cases hq
        · rename_i hj
          cases hq
          have hKa : K ≤ a := Nat.le_of_not_lt (fun z => hj (Or.inr z))
          refine ⟨by rw [List.take_set_of_le hKa]; exact hh, by rw [List.length_set]; exact Nat.le_refl _, by rw [jtot_set ha (by rfl)]; exact Nat.le_refl _, fun _ _ k ls H locs hl hR => ?_⟩
          refine jcast hx hb hK hα (harr .char 0 _ rfl).1 hR ha hKa (fun z => hj (Or.inl z)) hd (fun H1 locs1 hR1 => ?_)
          have k1 := k ls H1 locs1 hl hR1
          rw [List.length_set, jtot_set ha (by rfl)] at k1
          exact k1
      · cases hq
    · cases hq
  · split at hq
    · rename_i x j a r
      split at hq
      · rename_i n f ha
        split at hq
        · cases hq
        · rename_i hj
          cases hq
          have hKa : K ≤ a := Nat.le_of_not_lt (fun z => hj (Or.inr z))
          refine ⟨by rw [List.take_set_of_le hKa]; exact hh, by rw [List.length_set]; exact Nat.le_refl _, by rw [jtot_set ha (by rfl)]; exact Nat.le_refl _, fun _ _ k ls H locs hl hR => ?_⟩
          refine jlast hx hb hK hα (harr .long 0 _ rfl).1 hR ha hKa (fun z => hj (Or.inl z)) hd (fun H1 locs1 hR1 => ?_)
          have k1 := k ls H1 locs1 hl hR1
          rw [List.length_set, jtot_set ha (by rfl)] at k1
          exact k1
      · cases hq
    · cases hq
  · cases hq
set_option maxHeartbeats 2000000 in
/-- one step -/
theorem jstep_ok (O : jOK D cl tys α dA K sz SP TB hd0 T) {own : String} {cn : Nat} {bytes : ByteArray} {nL : Nat} {ini : Bool} {ft : Nat → Option (Instr × Nat)} {n0 t0 : Nat}
    (V : jEnv D cl tys α K sz SP TB T p s m args meth c own cn bytes nL ini ft n0) {i : Instr} {len pc pc' : Nat} {lv lv' : List (Nat × Value)} {st st' : List Value} {h h' : jH} (hft : ft pc = some (i, len))
    (hs : jstep T.1 K cn nL ini i len pc lv st h = some (pc', lv', st', h')) (hh : h.take K = hd0) (hn0 : n0 ≤ h.length) (ht0 : t0 ≤ jtot h) (hKl : K ≤ h.length) :
    h'.take K = hd0 ∧ h.length ≤ h'.length ∧ jtot h ≤ jtot h' ∧
    ((h'.length - n0 ≤ R.cells) → (jtot h' - t0 ≤ R.slots) →
      (∀ (ls : Array Slot) (H : Heap) (locs : List Loc), lv_has ls nL (lv'.map (jx_L α)) → jRel D cl α dA K sz h' s H locs → W p l e R s m args below meth c H locs (h'.length - n0) (jtot h' - t0) Q (F0 m pc' ls (st'.map (jx_V α)))) →
      ∀ (ls : Array Slot) (H : Heap) (locs : List Loc), lv_has ls nL (lv.map (jx_L α)) → jRel D cl α dA K sz h s H locs → W p l e R s m args below meth c H locs (h.length - n0) (jtot h - t0) Q (F0 m pc ls (st.map (jx_V α)))) := by
  obtain ⟨hα, ⟨hd0l, hinj⟩, hgood, harr, hSPm, hscr, hmt⟩ := O
  obtain ⟨hx, hb, hml, hown, hts, hini, hK, hSP, hKn, hsz, hdec, hnL, hF, hN, hS, hC, hL⟩ := V
  have hd := hdec pc i len hft
  have hsz' : sz ≤ s.heap.size := by omega
  unfold jstep at hs
  split at hs
  · rename_i st1 k1 hq
    split at hs
    · rename_i hk; subst hk; cases hs
      exact ⟨hh, Nat.le_refl _, Nat.le_refl _, fun _ _ k ls H locs hl hR => jstk_ok hx hb hq hd (k ls H locs hl hR)⟩
    · cases hs
  · split at hs
    · rename_i lv1 st1 k1 hq
      split at hs
      · rename_i hk; subst hk; cases hs
        exact ⟨hh, Nat.le_refl _, Nat.le_refl _, fun _ _ k ls H locs hl hR => jloc_ok hx hb hq hd hl (fun ls' hl' => k ls' H locs hl' hR)⟩
      · cases hs
    · split at hs
      · rename_i pc1 st1 hq
        cases hs
        exact ⟨hh, Nat.le_refl _, Nat.le_refl _, fun _ _ k ls H locs hl hR => jjmp_ok hx hb hinj hq hd (k ls H locs hl hR)⟩
      · split at hs
        · rename_i st1 h1 k1 hq
          split at hs
          · rename_i hk; subst hk; cases hs
            exact jhp_ok ⟨hα, ⟨hd0l, hinj⟩, hgood, harr, hSPm, hscr, hmt⟩ ⟨hx, hb, hml, hown, hts, hini, hK, hSP, hKn, hsz, hdec, hnL, hF, hN, hS, hC, hL⟩ hd hq hh hn0 ht0 hKl
          · cases hs
        · cases hs
end JS
end
section
/-! contracts whose end may be an answer or an exception, and calls by them -/
section JK
variable {l : Launch}
/-- the frame of an end, whatever it is -/
def jFE (first : State) (t : State) (L : List Loc) (k n : Nat) : Prop := first.WarmedH t.vm ∧ first.sameButNew ({ t with vm := first.vm } : State) L k n
def jMet (l : Launch) (y : MethodName) (ws : List Jvm.Cond) (rm : Room) (Pc : Array Value → State → Prop) (Qc : Array Value → State → Outcome → State → Prop) (mc ms : Nat) (free : Addr → Prop) : Prop :=
  MetFree l y (headSpec ws rm) Pc (fun _ _ _ _ _ => True) (fun a st o t => Qc a st o t ∧ ∃ L, jFE st t L mc ms ∧ ∀ q ∈ L, free q.base)
def jMQ (below : List Frame) (Qc : Array Value → State → Outcome → State → Prop) (a : Array Value) (s : State) (mc ms : Nat) (free : Addr → Prop) : State → Prop := fun t =>
  ∃ o, t.status = .running ∧ Ended t below o ∧ Qc a s o t ∧ ∃ L, jFE s t L mc ms ∧ ∀ q ∈ L, free q.base
theorem W.jmono {p : Program} {e : Env} {R : Room} {s : State} {m : MethodId} {args : Array Value} {below : List Frame} {meth : Method} {c : Code} {H : Heap} {locs : List Loc} {cells slots : Nat} {Q Q' : State → Prop} {g : JFrame}
    (h : ∀ t, Q t → Q' t) (k : W p l e R s m args below meth c H locs cells slots Q g) : W p l e R s m args below meth c H locs cells slots Q' g := fun T hT X => by
  obtain ⟨t, a, b⟩ := k T hT X
  exact ⟨t, a, h t b⟩
theorem jMQ_of {below : List Frame} {Qc : Array Value → State → Outcome → State → Prop} {a : Array Value} {s : State} {mc ms : Nat} {free : Addr → Prop} {t : State} (h : MQ below Qc a s mc ms free t) : jMQ below Qc a s mc ms free t := by
  obtain ⟨o, h1, h2, h3, L, h4, h5⟩ := h
  exact ⟨o, h1, h2, h3, L, ⟨h4.2.1, h4.2.2⟩, h5⟩
/-- a method with no handlers -/
theorem jMet.ofW {y : MethodName} {ws ws' : List Jvm.Cond} {rm : Room} {Pc : Array Value → State → Prop} {Qc : Array Value → State → Outcome → State → Prop} {mc ms : Nat} {free : Addr → Prop} {cc : ByteArray} {maxL : Nat} {ret : Option FieldType}
    (hy : plainName y.cls = true) (hw : ws = Jvm.Cond.code y cc maxL ret :: ws')
    (body : ∀ p e s m args below meth c s₁, BodyLoose p l y (headSpec ws rm) cc maxL ret e s m args below meth c s₁ → c.maxLocals = maxL → c.exceptionTable.toList = [] → Pc args s →
      W p l e (headSpec ws rm).room s m args below meth c s.heap [] 0 0 (jMQ below Qc args s mc ms free) (entryFrame m args maxL)) : jMet l y ws rm Pc Qc mc ms free := by
  refine MetFree.of_bodyS (code := cc) (maxLocals := maxL) (ret := ret) hy ?_ ?_
  · intro args s m h hn
    obtain ⟨meth, c, h1, h2, h3, h4, h5, h6, -, -⟩ := Cond.code_spec hn (atoms_spec (ws := ws) h _ (by rw [hw]; exact List.mem_cons_self))
    exact ⟨meth, c, h1, h2, h3, h4, h5, h6⟩
  · intro p e s m args below meth c s₁ B hml hP _
    have hh0 : s₁.heap = s.heap := by rw [B.state]; rfl
    have hex : c.exceptionTable.toList = [] := by
      have h9 := B.noHandlers (atoms_spec (ws := ws) B.pre _ (by rw [hw]; exact List.mem_cons_self))
      simpa using h9
    obtain ⟨t, a1, o, b1, b2, b3⟩ := body p e s m args below meth c s₁ B hml hex hP s₁ hh0 (Stand.of_body B)
    exact ⟨t, o, a1, b1, b2, ⟨b3.1, b3.2⟩⟩
/-- what a callee is: its code by either word -/
def jCode (y : MethodName) (bytes : ByteArray) (maxL : Nat) (ret : Option FieldType) (hh : List (Nat × Nat × Nat × Nat)) : Jvm.Cond := if hh = [] then .code y bytes maxL ret else .codeWith y bytes maxL ret hh
theorem jCode_spec {y : MethodName} {bytes : ByteArray} {maxL : Nat} {ret : Option FieldType} {hh : List (Nat × Nat × Nat × Nat)} {args : Array Value} {s : State} {m : MethodId} (hn : s.methodNamed? y = some m) (h : (jCode y bytes maxL ret hh).before args s = true) :
    ∃ meth c, s.vm.method? m = some meth ∧ meth.code = some c ∧ c.code = bytes ∧ c.maxLocals = maxL ∧ meth.sig.returnType = ret ∧ meth.locks = false ∧ c.exceptionTable.toList.map (fun h => (h.startPc, h.endPc, h.handlerPc, h.catchType)) = hh ∧ parseMethodDescriptor y.desc = some meth.sig := by
  unfold jCode at h
  split at h
  · rename_i e
    subst e
    obtain ⟨meth, c, h1, h2, h3, h4, h5, h6, h7, h8⟩ := Cond.code_spec hn h
    refine ⟨meth, c, h1, h2, h3, h4, h5, h6, ?_, h8⟩
    have : c.exceptionTable.toList = [] := by simpa using h7
    rw [this]
    rfl
  · obtain ⟨m9, meth, c, hn9, h1, h2, h3, h4, h5, h6, h7, h8⟩ := Cond.codeWith_spec h
    cases hn.symm.trans hn9
    exact ⟨meth, c, h1, h2, h3, h4, h6, h7, h5, h8⟩
end JK
section JI
variable {l : Launch} {R : Room} {p : Program} {e : Env} {below : List Frame} {s : State} {sargs : Array Value} {m : MethodId} {meth : Method} {c : Code}
theorem jinv {y : MethodName} {ws : List Jvm.Cond} {rm : Room} {Pc : Array Value → State → Prop} {Qc : Array Value → State → Outcome → State → Prop} {mc ms : Nat} {free : Addr → Prop} {bytes : ByteArray} {maxL : Nat} {ret : Option FieldType} {hh : List (Nat × Nat × Nat × Nat)} {len Wt : Nat}
    (hM : jMet l y ws rm Pc Qc mc ms free) (hblind : FrameBlind Pc) (hrc : rm.cells = mc) (hrs : rm.slots = ms) (hframes : rm.frames + 1 ≤ R.frames) (hlocals : Wt + (maxL + 11) + rm.locals ≤ R.locals)
    (hws : ∀ w ∈ ws, ∀ (a' : Array Value) (U : State), s.WarmedH U.vm → w.before a' U = true) (hcode : jCode y bytes maxL ret hh ∈ ws) (hini : ∀ (a' : Array Value) (U : State), s.WarmedH U.vm → (Jvm.Cond.initialized y.cls).before a' U = true)
    {U : State} {Ls : List Loc} {c0 s0 : Nat} (X : Stand p l e R s m sargs below meth c U Ls c0 s0) {g : JFrame} (hg : g.method = m) (hsize : g.locals.size = c.maxLocals) {ig : Instr} (hdg : decode c.code g.pc = .ok (ig, len)) (hW : 2 * g.monitorRoom + (g.stack.map fun v => v.category).sum ≤ Wt)
    {mk : MethodId} (hn : U.methodNamed? y = some mk) (hc : c0 + mc ≤ R.cells) (hs : s0 + ms ≤ R.slots) {a : Array Value} (hPc : Pc a U) :
    ∃ (o : Outcome) (t T' : State) (L : List Loc), Stand p l e R s m sargs below meth c T' (Ls ++ L) (c0 + mc) (s0 + ms) ∧ (∀ q ∈ L, free q.base) ∧ T'.heap = t.heap ∧ T'.vm = t.vm ∧ Qc a (U.calling g mk a) o t ∧
      ((∃ v, o = .returned v ∧ Steps p.tables e below (doInvoke e (U.setTop g) [] mk a).1 (T'.setTop { g with pc := g.pc + len, stack := v.toList ++ g.stack })) ∨
       (∃ x, o = .threw x ∧ Steps p.tables e below (doInvoke e (U.setTop g) [] mk a).1 ((T'.setTop g).pushFrame (.throwing x)))) := by
  have h2 := hws _ hcode a U X.warmed
  obtain ⟨methY, cY, hmY, hcY, -, hlY, -⟩ := jCode_spec hn h2
  obtain ⟨kY, hkY, -⟩ := className_of_methodNamed hn
  have hinitY : kY.init = .initialized := Cond.initialized_spec (findClass_of_methodNamed hn) hkY (hini a U X.warmed)
  have h : At U g.method c below := by rw [hg]; exact X.here
  have happ : (headSpec ws rm).appliesLoose y e.platform (U.calling g mk a) = true :=
    Spec.appliesLoose_calling (g := g) h hdg hn hkY hinitY
      (X.room_calling (g := g) (R' := (headSpec ws rm).room) hsize hmY hcY hframes (by rw [hlY]; show _ + (maxL + 11) + rm.locals ≤ _; omega) (by show c0 + rm.cells ≤ _; omega) (by show s0 + rm.slots ≤ _; omega)) (atoms_intro fun w hw => hws w hw _ _ X.warmed)
  obtain ⟨mid, hmid⟩ := h.above
  have hfr : (U.setTop g).frames = (.java g :: mid) ++ below := by rw [State.frames_setTop' g h.top, hmid]; rfl
  obtain ⟨o, s₂, hsteps, -, hend, hq⟩ := Steps.callFree hM p X.admits X.cas X.clock (acts := []) hfr happ (hblind _ _ _ _ hPc) trivial
  have hq1 : Qc a (U.calling g mk a) o s₂ ∧ ∃ L, jFE (U.calling g mk a) s₂ L mc ms ∧ ∀ q ∈ L, free q.base := hq
  obtain ⟨hq', L, ⟨hW₂, e2, q2, q3, q4, q5, q6⟩, hL⟩ := hq1
  rw [State.frames_setTop' g h.top] at hend
  have e3 : s₂ = ({ (U.calling g mk a).setFrames s₂.frames with heap := s₂.heap, slotsUsed := s₂.slotsUsed } : State).setVm s₂.vm := by
    have : s₂ = ({ s₂ with vm := (U.calling g mk a).vm } : State).setVm s₂.vm := rfl
    rw [e2] at this
    exact this
  have hW' : U.WarmedH s₂.vm := hW₂
  obtain ⟨g₀, hg0⟩ := Option.isSome_iff_exists.mp h.top
  obtain ⟨r, hr⟩ := State.topJava?_eq_some.mp hg0
  have hr' : (({ U with heap := s₂.heap, slotsUsed := s₂.slotsUsed } : State).setVm s₂.vm).frames = .java g₀ :: r := hr
  have hsame : U.sameButNew ({ U with heap := s₂.heap, slotsUsed := s₂.slotsUsed } : State) L mc ms := by
    refine ⟨?_, q2, q3, q4, q5, q6⟩
    obtain ⟨t, ht, -⟩ := State.frames_cons hr
    show ({ U with heap := s₂.heap, slotsUsed := s₂.slotsUsed } : State) = { U.setFrames U.frames with heap := s₂.heap, slotsUsed := s₂.slotsUsed }
    rw [State.setFrames_self ht]
  have hX' : Stand p l e R s m sargs below meth c (({ U with heap := s₂.heap, slotsUsed := s₂.slotsUsed } : State).setVm s₂.vm) (Ls ++ L) (c0 + mc) (s0 + ms) :=
    ⟨X.admits, X.cas, X.clock, X.frames, X.room, X.hears, X.method, X.code, (X.here.setHeapUsed s₂.heap s₂.slotsUsed).setVm hW'.alike, X.tail, State.WarmedH.trans X.warmed hW', X.limits, X.bytes, X.same.trans (hsame.setVm s.vm)⟩
  refine ⟨o, s₂, _, L, hX', hL, rfl, rfl, hq', ?_⟩
  cases o with
  | returned v =>
    refine Or.inl ⟨v, rfl, ?_⟩
    obtain ⟨c₂, i₂, len₂, hc₂, hd₂, hf₂⟩ := hend
    have hcc : c₂ = c := by
      have h1 : s₂.code? g.method = U.code? g.method := by
        rw [State.code?_eq, State.code?_eq, hW'.alike.method?]
      exact Option.some.inj (hc₂.symm.trans (h1.trans h.code))
    subst hcc
    have hlen : len₂ = len := by rw [hdg] at hd₂; cases hd₂; rfl
    subst hlen
    have hs₂ : s₂ = (({ U with heap := s₂.heap, slotsUsed := s₂.slotsUsed } : State).setVm s₂.vm).setTop { g with pc := g.pc + len₂, stack := v.toList ++ g.stack } := by
      refine e3.trans ?_
      rw [hf₂, State.calling_eq h.top, State.setFrames_setFrames, State.setTop_of_frames _ hr', hr]
      rfl
    rw [← hs₂]
    exact hsteps
  | threw x =>
    refine Or.inr ⟨x, rfl, ?_⟩
    have hf₂ : s₂.frames = .throwing x :: .java g :: U.frames.tail := hend
    have hs₂ : s₂ = ((({ U with heap := s₂.heap, slotsUsed := s₂.slotsUsed } : State).setVm s₂.vm).setTop g).pushFrame (.throwing x) := by
      refine e3.trans ?_
      rw [hf₂, State.calling_eq h.top, State.setFrames_setFrames, State.pushFrame, State.frames_setTop _ hr', State.setTop_of_frames _ hr', State.setFrames_setFrames, hr]
      rfl
    rw [← hs₂]
    exact hsteps
end JI
section JN
variable {p : Program} {l : Launch} {e : Env} {R : Room} {s : State} {m : MethodId} {args : Array Value} {below : List Frame} {meth : Method} {c : Code} {T : State} {locs : List Loc} {cells slots : Nat}
/-- the word that calls has been done: the callee stands before its entry -/
def jInvk (p : Program) (l : Launch) (e : Env) (R : Room) (s : State) (m : MethodId) (args : Array Value) (below : List Frame) (meth : Method) (c : Code) (T : State) (locs : List Loc) (cells slots : Nat) (g : JFrame) (rest : List Value) (y : MethodName) (av : Array Value) : Prop :=
  ∃ (mk : MethodId) (vm₁ : Vm), s.WarmedH vm₁ ∧ (T.setVm vm₁).methodNamed? y = some mk ∧ Stand p l e R s m args below meth c (T.setVm vm₁) locs cells slots ∧
    ∀ target, Steps p.tables e below (doInvoke e ((T.setVm vm₁).setTop { g with stack := rest }) [] mk av).1 target → Steps p.tables e below (T.setTop g) target
theorem jInvkV (X : Stand p l e R s m args below meth c T locs cells slots) (hexec : p.tables.exec = Jvm.exec) {own C : String} {index : Nat} {y : MethodName}
    (hown : s.vm.findClass own = some m.cls) (hlink : (Jvm.Cond.methodLink own index y).before args s = true) (hinst : (Jvm.Cond.instanceMethod y).before args s = true) (hsel : (Jvm.Cond.selects C y y).before args s = true)
    (hy : y.cls ≠ "java/lang/invoke/MethodHandle" ∧ y.cls ≠ "java/lang/invoke/VarHandle") (hsig : ∀ mk methM, s.methodNamed? y = some mk → s.vm.method? mk = some methM → parseMethodDescriptor y.desc = some methM.sig)
    {b : Addr} {cellB : Cell} (hcell : T.heap[b]? = some cellB) (hobj : cellB.vm.isStatics = false) (hcls : s.vm.findClass C = some cellB.cls)
    {g : JFrame} (hg : g.method = m) {argsL rest : List Value} (hlen : ∀ sig, parseMethodDescriptor y.desc = some sig → argsL.length = sig.parameters.length)
    (hstack : g.stack = argsL.reverse ++ .ref b :: rest) (hdg : decode c.code g.pc = .ok (.invokevirtual index, 3)) : jInvk p l e R s m args below meth c T locs cells slots g rest y (Value.ref b :: argsL).toArray := by
  obtain ⟨mk, methM, hnamed, hmethM, hstM, habM⟩ := Cond.instanceMethod_spec hinst
  have hsigM := hsig mk methM hnamed hmethM
  obtain ⟨c2, r2, m2, q1, q2, q3, q4, kP, hkP, hkPi⟩ := Cond.selects_spec hsel
  cases hcls.symm.trans q1
  cases (State.methodFound?_of_named hnamed hy).symm.trans q2
  cases hnamed.symm.trans q3
  have hselP : selectMethod e.platform s.vm cellB.cls mk = .method mk := by rw [Launch.admits_selectMethod X.admits]; exact q4
  obtain ⟨vm₁, X₁, hstep₁⟩ := X.invokevirtual hexec hown hlink hnamed hmethM hstM hkP hkPi hy (a := b) (cell := cellB) hcell
    (fun z h => by rw [h] at hobj; cases hobj) hselP hmethM habM hkP hkPi (g := g) hg (argsL := argsL) (rest := rest) (hlen _ hsigM) hstack hdg
  exact ⟨mk, vm₁, X₁.warmed, X₁.named hnamed, X₁, fun target h => hstep₁ _ fun acts => by rw [doInvoke_state]; exact h⟩
theorem jInvkS (X : Stand p l e R s m args below meth c T locs cells slots) (hexec : p.tables.exec = Jvm.exec) {own : String} {index : Nat} {y : MethodName} {mk : MethodId} {methM : Method}
    (hown : s.vm.findClass own = some m.cls) (hlink : (Jvm.Cond.methodLink own index y).before args s = true) (hstat : (Jvm.Cond.static y).before args s = true) (hinit : (Jvm.Cond.initialized y.cls).before args s = true)
    (hy : y.cls ≠ "java/lang/invoke/MethodHandle" ∧ y.cls ≠ "java/lang/invoke/VarHandle") (hnamed : s.methodNamed? y = some mk) (hmethM : s.vm.method? mk = some methM) (hsigM : parseMethodDescriptor y.desc = some methM.sig)
    {g : JFrame} (hg : g.method = m) {argsL rest : List Value} (hlen : ∀ sig, parseMethodDescriptor y.desc = some sig → argsL.length = sig.parameters.length)
    (hstack : g.stack = argsL.reverse ++ rest) (hdg : decode c.code g.pc = .ok (.invokestatic index, 3)) : jInvk p l e R s m args below meth c T locs cells slots g rest y argsL.toArray := by
  have hstatic : methM.isStatic = true := Cond.static_spec hnamed hmethM hstat
  obtain ⟨kP, hkP, -⟩ := className_of_methodNamed hnamed
  have hinitP : kP.init = .initialized := Cond.initialized_spec (findClass_of_methodNamed hnamed) hkP hinit
  obtain ⟨vm₁, X₁, hstep₁⟩ := X.invokestatic hexec hown hlink hnamed hmethM hstatic hkP hinitP hy (g := g) hg (argsL := argsL) (rest := rest) (hlen _ hsigM) hstack hdg
  exact ⟨mk, vm₁, X₁.warmed, X₁.named hnamed, X₁, fun target h => hstep₁ _ fun acts => by rw [doInvoke_state]; exact h⟩
theorem jInvkI (X : Stand p l e R s m args below meth c T locs cells slots) (hexec : p.tables.exec = Jvm.exec) {own : String} {index : Nat} {y : MethodName} {bytes : ByteArray} {maxL : Nat}
    (hown : s.vm.findClass own = some m.cls) (hy1 : y.name = "<init>") (hlink : (Jvm.Cond.methodLink own index y).before args s = true) (hinst : (Jvm.Cond.instanceMethod y).before args s = true)
    (hcode : (Jvm.Cond.code y bytes maxL none).before args s = true) (hy : y.cls ≠ "java/lang/invoke/MethodHandle" ∧ y.cls ≠ "java/lang/invoke/VarHandle")
    {g : JFrame} (hg : g.method = m) {a : Addr} {argsL rest : List Value} (hlen : ∀ sig, parseMethodDescriptor y.desc = some sig → argsL.length = sig.parameters.length)
    (hstack : g.stack = argsL.reverse ++ .ref a :: rest) (hdg : decode c.code g.pc = .ok (.invokespecial index, 3)) : jInvk p l e R s m args below meth c T locs cells slots g rest y (Value.ref a :: argsL).toArray := by
  subst hg
  have hpl : e.platform.magicAccessors = ({} : Platform).magicAccessors := by rw [X.admits.platform]
  obtain ⟨mk, methM, cM, kP, vm₁, hnamed, hmethM, hcodeM, -, hlocalsM, -, hkP, -, hW₁, hstep₁⟩ := Steps.initColdArgs (e := e) X.here hexec X.warmed hpl hown hy1 hy hlink hinst hcode (f := g) rfl hlen hstack hdg
  have X₁ := X.noted hW₁
  exact ⟨mk, vm₁, X₁.warmed, X₁.named hnamed, X₁, fun target h => hstep₁ _ fun acts => by rw [doInvoke_state]; exact h⟩
end JN
end
section
section JR
variable {l : Launch} {D : va_G} {cl : List vw_C} {tys : List (ClassId × FieldType)} {α : Nat → Nat} {dA : FieldType → ClassId} {K sz : Nat} {SP : State → Prop}
variable {p : Program} {e : Env} {R : Room} {s : State} {m : MethodId} {args : Array Value} {below : List Frame} {meth : Method} {c : Code} {H : Heap} {locs : List Loc} {cells slots : Nat} {Q : State → Prop}
/-- the picture of a whole heap at a state -/
def jB (D : va_G) (cl : List vw_C) (tys : List (ClassId × FieldType)) (α : Nat → Nat) (dA : FieldType → ClassId) (K sz : Nat) (SP : State → Prop) (h : jH) (U : State) : Prop :=
  K ≤ h.length ∧ U.heap.size = sz + (h.length - K) ∧ va_P D cl (jx_ws α dA K h) U.heap ∧ va_K D cl tys U ∧ SP U
def jPc (D : va_G) (cl : List vw_C) (tys : List (ClassId × FieldType)) (α : Nat → Nat) (dA : FieldType → ClassId) (K sz : Nat) (SP : State → Prop) (as : List Value) (h : jH) : Array Value → State → Prop :=
  fun a U => a = (as.map (jx_V α)).toArray ∧ jB D cl tys α dA K sz SP h U
def jQo (D : va_G) (cl : List vw_C) (tys : List (ClassId × FieldType)) (α : Nat → Nat) (dA : FieldType → ClassId) (K sz : Nat) (SP : State → Prop) (o : Outcome) (h : jH) : Array Value → State → Outcome → State → Prop :=
  fun _ st o' t => o' = o ∧ jB D cl tys α dA K sz SP h t ∧ va_F (fun q => sz ≤ q) st t
def jout (α : Nat → Nat) : (Option Value ⊕ Nat) → Outcome
  | .inl v => .returned (v.map (jx_V α))
  | .inr a => .threw (α a)
/-- the machine is throwing a out of the frame g -/
def WT (p : Program) (l : Launch) (e : Env) (R : Room) (s : State) (m : MethodId) (args : Array Value) (below : List Frame) (meth : Method) (c : Code) (H : Heap) (locs : List Loc) (cells slots : Nat) (Q : State → Prop) (g : JFrame) (a : Addr) : Prop :=
  ∀ T : State, T.heap = H → Stand p l e R s m args below meth c T locs cells slots → ∃ t, Steps p.tables e below ((T.setTop g).pushFrame (.throwing a)) t ∧ Q t
theorem jcallW {y : MethodName} {ws : List Jvm.Cond} {rm : Room} {Pc : Array Value → State → Prop} {mc ms : Nat} {bytes : ByteArray} {maxL : Nat} {ret : Option FieldType} {hh : List (Nat × Nat × Nat × Nat)} {o : Option Value ⊕ Nat} {h' : jH} {g : JFrame} {rest : List Value} {av : Array Value} {ig : Instr}
    (hM : jMet l y ws rm Pc (jQo D cl tys α dA K sz SP (jout α o) h') mc ms (fun q => sz ≤ q)) (hblind : FrameBlind Pc) (hrc : rm.cells = mc) (hrs : rm.slots = ms) (hframes : rm.frames + 1 ≤ R.frames) (hlocals : 8 + (maxL + 11) + rm.locals ≤ R.locals)
    (hws : ∀ w ∈ ws, ∀ (a' : Array Value) (U : State), s.WarmedH U.vm → w.before a' U = true) (hcode : jCode y bytes maxL ret hh ∈ ws) (hini : ∀ (a' : Array Value) (U : State), s.WarmedH U.vm → (Jvm.Cond.initialized y.cls).before a' U = true)
    (hg : g.method = m) (hsize : g.locals.size = c.maxLocals) (hdg : decode c.code g.pc = .ok (ig, 3)) (hW : 2 * g.monitorRoom + (rest.map fun v => v.category).sum ≤ 8) (hc : cells + mc ≤ R.cells) (hs : slots + ms ≤ R.slots)
    (hPc : ∀ U : State, U.heap = H → s.WarmedH U.vm → Pc av U) (hS : va_S (fun q => sz ≤ q) s.heap H locs)
    (hinv : ∀ T : State, T.heap = H → Stand p l e R s m args below meth c T locs cells slots → jInvk p l e R s m args below meth c T locs cells slots g rest y av)
    (kr : ∀ v, o = .inl v → ∀ (H1 : Heap) (locs1 : List Loc), jRel D cl α dA K sz h' s H1 locs1 → W p l e R s m args below meth c H1 locs1 (cells + mc) (slots + ms) Q { g with pc := g.pc + 3, stack := (v.map (jx_V α)).toList ++ rest })
    (kt : ∀ a, o = .inr a → ∀ (H1 : Heap) (locs1 : List Loc), jRel D cl α dA K sz h' s H1 locs1 → WT p l e R s m args below meth c H1 locs1 (cells + mc) (slots + ms) Q { g with stack := rest } (α a)) :
    W p l e R s m args below meth c H locs cells slots Q g := by
  intro T hT X
  obtain ⟨mk, vm₁, hW₁, hn, X₁, hgo⟩ := hinv T hT X
  obtain ⟨o1, t, T', L, X', hL, e1, e2, ⟨ho, ⟨hK, hz, hP, -, -⟩, hF1, hF2⟩, hend⟩ := jinv (Wt := 8) hM hblind hrc hrs hframes hlocals hws hcode hini X₁ (g := { g with stack := rest }) hg hsize hdg hW hn hc hs (hPc _ hT hW₁)
  have hF1' : H.size ≤ t.heap.size := by
    have : (T.setVm vm₁).heap.size ≤ t.heap.size := hF1
    rw [← hT]
    exact this
  have hF2' : ∀ q : Nat, q < H.size → ¬ sz ≤ q → t.heap[q]? = H[q]? := fun q h1 h2 => by
    have := hF2 q (by show q < T.heap.size; rw [hT]; exact h1) h2
    rw [← hT]
    exact this
  have hR : jRel D cl α dA K sz h' s T'.heap (locs ++ L) :=
    ⟨hK, by rw [e1]; exact hP, ⟨Nat.le_trans hS.1 (by rw [e1]; exact hF1'), fun q h1 h2 => by rw [e1, hF2' q (Nat.lt_of_lt_of_le h1 hS.1) h2]; exact hS.2.1 q h1 h2, fun q hq => by
      rcases List.mem_append.mp hq with h | h
      · exact hS.2.2 q h
      · exact hL q h⟩⟩
  rcases hend with ⟨v, hv, hsteps⟩ | ⟨x, hx, hsteps⟩
  · rw [hv] at ho
    cases o with
    | inl v0 =>
      have hv0 : v = v0.map (jx_V α) := Outcome.returned.inj ho
      subst hv0
      obtain ⟨t2, a1, b1⟩ := kr v0 rfl T'.heap (locs ++ L) hR T' rfl X'
      exact ⟨t2, hgo t2 (hsteps.trans a1), b1⟩
    | inr a0 => cases ho
  · rw [hx] at ho
    cases o with
    | inl v0 => cases ho
    | inr a0 =>
      have hx0 : x = α a0 := Outcome.threw.inj ho
      subst hx0
      obtain ⟨t2, a1, b1⟩ := kt a0 rfl T'.heap (locs ++ L) hR T' rfl X'
      exact ⟨t2, hgo t2 (hsteps.trans a1), b1⟩
theorem WT.leave {Qc : Array Value → State → Outcome → State → Prop} {free : Addr → Prop} {pc : Nat} {ls : Array Slot} {st : List Value} {a : Addr} (hlocks : meth.locks = false) (hout : ∀ x ∈ c.exceptionTable.toList, covers x pc = false)
    (hq : ∀ t : State, t.heap = H → s.WarmedH t.vm → Qc args s (.threw a) t) (hf : ∀ q ∈ locs, free q.base) : WT p l e R s m args below meth c H locs cells slots (jMQ below Qc args s cells slots free) (F0 m pc ls st) a := by
  intro T hT X
  obtain ⟨h1, h2, h3, h4, h5⟩ := X.leaveThrown a (g := F0 m pc ls st) rfl rfl rfl hout hlocks
  exact ⟨_, h1, .threw a, h2, h3, hq _ hT h4, locs, ⟨h4, h5⟩, hf⟩
end JR
end
section
/-! ends, and contracts out of walks -/
section JF
variable {p : Program} {l : Launch} {e : Env} {R : Room} {s : State} {m : MethodId} {args : Array Value} {below : List Frame} {meth : Method} {c : Code} {H : Heap} {locs : List Loc} {cells slots : Nat} {Q : State → Prop}
variable {D : va_G} {cl : List vw_C} {tys : List (ClassId × FieldType)} {α : Nat → Nat} {dA : FieldType → ClassId} {K sz : Nat} {SP : State → Prop} {TB : List Jvm.Cond} {hd0 : jH} {T : jT}
theorem jMet.ofC {y : MethodName} {ws ws' : List Jvm.Cond} {rm : Room} {Pc : Array Value → State → Prop} {Qc : Array Value → State → Outcome → State → Prop} {mc ms : Nat} {free : Addr → Prop} {cc : ByteArray} {maxL : Nat} {ret : Option FieldType} {hh : List (Nat × Nat × Nat × Nat)}
    (hy : plainName y.cls = true) (hw : ws = jCode y cc maxL ret hh :: ws')
    (body : ∀ p e s m args below meth c s₁, BodyLoose p l y (headSpec ws rm) cc maxL ret e s m args below meth c s₁ → c.maxLocals = maxL → c.exceptionTable.toList.map (fun h => (h.startPc, h.endPc, h.handlerPc, h.catchType)) = hh → Pc args s →
      W p l e (headSpec ws rm).room s m args below meth c s.heap [] 0 0 (jMQ below Qc args s mc ms free) (entryFrame m args maxL)) : jMet l y ws rm Pc Qc mc ms free := by
  refine MetFree.of_bodyS (code := cc) (maxLocals := maxL) (ret := ret) hy ?_ ?_
  · intro args s m h hn
    obtain ⟨meth, c, h1, h2, h3, h4, h5, h6, -, -⟩ := jCode_spec hn (atoms_spec (ws := ws) h _ (by rw [hw]; exact List.mem_cons_self))
    exact ⟨meth, c, h1, h2, h3, h4, h5, h6⟩
  · intro p e s m args below meth c s₁ B hml hP _
    have hh0 : s₁.heap = s.heap := by rw [B.state]; rfl
    obtain ⟨meth9, c9, h1, h2, -, -, -, -, h7, -⟩ := jCode_spec B.named (atoms_spec (ws := ws) B.pre _ (by rw [hw]; exact List.mem_cons_self))
    cases B.method.symm.trans h1
    cases (Stand.of_body B).code.symm.trans h2
    obtain ⟨t, a1, o, b1, b2, b3⟩ := body p e s m args below meth c s₁ B hml h7 hP s₁ hh0 (Stand.of_body B)
    exact ⟨t, o, a1, b1, b2, ⟨b3.1, b3.2⟩⟩
theorem jInvkIN {U : State} (X : Stand p l e R s m args below meth c U locs cells slots) (hexec : p.tables.exec = Jvm.exec) {own host : String} {index : Nat} {y : MethodName} {bytes : ByteArray} {maxL : Nat}
    (hown : s.vm.findClass own = some m.cls) (hy1 : y.name = "<init>") (hlink : (Jvm.Cond.methodLinkNest own index y host).before args s = true) (hinst : (Jvm.Cond.instanceMethod y).before args s = true)
    (hcode : (Jvm.Cond.code y bytes maxL none).before args s = true) (hy : y.cls ≠ "java/lang/invoke/MethodHandle" ∧ y.cls ≠ "java/lang/invoke/VarHandle")
    {g : JFrame} (hg : g.method = m) {a : Addr} {argsL rest : List Value} (hlen : ∀ sig, parseMethodDescriptor y.desc = some sig → argsL.length = sig.parameters.length)
    (hstack : g.stack = argsL.reverse ++ .ref a :: rest) (hdg : decode c.code g.pc = .ok (.invokespecial index, 3)) : jInvk p l e R s m args below meth c U locs cells slots g rest y (Value.ref a :: argsL).toArray := by
  subst hg
  have hpl : e.platform.magicAccessors = ({} : Platform).magicAccessors := by rw [X.admits.platform]
  obtain ⟨mk, methM, cM, kP, vm₁, hnamed, hmethM, hcodeM, -, hlocalsM, -, hkP, -, hW₁, hstep₁⟩ := Steps.initColdArgsNest (e := e) X.here hexec X.warmed hpl hown hy1 hy hlink hinst hcode (f := g) rfl hlen hstack hdg
  have X₁ := X.noted hW₁
  exact ⟨mk, vm₁, X₁.warmed, X₁.named hnamed, X₁, fun target h => hstep₁ _ fun acts => by rw [doInvoke_state]; exact h⟩
/-- what a walk owes at its end -/
def jFin (D : va_G) (cl : List vw_C) (α : Nat → Nat) (dA : FieldType → ClassId) (K sz : Nat) (p : Program) (l : Launch) (e : Env) (R : Room) (s : State) (m : MethodId) (args : Array Value) (below : List Frame) (meth : Method) (c : Code) (bytes : ByteArray) (ret : Option FieldType) (n0 t0 : Nat) (Q : State → Prop) (v : Option Value) (h' : jH) : Prop :=
  ∀ (i : Instr) (len pc : Nat) (st : List Value) (ls : Array Slot) (H : Heap) (locs : List Loc), jend ret i len st = some v → decode bytes pc = .ok (i, len) → jRel D cl α dA K sz h' s H locs →
    W p l e R s m args below meth c H locs (h'.length - n0) (jtot h' - t0) Q (F0 m pc ls (st.map (jx_V α)))
def jFinT (D : va_G) (cl : List vw_C) (α : Nat → Nat) (dA : FieldType → ClassId) (K sz : Nat) (p : Program) (l : Launch) (e : Env) (R : Room) (s : State) (m : MethodId) (args : Array Value) (below : List Frame) (meth : Method) (c : Code) (n0 t0 : Nat) (Q : State → Prop) (a : Nat) (h' : jH) : Prop :=
  ∀ (pc : Nat) (st : List Value) (ls : Array Slot) (H : Heap) (locs : List Loc), c.exceptionTable.toList = [] → jRel D cl α dA K sz h' s H locs →
    WT p l e R s m args below meth c H locs (h'.length - n0) (jtot h' - t0) Q (F0 m pc ls st) (α a)
/-- at a method's end the picture holds -/
theorem jB_end (hα : ∀ j, α (K + j) = sz + j) (hSPm : ∀ (u U : State), u.WarmedH U.vm → (∀ q : Nat, q < sz → U.heap[q]? = u.heap[q]?) → SP u → SP U) (hsz : sz ≤ s.heap.size) (hK : va_K D cl tys s) (hSP : SP s) {h' : jH} (hR : jRel D cl α dA K sz h' s H locs) (hub : H.size ≤ sz + (h'.length - K)) {t : State} (ht : t.heap = H) (hW : s.WarmedH t.vm) :
    jB D cl tys α dA K sz SP h' t ∧ va_F (fun q => sz ≤ q) s t := by
  refine ⟨⟨hR.1, by rw [ht]; exact hR.size hα hsz hub, by rw [ht]; exact hR.2.1, va_K.moved hW.alike hK, hSPm s t hW (fun q hq => ?_) hSP⟩, hR.2.2.F ht⟩
  rw [ht]
  exact hR.2.2.2.1 q (by omega) (by omega)
theorem jfin_of (hα : ∀ j, α (K + j) = sz + j) (hSPm : ∀ (u U : State), u.WarmedH U.vm → (∀ q : Nat, q < sz → U.heap[q]? = u.heap[q]?) → SP u → SP U) (hx : p.tables.exec = Jvm.exec) {bytes : ByteArray} (hb : c.code = bytes) {ret : Option FieldType} (hr : meth.sig.returnType = ret) (hlocks : meth.locks = false) (hK : va_K D cl tys s) (hSP : SP s)
    {n0 t0 : Nat} (hKn : K ≤ n0) (hsz : s.heap.size = sz + (n0 - K)) {v : Option Value} {h' : jH} (hn : n0 ≤ h'.length) :
    jFin D cl α dA K sz p l e R s m args below meth c bytes ret n0 t0 (jMQ below (jQo D cl tys α dA K sz SP (jout α (.inl v)) h') args s (h'.length - n0) (jtot h' - t0) (fun q => sz ≤ q)) v h' := by
  intro i len pc st ls H locs he hd hR
  refine W.jsized (fun hub => W.jmono (fun t => jMQ_of) ?_)
  have hq : ∀ (w : Option Value), w = v.map (jx_V α) → ∀ t : State, t.heap = H → s.WarmedH t.vm → jQo D cl tys α dA K sz SP (jout α (.inl v)) h' args s (.returned w) t := fun w hw t ht hW => by
    obtain ⟨h1, h2⟩ := jB_end hα hSPm (by omega) hK hSP hR (by omega) ht hW
    exact ⟨by rw [hw]; rfl, h1, h2⟩
  unfold jend at he
  split at he
  · split at he
    · split at he
      · rename_i hl; subst hl; cases he
        exact W.iret hx hb hr (hq _ rfl) hR.2.2.2.2 hd hlocks
      · cases he
    · split at he
      · rename_i hl; obtain ⟨rfl, hv⟩ := hl; cases he
        exact W.zret hx hb hr (by rcases hv with rfl | rfl <;> rfl) (hq _ rfl) hR.2.2.2.2 hd hlocks
      · cases he
    · cases he
  · split at he
    · split at he
      · rename_i hl; subst hl; cases he
        exact W.lret hx hb hr (hq _ rfl) hR.2.2.2.2 hd hlocks
      · cases he
    · cases he
  · split at he
    · split at he
      · rename_i hl; subst hl; cases he
        exact W.aret hx hb hr (Or.inl ⟨_, rfl⟩) (Or.inr ⟨_, rfl⟩) (hq _ rfl) hR.2.2.2.2 hd hlocks
      · cases he
    · split at he
      · rename_i hl; subst hl; cases he
        exact W.aret hx hb hr (Or.inl ⟨_, rfl⟩) (Or.inl rfl) (hq _ rfl) hR.2.2.2.2 hd hlocks
      · cases he
    · split at he
      · rename_i hl; subst hl; cases he
        exact W.aret hx hb hr (Or.inr ⟨_, rfl⟩) (Or.inr ⟨_, rfl⟩) (hq _ rfl) hR.2.2.2.2 hd hlocks
      · cases he
    · split at he
      · rename_i hl; subst hl; cases he
        exact W.aret hx hb hr (Or.inr ⟨_, rfl⟩) (Or.inl rfl) (hq _ rfl) hR.2.2.2.2 hd hlocks
      · cases he
    · cases he
  · split at he
    · split at he
      · rename_i hl; subst hl; cases he
        exact W.vret hx hb hr (hq _ rfl) hR.2.2.2.2 hd hlocks
      · cases he
    · cases he
  · cases he
theorem W.jsizedT {g : JFrame} {a : Addr} (k : H.size ≤ s.heap.size + cells → WT p l e R s m args below meth c H locs cells slots Q g a) : WT p l e R s m args below meth c H locs cells slots Q g a :=
  fun T hT X => k (by rw [← hT]; exact X.heapSize) T hT X
theorem jfinT_of (hα : ∀ j, α (K + j) = sz + j) (hSPm : ∀ (u U : State), u.WarmedH U.vm → (∀ q : Nat, q < sz → U.heap[q]? = u.heap[q]?) → SP u → SP U) (hlocks : meth.locks = false) (hK : va_K D cl tys s) (hSP : SP s)
    {n0 t0 : Nat} (hKn : K ≤ n0) (hsz : s.heap.size = sz + (n0 - K)) {a : Nat} {h' : jH} (hn : n0 ≤ h'.length) :
    jFinT D cl α dA K sz p l e R s m args below meth c n0 t0 (jMQ below (jQo D cl tys α dA K sz SP (jout α (.inr a)) h') args s (h'.length - n0) (jtot h' - t0) (fun q => sz ≤ q)) a h' := by
  intro pc st ls H locs hex hR
  refine W.jsizedT (fun hub => ?_)
  refine WT.leave hlocks (fun x hx => by rw [hex] at hx; cases hx) (fun t ht hW => ?_) hR.2.2.2.2
  obtain ⟨h1, h2⟩ := jB_end hα hSPm (by omega) hK hSP hR (by omega) ht hW
  exact ⟨rfl, h1, h2⟩
end JF
end
section
/-! the main row -/
section JMain
variable {l : Launch} {D : va_G} {cl : List vw_C} {tys : List (ClassId × FieldType)} {α : Nat → Nat} {dA : FieldType → ClassId} {K sz : Nat} {SP : State → Prop} {TB : List Jvm.Cond} {hd0 : jH} {T : jT}
def jKn (cl : List vw_C) (α : Nat → Nat) (sz : Nat) (SP : State → Prop) (TB : List Jvm.Cond) (T : jT) (M : jM) : Prop := jMok TB cl α sz SP T M.1.cls M.2.2.2.2.1 M.2.1 M.2.2.1 M.2.2.2.2.2.2.1
def jEnvM (D : va_G) (cl : List vw_C) (tys : List (ClassId × FieldType)) (α : Nat → Nat) (K sz : Nat) (SP : State → Prop) (TB : List Jvm.Cond) (T : jT) (p : Program) (s : State) (m : MethodId) (args : Array Value) (meth : Method) (c : Code) (M : jM) (n0 : Nat) : Prop :=
  jEnv D cl tys α K sz SP TB T p s m args meth c M.1.cls M.2.2.2.2.1 M.2.1 M.2.2.1 M.2.2.2.2.2.1 M.2.2.2.2.2.2.1 n0 ∧ c.exceptionTable.toList.map (fun h => (h.startPc, h.endPc, h.handlerPc, h.catchType)) = M.2.2.2.2.2.2.2.map (fun q => q.1)
def jThrowOK (l : Launch) (D : va_G) (cl : List vw_C) (tys : List (ClassId × FieldType)) (α : Nat → Nat) (dA : FieldType → ClassId) (K sz : Nat) (SP : State → Prop) (TB : List Jvm.Cond) (T : jT) : Prop :=
  ∀ (p : Program) (e : Env) (R : Room) (s : State) (m : MethodId) (args : Array Value) (below : List Frame) (meth : Method) (c : Code) (Q : State → Prop) (M : jM) (n0 : Nat) (i : Instr) (len pc ci : Nat) (st : List Value) (ls : Array Slot) (H : Heap) (locs : List Loc) (cells slots : Nat) (h : jH),
    jEnvM D cl tys α K sz SP TB T p s m args meth c M n0 → ls.size = M.2.2.1 → M.2.2.2.2.2.2.1 pc = some (i, len) → jthr T K M i len pc st = some ci → jRel D cl α dA K sz h s H locs → H.size = α h.length → 8 ≤ R.frames → 512 ≤ R.locals → cells + 1 ≤ R.cells → slots + 6 ≤ R.slots →
    (∀ (H1 : Heap) (locs1 : List Loc) (st1 : List Value), jRel D cl α dA K sz (h ++ [.inr (ci, [.null, .null, .null, .null, .null, .null])]) s H1 locs1 → WT p l e R s m args below meth c H1 locs1 (cells + 1) (slots + 6) Q (F0 m (pc + 9) ls st1) (α h.length)) →
    W p l e R s m args below meth c H locs cells slots Q (F0 m pc ls (st.map (jx_V α)))
def jCatchOK (l : Launch) (D : va_G) (cl : List vw_C) (tys : List (ClassId × FieldType)) (α : Nat → Nat) (dA : FieldType → ClassId) (K sz : Nat) (SP : State → Prop) (TB : List Jvm.Cond) (T : jT) : Prop :=
  ∀ (p : Program) (e : Env) (R : Room) (s : State) (m : MethodId) (args : Array Value) (below : List Frame) (meth : Method) (c : Code) (Q : State → Prop) (M : jM) (n0 pc a q : Nat) (st : List Value) (ls : Array Slot) (H : Heap) (locs : List Loc) (cells slots : Nat) (h : jH),
    (∃ z, T.2.2.1 z = some M) → jEnvM D cl tys α K sz SP TB T p s m args meth c M n0 → jhand M.2.2.2.2.2.2.2 pc h a = some q → jRel D cl α dA K sz h s H locs → 
    W p l e R s m args below meth c H locs cells slots Q (F0 m q ls [.ref (α a)]) → WT p l e R s m args below meth c H locs cells slots Q (F0 m pc ls st) (α a)
theorem lv_args_map (as : List Value) : ∀ i : Nat, (lv_args i as).map (jx_L α) = lv_args i (as.map (jx_V α)) := by
  induction as with
  | nil => intro i; rfl
  | cons v as ih =>
    intro i
    simp only [lv_args, List.map_cons, jx_V_cat, ih]
    rfl
theorem lg_sl_map (as : List Value) : (lg_sl (as.map (jx_V α))).length = (lg_sl as).length := by
  induction as with
  | nil => rfl
  | cons v as ih =>
    have e : ∀ (w : Value) (ws : List Value), (lg_sl (w :: ws)).length = (if w.category = 2 then 2 else 1) + (lg_sl ws).length := fun w ws => by
      simp only [lg_sl, List.flatMap_cons, List.length_append]
      split <;> simp
    rw [List.map_cons, e, e, jx_V_cat, ih]
theorem jsum_map (r : List Value) : ((r.map (jx_V α)).map fun v => v.category).sum = (r.map fun v => v.category).sum := by
  rw [List.map_map]
  congr 1
  apply List.map_congr_left
  intro v _
  exact jx_V_cat α v
def jRm (d mc ms : Nat) : Room := { frames := d, cells := mc, slots := ms, locals := 64 * d }
/-- the words of a method -/
def jWs (TB : List Jvm.Cond) (M : jM) : List Jvm.Cond := jCode M.1 M.2.1 M.2.2.1 M.2.2.2.1 (M.2.2.2.2.2.2.2.map (fun q => q.1)) :: TB
/-- what the main row says of a run -/
def jRow (l : Launch) (D : va_G) (cl : List vw_C) (tys : List (ClassId × FieldType)) (α : Nat → Nat) (dA : FieldType → ClassId) (K sz : Nat) (SP : State → Prop) (TB : List Jvm.Cond) (hd0 : jH) (T : jT) (d : Nat) (M : jM) (pc : Nat) (lv : List (Nat × Value)) (st : List Value) (h : jH) (o : Option Value ⊕ Nat) (h' : jH) : Prop :=
  h'.take K = hd0 ∧ h.length ≤ h'.length ∧ jtot h ≤ jtot h' ∧
  ∀ (p : Program) (e : Env) (R : Room) (s : State) (m : MethodId) (args : Array Value) (below : List Frame) (meth : Method) (c : Code) (Q : State → Prop) (n0 t0 : Nat),
    jEnvM D cl tys α K sz SP TB T p s m args meth c M n0 → n0 ≤ h.length → t0 ≤ jtot h → d ≤ R.frames → 64 * d ≤ R.locals → h'.length - n0 ≤ R.cells → jtot h' - t0 ≤ R.slots →
    (∀ v, o = .inl v → jFin D cl α dA K sz p l e R s m args below meth c M.2.1 M.2.2.2.1 n0 t0 Q v h') → (∀ a, o = .inr a → jFinT D cl α dA K sz p l e R s m args below meth c n0 t0 Q a h') →
    ∀ (ls : Array Slot) (H : Heap) (locs : List Loc), lv_has ls M.2.2.1 (lv.map (jx_L α)) → jRel D cl α dA K sz h s H locs → W p l e R s m args below meth c H locs (h.length - n0) (jtot h - t0) Q (F0 m pc ls (st.map (jx_V α)))
theorem jB_blind (hSPm : ∀ (u U : State), u.WarmedH U.vm → (∀ q : Nat, q < sz → U.heap[q]? = u.heap[q]?) → SP u → SP U) (as : List Value) (h : jH) : FrameBlind (jPc D cl tys α dA K sz SP as h) := by
  intro a U g mk q
  obtain ⟨q0, q1, q2, q3, q4, q5⟩ := q
  exact ⟨q0, q1, q2, q3, va_K.moved (u := U) (U := U.calling g mk a) (Vm.Alike.refl U.vm) q4, hSPm U (U.calling g mk a) (State.WarmedH.refl U) (fun _ _ => rfl) q5⟩
/-- a callee's contract out of the row of its run -/
theorem jmet (O : jOK D cl tys α dA K sz SP TB hd0 T) {z : Nat} {Z : jM} (hz : T.2.2.1 z = some Z) {d : Nat} {as : List Value} {h h' : jH} {o : Option Value ⊕ Nat} (hrow : jRow l D cl tys α dA K sz SP TB hd0 T d Z 0 (lv_args 0 as) [] h o h') (hKl : K ≤ h.length) (hsl : ¬ Z.2.2.1 < (lg_sl as).length) :
    jMet l Z.1 (jWs TB Z) (jRm d (h'.length - h.length) (jtot h' - jtot h)) (jPc D cl tys α dA K sz SP as h) (jQo D cl tys α dA K sz SP (jout α o) h') (h'.length - h.length) (jtot h' - jtot h) (fun q => sz ≤ q) := by
  obtain ⟨hα, ⟨hd0l, hinj⟩, hgood, harr, hSPm, hscr, hmt⟩ := O
  obtain ⟨hpl, hyn, hin, hcd, hini, hmk⟩ := hmt z Z hz
  obtain ⟨-, hlen, htot, hW⟩ := hrow
  refine jMet.ofC hpl rfl ?_
  intro p e s m args below meth c s₁ B hml hex hP
  obtain ⟨rfl, q1, q2, q3, q4, q5⟩ := hP
  have hts := atoms_spec (ws := jWs TB Z) B.pre
  have hv : jEnvM D cl tys α K sz SP TB T p s m ((as.map (jx_V α)).toArray) meth c Z h.length :=
    ⟨⟨B.exec, B.bytes, hml, findClass_of_methodNamed B.named, fun w hw => hts w (List.mem_cons_of_mem _ hw), fun hi => (name_of_methodNamed B.named B.method).1.trans (hin hi), q4, q5, hKl, q2, hmk⟩, hex⟩
  rw [lg_entry_eq]
  have hl := lv_entry (as.map (jx_V α)) (n := Z.2.2.1) (by rw [lg_sl_map]; exact Nat.le_of_not_lt hsl)
  rw [← lv_args_map] at hl
  have k := hW p e (headSpec (jWs TB Z) (jRm d (h'.length - h.length) (jtot h' - jtot h))).room s m _ below meth c (jMQ below (jQo D cl tys α dA K sz SP (jout α o) h') (as.map (jx_V α)).toArray s (h'.length - h.length) (jtot h' - jtot h) (fun q => sz ≤ q)) h.length (jtot h) hv
    (Nat.le_refl _) (Nat.le_refl _) (Nat.le_refl _) (Nat.le_refl _) (Nat.le_refl _) (Nat.le_refl _)
    (fun v hv9 => by subst hv9; exact jfin_of hα hSPm B.exec B.bytes B.returns B.notSynchronized q4 q5 hKl q2 hlen)
    (fun a ha9 => by subst ha9; exact jfinT_of hα hSPm B.notSynchronized q4 q5 hKl q2 hlen)
    _ s.heap [] hl ⟨hKl, q3, va_S.rf⟩
  rw [Nat.sub_self, Nat.sub_self] at k
  exact k
end JMain
end
section
section JSound
variable {l : Launch} {D : va_G} {cl : List vw_C} {tys : List (ClassId × FieldType)} {α : Nat → Nat} {dA : FieldType → ClassId} {K sz : Nat} {SP : State → Prop} {TB : List Jvm.Cond} {hd0 : jH} {T : jT}
theorem jtake (st : List Value) (n : Nat) : st = ((st.take n).reverse).reverse ++ st.drop n := by
  rw [List.reverse_reverse, List.take_append_drop]
theorem jcall_inv {gM : jL} {cn : Nat} {i : Instr} {len : Nat} {st : List Value} {h : jH} {kd z : Nat} {as r : List Value} (hq : jcall gM K cn i len st h = some (kd, z, as, r)) : len = 3 ∧ st = as.reverse ++ r ∧
    ((kd = 0 ∧ ∃ idx n ci b as' fs, i = .invokevirtual idx ∧ gM cn idx = some (0, z, n, ci) ∧ as = .ref b :: as' ∧ as.length = n ∧ h[b]? = some (.inr (ci, fs)) ∧ K ≤ b) ∨
     (kd = 1 ∧ ∃ idx n ci b as', i = .invokespecial idx ∧ gM cn idx = some (1, z, n, ci) ∧ as = .ref b :: as' ∧ as.length = n) ∨
     (kd = 2 ∧ ∃ idx n ci, i = .invokestatic idx ∧ gM cn idx = some (2, z, n, ci) ∧ as.length = n) ∨
     (kd = 3 ∧ ∃ idx n ci b, i = .invokespecial idx ∧ gM cn idx = some (3, n, ci) ∧ as = [.ref b]) ∨
     (kd = 4 ∧ ∃ idx n ci b as', i = .invokespecial idx ∧ gM cn idx = some (4, z, n, ci) ∧ as = .ref b :: as' ∧ as.length = n) ∨
     (kd = 5 ∧ ∃ idx q, i = .invokestatic idx ∧ gM cn idx = some (5, q))) := by
  unfold jcall at hq
  split at hq
  · split at hq
    · rename_i z0 n ci hg
      split at hq
      · rename_i hl
        split at hq
        · rename_i b as' hb
          split at hq
          · rename_i cj fs hcell
            split at hq
            · rename_i hc
              obtain ⟨rfl, hKb⟩ := hc
              cases hq
              refine ⟨hl.1, jtake _ _, Or.inl ⟨rfl, _, n, cj, b, as', fs, rfl, hg, hb, ?_, hcell, hKb⟩⟩
              rw [List.length_reverse, List.length_take]; omega
            · cases hq
          · cases hq
        · cases hq
      · cases hq
    · cases hq
  · split at hq
    · rename_i z0 n ci hg
      split at hq
      · rename_i hl
        split at hq
        · rename_i b as' hb
          cases hq
          refine ⟨hl.1, jtake _ _, Or.inr (Or.inl ⟨rfl, _, n, ci, b, as', rfl, hg, hb, ?_⟩)⟩
          rw [List.length_reverse, List.length_take]; omega
        · cases hq
      · cases hq
    · rename_i z0 n ci hg
      split at hq
      · rename_i hl
        split at hq
        · rename_i b as' hb
          cases hq
          refine ⟨hl.1, jtake _ _, Or.inr (Or.inr (Or.inr (Or.inr (Or.inl ⟨rfl, _, n, ci, b, as', rfl, hg, hb, ?_⟩))))⟩
          rw [List.length_reverse, List.length_take]; omega
        · cases hq
      · cases hq
    · rename_i z0 n ci hg
      split at hq
      · split at hq
        · rename_i hl
          cases hq
          exact ⟨hl, rfl, Or.inr (Or.inr (Or.inr (Or.inl ⟨rfl, _, _, _, _, rfl, hg, rfl⟩)))⟩
        · cases hq
      · cases hq
    · cases hq
  · split at hq
    · rename_i z0 n ci hg
      split at hq
      · rename_i hl
        cases hq
        refine ⟨hl.1, jtake _ _, Or.inr (Or.inr (Or.inl ⟨rfl, _, n, ci, rfl, hg, ?_⟩))⟩
        rw [List.length_reverse, List.length_take]; omega
      · cases hq
    · rename_i z0 n ci hg
      split at hq
      · rename_i hl
        cases hq
        exact ⟨hl.1, jtake _ _, Or.inr (Or.inr (Or.inr (Or.inr (Or.inr ⟨rfl, _, _, rfl, hg⟩))))⟩
      · cases hq
    · cases hq
  · cases hq
end JSound
end
section
section JInd
variable {l : Launch} {D : va_G} {cl : List vw_C} {tys : List (ClassId × FieldType)} {α : Nat → Nat} {dA : FieldType → ClassId} {K sz : Nat} {SP : State → Prop} {TB : List Jvm.Cond} {hd0 : jH} {T : jT}
theorem jcopy_inv {as : List Value} {h h' : jH} (hq : jcopy K as h = some h') : ∃ a0 sp a dp n n0 n1 f g, as = [.ref a0, .int sp, .ref a, .int dp, .int n] ∧ h[a0]? = some (.inl (.int, n0, .inl f)) ∧ h[a]? = some (.inl (.int, n1, .inl g)) ∧ ¬ sp < 0 ∧ ¬ dp < 0 ∧ ¬ n < 0 ∧ sp.toNatClampNeg + n.toNatClampNeg ≤ n0 ∧ dp.toNatClampNeg + n.toNatClampNeg ≤ n1 ∧ K ≤ a0 ∧ K ≤ a ∧
    h' = h.set a (.inl (.int, n1, .inl (va_cpy f g sp.toNatClampNeg dp.toNatClampNeg n.toNatClampNeg))) := by
  unfold jcopy at hq
  split at hq
  · rename_i a0 sp a dp n
    split at hq
    · rename_i n0 f n1 g h1 h2
      split at hq
      · cases hq
      · rename_i hc
        cases hq
        refine ⟨a0, sp, a, dp, n, n0, n1, f, g, rfl, h1, h2, fun z => hc (Or.inl (Or.inl z)), fun z => hc (Or.inl (Or.inr (Or.inl z))), fun z => hc (Or.inl (Or.inr (Or.inr z))), ?_, ?_, ?_, ?_, rfl⟩
        · exact Nat.le_of_not_lt (fun z => hc (Or.inr (Or.inl (Or.inl z))))
        · exact Nat.le_of_not_lt (fun z => hc (Or.inr (Or.inl (Or.inr z))))
        · exact Nat.le_of_not_lt (fun z => hc (Or.inr (Or.inr (Or.inl z))))
        · exact Nat.le_of_not_lt (fun z => hc (Or.inr (Or.inr (Or.inr z))))
    · cases hq
  · cases hq
/-- the callee stands before its entry, by whatever word -/
theorem jinvk (O : jOK D cl tys α dA K sz SP TB hd0 T) {p : Program} {e : Env} {R : Room} {s : State} {m : MethodId} {args : Array Value} {below : List Frame} {meth : Method} {c : Code} {H : Heap} {locs : List Loc} {cells slots : Nat} {M Z : jM} {n0 : Nat} (V : jEnvM D cl tys α K sz SP TB T p s m args meth c M n0)
    {i : Instr} {len pc : Nat} {st : List Value} {h : jH} {kd z : Nat} {as r : List Value} {ls : Array Slot} (hft : M.2.2.2.2.2.2.1 pc = some (i, len)) (hcl : jcall T.2.1 K M.2.2.2.2.1 i len st h = some (kd, z, as, r)) (h3 : kd ≠ 3) (h5 : kd ≠ 5) (hz : T.2.2.1 z = some Z) (hR : jRel D cl α dA K sz h s H locs)
    (U : State) (hU : U.heap = H) (X : Stand p l e R s m args below meth c U locs cells slots) : jInvk p l e R s m args below meth c U locs cells slots (F0 m pc ls (st.map (jx_V α))) (r.map (jx_V α)) Z.1 (as.map (jx_V α)).toArray := by
  obtain ⟨hα, ⟨hd0l, hinj⟩, hgood, harr, hSPm, hscr, hmt⟩ := O
  obtain ⟨⟨hx, hb, hml, hown, hts, hini, hK, hSP, hKn, hsz, hdec, hnL, hF, hN, hS, hC, hL⟩, hex⟩ := V
  obtain ⟨hpl, hyn, hin, hcd, hini2, hmk⟩ := hmt z Z hz
  have hd := hdec pc i len hft
  rw [← hb] at hd
  obtain ⟨rfl, hst, hc⟩ := jcall_inv hcl
  rcases hc with ⟨rfl, idx, n, ci, b, as', fs, rfl, hg, has, hn, hcell, hKb⟩ | ⟨rfl, idx, n, ci, b, as', rfl, hg, has, hn⟩ | ⟨rfl, idx, n, ci, rfl, hg, hn⟩ | ⟨rfl, -⟩ | ⟨rfl, idx, n, ci, b, as', rfl, hg, has, hn⟩ | ⟨rfl, -⟩
  · obtain ⟨k0, -⟩ := hL _ _ _ _ _ hg
    obtain ⟨Z', T', N', q1, q2, q3, q4, q5, q6⟩ := k0 rfl
    cases hz.symm.trans q1
    subst has
    obtain ⟨cell, g1, g2, g3⟩ := va_recv hK hR.2.1 q2 (jx_ws_get (α := α) (dA := dA) hcell hKb)
    refine jInvkV X hx hown (hts _ q3) (hts _ q4) (hts _ q5) hyn (fun mk methM h1 h2 => ?_) (by rw [hU]; exact g1) g2 g3 rfl (argsL := as'.map (jx_V α)) (fun sig hsig => ?_) ?_ hd
    · obtain ⟨meth9, c9, w1, -, -, -, -, -, -, w2⟩ := jCode_spec h1 (hts _ hcd)
      cases h2.symm.trans w1
      exact w2
    · rw [hsig] at q6
      have q7 : sig.parameters.length = n - 1 := Option.some.inj q6
      simp at hn ⊢
      omega
    · show st.map (jx_V α) = _
      rw [hst]
      simp [jx_V]
  · obtain ⟨-, k1, -⟩ := hL _ _ _ _ _ hg
    obtain ⟨Z', q1, q2, q3, qh, q4, q5, q6⟩ := k1 rfl
    cases hz.symm.trans q1
    subst has
    have hcd2 := hts _ hcd
    rw [qh, q3, List.map_nil, if_pos rfl] at hcd2
    · refine jInvkI X hx hown q2 (hts _ q4) (hts _ q5) hcd2 hyn rfl (argsL := as'.map (jx_V α)) (fun sig hsig => ?_) ?_ hd
      · rw [hsig] at q6
        have q7 : sig.parameters.length = n - 1 := Option.some.inj q6
        simp at hn ⊢
        omega
      · show st.map (jx_V α) = _
        rw [hst]
        simp [jx_V]
  · obtain ⟨-, -, k2, -⟩ := hL _ _ _ _ _ hg
    obtain ⟨Z', q1, q4, q5, q6⟩ := k2 rfl
    cases hz.symm.trans q1
    have hcd2 := hts _ hcd
    obtain ⟨mk, hmk9⟩ : ∃ mk, s.methodNamed? Z.1 = some mk := by
      split at hcd2
      · exact Cond.code_named hcd2
      · obtain ⟨mk, -, -, w, -⟩ := Cond.codeWith_spec hcd2
        exact ⟨mk, w⟩
    obtain ⟨meth9, c9, w1, -, -, -, -, -, -, w2⟩ := jCode_spec hmk9 (hts _ hcd)
    refine jInvkS X hx hown (hts _ q4) (hts _ q5) (hts _ hini2) hyn hmk9 w1 w2 rfl (argsL := as.map (jx_V α)) (fun sig hsig => ?_) ?_ hd
    · rw [hsig] at q6
      have q7 : sig.parameters.length = n := Option.some.inj q6
      simp at hn ⊢
      omega
    · show st.map (jx_V α) = _
      rw [hst]
      simp
  · exact absurd rfl h3
  · obtain ⟨-, -, -, -, k4, -⟩ := hL _ _ _ _ _ hg
    obtain ⟨Z', host, q1, q2, q3, qh, q4, q5, q6⟩ := k4 rfl
    cases hz.symm.trans q1
    subst has
    have hcd2 := hts _ hcd
    rw [qh, q3, List.map_nil, if_pos rfl] at hcd2
    · refine jInvkIN X hx hown q2 (va_Nw.use rfl (q4 s hSP)) (hts _ q5) hcd2 hyn rfl (argsL := as'.map (jx_V α)) (fun sig hsig => ?_) ?_ hd
      · rw [hsig] at q6
        have q7 : sig.parameters.length = n - 1 := Option.some.inj q6
        simp at hn ⊢
        omega
      · show st.map (jx_V α) = _
        rw [hst]
        simp [jx_V]
  · exact absurd rfl h5
end JInd
end
section
section JSnd
variable {l : Launch} {D : va_G} {cl : List vw_C} {tys : List (ClassId × FieldType)} {α : Nat → Nat} {dA : FieldType → ClassId} {K sz : Nat} {SP : State → Prop} {TB : List Jvm.Cond} {hd0 : jH} {T : jT}
set_option maxHeartbeats 4000000 in
/-- THE MAIN ROW: what the small machine does, the machine does -/
theorem jsound (O : jOK D cl tys α dA K sz SP TB hd0 T) (hThr : jThrowOK l D cl tys α dA K sz SP TB T) (hCat : jCatchOK l D cl tys α dA K sz SP TB T) :
    ∀ (n d : Nat) (M : jM) (pc : Nat) (lv : List (Nat × Value)) (st : List Value) (h : jH) (o : Option Value ⊕ Nat) (h' : jH), jKn cl α sz SP TB T M → (M.2.2.2.2.2.2.2 = [] ∨ ∃ z, T.2.2.1 z = some M) →
      jrun T K n d M (pc, lv, st, h) = some (o, h') → h.take K = hd0 → K ≤ h.length → jRow l D cl tys α dA K sz SP TB hd0 T d M pc lv st h o h' := by
  intro n
  induction n with
  | zero =>
    intro d M pc lv st h o h' _ _ hr
    have hr : (none : Option jO) = some (o, h') := hr
    cases hr
  | succ n ih =>
    intro d M pc lv st h o h' hkn hhs hr hh hKl
    have hr : jbody T K (jrun T K n) d M (pc, lv, st, h) = some (o, h') := hr
    unfold jbody at hr
    dsimp only at hr
    cases h1 : M.2.2.2.2.2.2.1 pc with
    | none => simp only [h1] at hr; cases hr
    | some q =>
      obtain ⟨i, len⟩ := q
      simp only [h1] at hr
      cases h2 : jstep T.1 K M.2.2.2.2.1 M.2.2.1 M.2.2.2.2.2.1 i len pc lv st h with
      | some s' =>
        simp only [h2] at hr
        obtain ⟨pc1, lv1, st1, h3⟩ := s'
        obtain ⟨g1, g2, g3⟩ := jstep_grow h2 hKl
        dsimp only at g1 g2 g3
        obtain ⟨r1, r2, r3, r4⟩ := ih d M pc1 lv1 st1 h3 o h' hkn hhs hr (g1.trans hh) (by omega)
        refine ⟨r1, by omega, by omega, fun p e R s m args below meth c Q n0 t0 V hn0 ht0 hf hlo hc hs hF hFT => ?_⟩
        obtain ⟨-, -, -, hst⟩ := jstep_ok (l := l) (e := e) (R := R) (below := below) (Q := Q) (t0 := t0) O V.1 h1 h2 hh hn0 ht0 hKl
        exact hst (by omega) (by omega) (r4 p e R s m args below meth c Q n0 t0 V (by omega) (by omega) hf hlo hc hs hF hFT)
      | none =>
        simp only [h2] at hr
        cases h3 : jend M.2.2.2.1 i len st with
        | some v =>
          simp only [h3] at hr
          cases hr
          refine ⟨hh, Nat.le_refl _, Nat.le_refl _, fun p e R s m args below meth c Q n0 t0 V hn0 ht0 hf hlo hc hs hF hFT ls H locs hl hR => ?_⟩
          exact hF v rfl i len pc st ls H locs h3 (hkn.1 pc i len h1) hR
        | none =>
          simp only [h3] at hr
          cases h4 : jcall T.2.1 K M.2.2.2.2.1 i len st h with
          | none =>
            simp only [h4] at hr
            cases h5 : jthr T K M i len pc st with
            | none => simp only [h5] at hr; cases hr
            | some ci =>
              simp only [h5] at hr
              split at hr
              · cases hr
              · rename_i hd8
                cases hr
                refine ⟨by rw [List.take_append_of_le_length hKl]; exact hh, by rw [List.length_append]; omega, by rw [jtot_push]; omega, fun p e R s m args below meth c Q n0 t0 V hn0 ht0 hf hlo hc hs hF hFT ls H locs hl hR => ?_⟩
                have hα := O.1
                obtain ⟨V1, V2⟩ := id V
                obtain ⟨hx, hb, hml, hown, hts, hini, hK, hSP, hKn, hsz, -⟩ := V1
                have hhs0 : M.2.2.2.2.2.2.2 = [] := by
                  unfold jthr at h5
                  split at h5
                  · split at h5
                    · rename_i hhs1
                      exact hhs1
                    · cases h5
                  · cases h5
                have hex : c.exceptionTable.toList = [] := by
                  rw [hhs0] at V2
                  exact List.map_eq_nil_iff.mp V2
                refine W.jsized (fun hub => ?_)
                have hz : H.size = α h.length := by
                  rw [hR.size hα (by omega) (by omega), ← hα]
                  congr 1
                  omega
                rw [List.length_append] at hc
                rw [jtot_push] at hs
                simp only [jsz, List.length_cons, List.length_nil] at hc hs
                refine hThr p e R s m args below meth c Q M n0 i len pc ci st ls H locs (h.length - n0) (jtot h - t0) h V hl.1 h1 h5 hR hz (by omega) (by omega) (by omega) (by omega) (fun H1 locs1 st1 hR1 => ?_)
                have k := hFT h.length rfl (pc + 9) st1 ls H1 locs1 hex hR1
                rw [List.length_append, jtot_push] at k
                simp only [jsz, List.length_cons, List.length_nil] at k
                rw [show h.length - n0 + 1 = h.length + (0 + 1) - n0 by omega, show jtot h - t0 + 6 = jtot h + (0 + 1 + 1 + 1 + 1 + 1 + 1) - t0 by omega]
                exact k
          | some q =>
            obtain ⟨kd, z, as, r⟩ := q
            simp only [h4] at hr
            cases d with
            | zero => cases hr
            | succ d' =>
              simp only at hr
              by_cases h8 : 8 < (r.map fun v => v.category).sum
              · simp only [h8, if_true] at hr; cases hr
              simp only [h8, if_false] at hr
              by_cases h6 : kd = 3
              · simp only [h6, if_true] at hr
                subst h6
                obtain ⟨rfl, hst, hc⟩ := jcall_inv h4
                obtain ⟨idx, n', ci', b, rfl, hg, rfl⟩ : ∃ idx n ci b, i = .invokespecial idx ∧ T.2.1 M.2.2.2.2.1 idx = some (3, n, ci) ∧ as = [.ref b] := by
                  rcases hc with ⟨q, -⟩ | ⟨q, -⟩ | ⟨q, -⟩ | ⟨-, q⟩ | ⟨q, -⟩ | ⟨q, -⟩
                  · exact absurd q (by decide)
                  · exact absurd q (by decide)
                  · exact absurd q (by decide)
                  · exact q
                  · exact absurd q (by decide)
                  · exact absurd q (by decide)
                obtain ⟨r1, r2, r3, r4⟩ := ih (d' + 1) M (pc + 3) lv r h o h' hkn hhs hr hh hKl
                refine ⟨r1, r2, r3, fun p e R s m args below meth c Q n0 t0 V hn0 ht0 hf hlo hc hs hF hFT ls H locs hl hR => ?_⟩
                obtain ⟨⟨hx, hb, hml, hown, hts, hini, hK, hSP, hKn, hsz, hdec, hnL, hF1, hN1, hS1, hC1, hL1⟩, V2⟩ := id V
                obtain ⟨w1, w2, w3⟩ := (hL1 _ _ _ _ _ hg).2.2.2.1 rfl
                have k := r4 p e R s m args below meth c Q n0 t0 V hn0 ht0 hf hlo hc hs hF hFT ls H locs hl hR
                rw [hst]
                refine W.objInit (g := F0 m pc ls (List.map (jx_V α) ([Value.ref b].reverse ++ r))) (a := α b) (rest := r.map (jx_V α)) hx hb hown (hts _ w1) (hts _ w2) (hts _ w3) rfl (hl.1.trans hml.symm) rfl (hkn.1 pc _ _ h1) (by omega) ?_ k
                rw [jsum_map]
                show 2 * 0 + _ + 12 ≤ _
                omega
              simp only [h6, if_false] at hr
              by_cases h66 : kd = 5
              · simp only [h66, if_true] at hr
                subst h66
                cases h67 : jcopy K as h with
                | none => simp only [h67] at hr; cases hr
                | some h3 =>
                  simp only [h67] at hr
                  obtain ⟨rfl, hst, hc⟩ := jcall_inv h4
                  obtain ⟨idx, q', rfl, hg⟩ : ∃ idx q, i = .invokestatic idx ∧ T.2.1 M.2.2.2.2.1 idx = some (5, q) := by
                    rcases hc with ⟨q, -⟩ | ⟨q, -⟩ | ⟨q, -⟩ | ⟨q, -⟩ | ⟨q, -⟩ | ⟨-, q⟩
                    · exact absurd q (by decide)
                    · exact absurd q (by decide)
                    · exact absurd q (by decide)
                    · exact absurd q (by decide)
                    · exact absurd q (by decide)
                    · exact q
                  obtain ⟨a0, sp, a, dp, n', m0, m1, f, g, rfl, e1, e2, e3, e4, e5, e6, e7, e8, e9, rfl⟩ := jcopy_inv h67
                  have gt : (h.set a (.inl (.int, m1, .inl (va_cpy f g sp.toNatClampNeg dp.toNatClampNeg n'.toNatClampNeg)))).take K = hd0 := by rw [List.take_set_of_le e9]; exact hh
                  have gs : jtot (h.set a (.inl (.int, m1, .inl (va_cpy f g sp.toNatClampNeg dp.toNatClampNeg n'.toNatClampNeg)))) = jtot h := jtot_set e2 rfl
                  obtain ⟨r1, r2, r3, r4⟩ := ih (d' + 1) M (pc + 3) lv r _ o h' hkn hhs hr gt (by rw [List.length_set]; exact hKl)
                  rw [List.length_set] at r2
                  rw [gs] at r3
                  refine ⟨r1, r2, r3, fun p e R s m args below meth c Q n0 t0 V hn0 ht0 hf hlo hc hs hF hFT ls H locs hl hR => ?_⟩
                  obtain ⟨⟨hx, hb, hml, hown, hts, hini, hK, hSP, hKn, hsz, hdec, hnL, hF1, hN1, hS1, hC1, hL1⟩, V2⟩ := id V
                  obtain ⟨w1, w2, w3, w4⟩ := (hL1 _ _ _ _ _ hg).2.2.2.2.2 rfl
                  obtain ⟨t1, ht1⟩ := (O.2.2.2.1 .int 0 _ rfl).1
                  rw [hst]
                  refine va_copyi (rest := r.map (jx_V α)) (q0 := a0 - K) (q1 := a - K) (t0 := t1) (t1 := t1) (ty := .int) hx hb (hml.trans hl.1.symm) hown (hts _ w1) (hts _ w2) (hts _ w3) (hts _ w4) hK hR.2.1 (jx_D O.1 h) hR.2.2 (jx_ws_get e1 e8) (jx_ws_get e2 e9) ht1 ht1 rfl e3 e4 e5 e6 e7 (fun _ _ => rfl) (by omega) ?_ (hkn.1 pc _ _ h1) (fun H1 locs1 q1 _ q3 => ?_)
                  · rw [jsum_map]
                    have : nativeFrameWords "java/lang/System" "arraycopy" 5 = 7 := by decide +kernel
                    omega
                  · have k := r4 p e R s m args below meth c Q n0 t0 V (by rw [List.length_set]; exact hn0) (by rw [gs]; exact ht0) hf hlo hc hs hF hFT ls H1 locs1 hl (jRel_set hR e9 rfl q1 q3)
                    rw [List.length_set, gs] at k
                    exact k
              simp only [h66, if_false] at hr
              cases h7 : T.2.2.1 z with
              | none => simp only [h7] at hr; cases hr
              | some Z =>
                simp only [h7] at hr
                by_cases h9 : Z.2.2.1 < (lg_sl as).length
                · simp only [h9, if_true] at hr; cases hr
                simp only [h9, if_false] at hr
                cases h10 : jrun T K n d' Z (0, lv_args 0 as, [], h) with
                | none => simp only [h10] at hr; cases hr
                | some q9 =>
                  simp only [h10] at hr
                  obtain ⟨o1, hv3⟩ := q9
                  have hmtZ := O.2.2.2.2.2.2 z Z h7
                  have row1 := ih d' Z 0 (lv_args 0 as) [] h o1 hv3 hmtZ.2.2.2.2.2 (Or.inr ⟨z, h7⟩) h10 hh hKl
                  have hM := jmet (l := l) O h7 row1 hKl h9
                  obtain ⟨u1, u2, u3, -⟩ := row1
                  have hwsG : ∀ w ∈ jWs TB Z, w ∈ TB := fun w hw => by
                    rcases List.mem_cons.mp hw with rfl | hw
                    · exact hmtZ.2.2.2.1
                    · exact hw
                  have key : ∀ (p : Program) (e : Env) (R : Room) (s : State) (m : MethodId) (args : Array Value) (below : List Frame) (meth : Method) (c : Code) (Q : State → Prop) (n0 t0 : Nat), jEnvM D cl tys α K sz SP TB T p s m args meth c M n0 → n0 ≤ h.length → t0 ≤ jtot h → d' + 1 ≤ R.frames → 64 * (d' + 1) ≤ R.locals → hv3.length - n0 ≤ R.cells → jtot hv3 - t0 ≤ R.slots →
                      ∀ (ls : Array Slot) (H : Heap) (locs : List Loc), lv_has ls M.2.2.1 (lv.map (jx_L α)) → jRel D cl α dA K sz h s H locs →
                      (∀ v, o1 = .inl v → ∀ (H1 : Heap) (locs1 : List Loc), jRel D cl α dA K sz hv3 s H1 locs1 → W p l e R s m args below meth c H1 locs1 (hv3.length - n0) (jtot hv3 - t0) Q (F0 m (pc + 3) ls ((v.toList ++ r).map (jx_V α)))) →
                      (∀ a, o1 = .inr a → ∀ (H1 : Heap) (locs1 : List Loc), jRel D cl α dA K sz hv3 s H1 locs1 → WT p l e R s m args below meth c H1 locs1 (hv3.length - n0) (jtot hv3 - t0) Q (F0 m pc ls (r.map (jx_V α))) (α a)) →
                      W p l e R s m args below meth c H locs (h.length - n0) (jtot h - t0) Q (F0 m pc ls (st.map (jx_V α))) := by
                    intro p e R s m args below meth c Q n0 t0 V hn0 ht0 hf hlo hc hs ls H locs hl hR kr kt
                    obtain ⟨⟨hx, hb, hml, hown, hts, hini, hK, hSP, hKn, hsz, -⟩, V2⟩ := id V
                    obtain ⟨rfl, hst, -⟩ := jcall_inv h4
                    have hd := hkn.1 pc _ _ h1
                    rw [← hb] at hd
                    refine W.jsized (fun hub => ?_)
                    have ec : h.length - n0 + (hv3.length - h.length) = hv3.length - n0 := by omega
                    have es : jtot h - t0 + (jtot hv3 - jtot h) = jtot hv3 - t0 := by omega
                    refine jcallW (hh := Z.2.2.2.2.2.2.2.map (fun q => q.1)) (bytes := Z.2.1) (maxL := Z.2.2.1) (ret := Z.2.2.2.1) (g := F0 m pc ls (st.map (jx_V α))) (rest := r.map (jx_V α)) (av := (as.map (jx_V α)).toArray) hM (jB_blind O.2.2.2.2.1 as h) rfl rfl (by show d' + 1 ≤ _; exact hf) ?_ (pay_in hts (fun w hw => ⟨hwsG w hw, O.2.2.1 w (hwsG w hw)⟩)) List.mem_cons_self
                      (fun a' U hW => word_at hW (O.2.2.1 _ hmtZ.2.2.2.2.1) (hts _ hmtZ.2.2.2.2.1)) rfl (hl.1.trans hml.symm) hd ?_ (by rw [ec]; exact hc) (by rw [es]; exact hs) (fun U hU hW => ?_) hR.2.2 (fun U hU X => jinvk O V h1 h4 h6 h66 h7 hR U hU X) (fun v hv H1 locs1 hR1 => ?_) (fun a ha H1 locs1 hR1 => ?_)
                    · show 8 + (Z.2.2.1 + 11) + 64 * d' ≤ _
                      have := hmtZ.2.2.2.2.2.2.1
                      omega
                    · rw [jsum_map]
                      show 2 * 0 + _ ≤ 8
                      omega
                    · refine ⟨rfl, hKl, by rw [hU]; exact hR.size O.1 (by omega) (by omega), by rw [hU]; exact hR.2.1, va_K.moved hW.alike hK, O.2.2.2.2.1 s U hW (fun q hq => ?_) hSP⟩
                      rw [hU]
                      exact hR.2.2.2.1 q (by omega) (by omega)
                    · rw [ec, es]
                      have k := kr v hv H1 locs1 hR1
                      cases v with
                      | none => exact k
                      | some w => exact k
                    · rw [ec, es]
                      exact kt a ha H1 locs1 hR1
                  cases o1 with
                  | inl v =>
                    simp only at hr
                    obtain ⟨r1, r2, r3, r4⟩ := ih (d' + 1) M (pc + 3) lv (v.toList ++ r) hv3 o h' hkn hhs hr u1 (by omega)
                    refine ⟨r1, by omega, by omega, fun p e R s m args below meth c Q n0 t0 V hn0 ht0 hf hlo hc hs hF hFT ls H locs hl hR => ?_⟩
                    refine key p e R s m args below meth c Q n0 t0 V hn0 ht0 hf hlo (by omega) (by omega) ls H locs hl hR (fun v' hv H1 locs1 hR1 => ?_) (fun a ha => by cases ha)
                    cases hv
                    exact r4 p e R s m args below meth c Q n0 t0 V (by omega) (by omega) hf hlo hc hs hF hFT ls H1 locs1 hl hR1
                  | inr a =>
                    simp only at hr
                    cases h11 : M.2.2.2.2.2.2.2 with
                    | nil =>
                      simp only [h11] at hr
                      cases hr
                      refine ⟨u1, u2, u3, fun p e R s m args below meth c Q n0 t0 V hn0 ht0 hf hlo hc hs hF hFT ls H locs hl hR => ?_⟩
                      refine key p e R s m args below meth c Q n0 t0 V hn0 ht0 hf hlo hc hs ls H locs hl hR (fun v hv => by cases hv) (fun a' ha H1 locs1 hR1 => ?_)
                      cases ha
                      refine hFT a rfl pc (r.map (jx_V α)) ls H1 locs1 ?_ hR1
                      have V2 := V.2
                      rw [h11] at V2
                      exact List.map_eq_nil_iff.mp V2
                    | cons b hs0 =>
                      simp only [h11] at hr
                      cases h12 : jhand (b :: hs0) pc hv3 a with
                      | none => simp only [h12] at hr; cases hr
                      | some q =>
                        simp only [h12] at hr
                        obtain ⟨r1, r2, r3, r4⟩ := ih (d' + 1) M q lv [.ref a] hv3 o h' hkn hhs hr u1 (by omega)
                        refine ⟨r1, by omega, by omega, fun p e R s m args below meth c Q n0 t0 V hn0 ht0 hf hlo hc hs hF hFT ls H locs hl hR => ?_⟩
                        refine key p e R s m args below meth c Q n0 t0 V hn0 ht0 hf hlo (by omega) (by omega) ls H locs hl hR (fun v hv => by cases hv) (fun a' ha H1 locs1 hR1 => ?_)
                        cases ha
                        refine hCat p e R s m args below meth c Q M n0 pc a q _ ls H1 locs1 _ _ hv3 (hhs.resolve_left (by rw [h11]; intro z; cases z)) V (by rw [h11]; exact h12) hR1 ?_
                        exact r4 p e R s m args below meth c Q n0 t0 V (by omega) (by omega) hf hlo hc hs hF hFT ls H1 locs1 hl hR1
end JSnd
end
