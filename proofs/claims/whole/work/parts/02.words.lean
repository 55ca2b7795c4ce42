/-- words that touch the stack alone: the new stack, the word's length -/
def jstk (i : Instr) (st : List Value) : Option (List Value × Nat) := match i with
  | .iconst n => some (.int (Int32.ofInt n) :: st, 1)
  | .bipush n => some (.int (Int8.ofInt n).toInt32 :: st, 2)
  | .sipush n => some (.int (Int16.ofInt n).toInt32 :: st, 3)
  | .lconst n => some (.long (Int64.ofNat n.val) :: st, 1)
  | .aconst_null => some (.null :: st, 1)
  | .iadd => (j2i (fun x y => x + y) st).map (fun r => (r, 1))
  | .isub => (j2i (fun x y => x - y) st).map (fun r => (r, 1))
  | .imul => (j2i (fun x y => x * y) st).map (fun r => (r, 1))
  | .iand => (j2i (fun x y => x &&& y) st).map (fun r => (r, 1))
  | .ior => (j2i (fun x y => x ||| y) st).map (fun r => (r, 1))
  | .ixor => (j2i (fun x y => x ^^^ y) st).map (fun r => (r, 1))
  | .ishl => (j2i (fun x y => x <<< (y &&& 31)) st).map (fun r => (r, 1))
  | .ishr => (j2i (fun x y => x >>> (y &&& 31)) st).map (fun r => (r, 1))
  | .iushr => (j2i (fun x y => (x.toUInt32 >>> (y.toUInt32 &&& Int32.toUInt32 31)).toInt32) st).map (fun r => (r, 1))
  | .ladd => (j2l (fun x y => x + y) st).map (fun r => (r, 1))
  | .lsub => (j2l (fun x y => x - y) st).map (fun r => (r, 1))
  | .land => (j2l (fun x y => x &&& y) st).map (fun r => (r, 1))
  | .lor => (j2l (fun x y => x ||| y) st).map (fun r => (r, 1))
  | .lxor => (j2l (fun x y => x ^^^ y) st).map (fun r => (r, 1))
  | .lshl => (jsl (fun x y => x <<< (y.toInt64 &&& 63)) st).map (fun r => (r, 1))
  | .lshr => (jsl (fun x y => x >>> (y.toInt64 &&& 63)) st).map (fun r => (r, 1))
  | .lushr => (jsl (fun x y => (x.toUInt64 >>> (y.toInt64.toUInt64 &&& Int64.toUInt64 63)).toInt64) st).map (fun r => (r, 1))
  | .ineg => (j1i (fun x => -x) st).map (fun r => (r, 1))
  | .i2b => (j1i (fun x => x.toInt8.toInt32) st).map (fun r => (r, 1))
  | .i2s => (j1i (fun x => x.toInt16.toInt32) st).map (fun r => (r, 1))
  | .i2c => (j1i (fun x => (x.toUInt32 % 65536).toInt32) st).map (fun r => (r, 1))
  | .idiv => match st with
    | .int y :: .int x :: r => if y = 0 then none else some (.int (x / y) :: r, 1)
    | _ => none
  | .irem => match st with
    | .int y :: .int x :: r => if y = 0 then none else some (.int (x - x / y * y) :: r, 1)
    | _ => none
  | .i2l => match st with
    | .int x :: r => some (.long x.toInt64 :: r, 1)
    | _ => none
  | .l2i => match st with
    | .long x :: r => some (.int x.toInt32 :: r, 1)
    | _ => none
  | .lcmp => match st with
    | .long y :: .long x :: r => some (.int (lg_cmp x y) :: r, 1)
    | _ => none
  | .dup => match st with
    | v :: r => if v.category = 1 then some (v :: v :: r, 1) else none
    | _ => none
  | .pop => match st with
    | v :: r => if v.category = 1 then some (r, 1) else none
    | _ => none
  | .dup_x1 => match st with
    | v :: w :: r => if v.category = 1 ∧ w.category = 1 then some (v :: w :: v :: r, 1) else none
    | _ => none
  | .dup2 => match st with
    | v :: w :: r => if v.category = 1 ∧ w.category = 1 then some (v :: w :: v :: w :: r, 1) else none
    | _ => none
  | _ => none
section JW2
variable {p : Program} {l : Launch} {e : Env} {R : Room} {s : State} {m : MethodId} {args : Array Value} {below : List Frame} {meth : Method} {c : Code} {H : Heap} {locs : List Loc} {cells slots : Nat} {Q : State → Prop} {cc : ByteArray} {pc : Nat} {ls : Array Slot} {α : Nat → Nat}
set_option maxHeartbeats 1000000 in
theorem jstk_ok (hx : p.tables.exec = Jvm.exec) (hb : c.code = cc) {i : Instr} {st st' : List Value} {len : Nat} (h : jstk i st = some (st', len)) (hd : decode cc pc = .ok (i, len)) (k : W p l e R s m args below meth c H locs cells slots Q (F0 m (pc + len) ls (st'.map (jx_V α)))) : W p l e R s m args below meth c H locs cells slots Q (F0 m (pc) ls (st.map (jx_V α))) := by
  unfold jstk at h
  split at h
  · cases h; exact lv_iconst hx hb hd rfl k
  · cases h; exact lv_bipush hx hb hd rfl k
  · cases h; exact lv_sipush hx hb hd rfl k
  · cases h; exact lv_lconst hx hb hd rfl k
  · cases h; exact lv_null hx hb hd k
  · obtain ⟨r, hr, e1⟩ := Option.map_eq_some_iff.mp h
    cases e1
    obtain ⟨x, y, r', rfl, rfl⟩ := j2i_inv hr
    exact lv_iadd hx hb hd k
  · obtain ⟨r, hr, e1⟩ := Option.map_eq_some_iff.mp h
    cases e1
    obtain ⟨x, y, r', rfl, rfl⟩ := j2i_inv hr
    exact lv_isub hx hb hd k
  · obtain ⟨r, hr, e1⟩ := Option.map_eq_some_iff.mp h
    cases e1
    obtain ⟨x, y, r', rfl, rfl⟩ := j2i_inv hr
    exact lv_imul hx hb hd k
  · obtain ⟨r, hr, e1⟩ := Option.map_eq_some_iff.mp h
    cases e1
    obtain ⟨x, y, r', rfl, rfl⟩ := j2i_inv hr
    exact lv_iand hx hb hd k
  · obtain ⟨r, hr, e1⟩ := Option.map_eq_some_iff.mp h
    cases e1
    obtain ⟨x, y, r', rfl, rfl⟩ := j2i_inv hr
    exact lv_ior hx hb hd k
  · obtain ⟨r, hr, e1⟩ := Option.map_eq_some_iff.mp h
    cases e1
    obtain ⟨x, y, r', rfl, rfl⟩ := j2i_inv hr
    exact lv_ixor hx hb hd k
  · obtain ⟨r, hr, e1⟩ := Option.map_eq_some_iff.mp h
    cases e1
    obtain ⟨x, y, r', rfl, rfl⟩ := j2i_inv hr
    exact lv_ishl hx hb hd k
  · obtain ⟨r, hr, e1⟩ := Option.map_eq_some_iff.mp h
    cases e1
    obtain ⟨x, y, r', rfl, rfl⟩ := j2i_inv hr
    exact lv_ishr hx hb hd k
  · obtain ⟨r, hr, e1⟩ := Option.map_eq_some_iff.mp h
    cases e1
    obtain ⟨x, y, r', rfl, rfl⟩ := j2i_inv hr
    exact lv_iushr hx hb hd rfl k
  · obtain ⟨r, hr, e1⟩ := Option.map_eq_some_iff.mp h
    cases e1
    obtain ⟨x, y, r', rfl, rfl⟩ := j2l_inv hr
    exact lv_ladd hx hb hd k
  · obtain ⟨r, hr, e1⟩ := Option.map_eq_some_iff.mp h
    cases e1
    obtain ⟨x, y, r', rfl, rfl⟩ := j2l_inv hr
    exact lv_lsub hx hb hd k
  · obtain ⟨r, hr, e1⟩ := Option.map_eq_some_iff.mp h
    cases e1
    obtain ⟨x, y, r', rfl, rfl⟩ := j2l_inv hr
    exact lv_land hx hb hd k
  · obtain ⟨r, hr, e1⟩ := Option.map_eq_some_iff.mp h
    cases e1
    obtain ⟨x, y, r', rfl, rfl⟩ := j2l_inv hr
    exact lv_lor hx hb hd k
  · obtain ⟨r, hr, e1⟩ := Option.map_eq_some_iff.mp h
    cases e1
    obtain ⟨x, y, r', rfl, rfl⟩ := j2l_inv hr
    exact lv_lxor hx hb hd k
  · obtain ⟨r, hr, e1⟩ := Option.map_eq_some_iff.mp h
    cases e1
    obtain ⟨x, y, r', rfl, rfl⟩ := jsl_inv hr
    exact lv_lshl hx hb hd rfl k
  · obtain ⟨r, hr, e1⟩ := Option.map_eq_some_iff.mp h
    cases e1
    obtain ⟨x, y, r', rfl, rfl⟩ := jsl_inv hr
    exact lv_lshr hx hb hd rfl k
  · obtain ⟨r, hr, e1⟩ := Option.map_eq_some_iff.mp h
    cases e1
    obtain ⟨x, y, r', rfl, rfl⟩ := jsl_inv hr
    exact lv_lushr hx hb hd rfl k
  · obtain ⟨r, hr, e1⟩ := Option.map_eq_some_iff.mp h
    cases e1
    obtain ⟨x, r', rfl, rfl⟩ := j1i_inv hr
    exact lv_ineg hx hb hd  k
  · obtain ⟨r, hr, e1⟩ := Option.map_eq_some_iff.mp h
    cases e1
    obtain ⟨x, r', rfl, rfl⟩ := j1i_inv hr
    exact lv_i2b hx hb hd rfl k
  · obtain ⟨r, hr, e1⟩ := Option.map_eq_some_iff.mp h
    cases e1
    obtain ⟨x, r', rfl, rfl⟩ := j1i_inv hr
    exact lv_i2s hx hb hd rfl k
  · obtain ⟨r, hr, e1⟩ := Option.map_eq_some_iff.mp h
    cases e1
    obtain ⟨x, r', rfl, rfl⟩ := j1i_inv hr
    exact lv_i2c hx hb hd rfl k
  · split at h
    · split at h
      · cases h
      · rename_i hy; cases h; exact lv_idiv hx hb hd hy k
    · cases h
  · split at h
    · split at h
      · cases h
      · rename_i hy; cases h; exact lv_irem hx hb hd hy k
    · cases h
  · split at h
    · cases h; exact lv_i2l hx hb hd rfl k
    · cases h
  · split at h
    · cases h; exact lv_l2i hx hb hd rfl k
    · cases h
  · split at h
    · cases h; exact W.lcmp hx hb hd k
    · cases h
  · split at h
    · split at h
      · rename_i hv; cases h; exact lv_dup hx hb hd (by rw [jx_V_cat]; exact hv) k
      · cases h
    · cases h
  · split at h
    · split at h
      · rename_i hv; cases h; exact lv_pop hx hb hd (by rw [jx_V_cat]; exact hv) k
      · cases h
    · cases h
  · split at h
    · split at h
      · rename_i hv; cases h; exact lv_dup_x1 hx hb hd (by rw [jx_V_cat]; exact hv.1) (by rw [jx_V_cat]; exact hv.2) k
      · cases h
    · cases h
  · split at h
    · split at h
      · rename_i hv; cases h; exact lv_dup2_11 hx hb hd (by rw [jx_V_cat]; exact hv.1) (by rw [jx_V_cat]; exact hv.2) k
      · cases h
    · cases h
  · cases h
end JW2
/-- words that touch locals and stack -/
def jloc (i : Instr) (nL : Nat) (lv : List (Nat × Value)) (st : List Value) : Option (List (Nat × Value) × List Value × Nat) := match i with
  | .iload k => match jld k lv with
    | some (.int x) => some (lv, .int x :: st, 2)
    | _ => none
  | .iload_n k => match jld k.val lv with
    | some (.int x) => some (lv, .int x :: st, 1)
    | _ => none
  | .lload k => match jld k lv with
    | some (.long x) => some (lv, .long x :: st, 2)
    | _ => none
  | .lload_n k => match jld k.val lv with
    | some (.long x) => some (lv, .long x :: st, 1)
    | _ => none
  | .aload k => match jld k lv with
    | some (.ref x) => some (lv, .ref x :: st, 2)
    | some (.null) => some (lv, .null :: st, 2)
    | _ => none
  | .aload_n k => match jld k.val lv with
    | some (.ref x) => some (lv, .ref x :: st, 1)
    | some (.null) => some (lv, .null :: st, 1)
    | _ => none
  | .istore k => match st with
    | .int x :: r => if k < nL then some (jst1 k (.int x) lv, r, 2) else none
    | _ => none
  | .istore_n k => match st with
    | .int x :: r => if k.val < nL then some (jst1 k.val (.int x) lv, r, 1) else none
    | _ => none
  | .lstore k => match st with
    | .long x :: r => if k + 1 < nL then some (jst2 k (.long x) lv, r, 2) else none
    | _ => none
  | .lstore_n k => match st with
    | .long x :: r => if k.val + 1 < nL then some (jst2 k.val (.long x) lv, r, 1) else none
    | _ => none
  | .astore k => match st with
    | .ref x :: r => if k < nL then some (jst1 k (.ref x) lv, r, 2) else none
    | .null :: r => if k < nL then some (jst1 k (.null) lv, r, 2) else none
    | _ => none
  | .astore_n k => match st with
    | .ref x :: r => if k.val < nL then some (jst1 k.val (.ref x) lv, r, 1) else none
    | .null :: r => if k.val < nL then some (jst1 k.val (.null) lv, r, 1) else none
    | _ => none
  | .iinc k n => match jld k lv with
    | some (.int x) => if k < nL then some (jst1 k (.int (x + Int32.ofInt n)) lv, st, 3) else none
    | _ => none
  | _ => none
section JW3
variable {p : Program} {l : Launch} {e : Env} {R : Room} {s : State} {m : MethodId} {args : Array Value} {below : List Frame} {meth : Method} {c : Code} {H : Heap} {locs : List Loc} {cells slots : Nat} {Q : State → Prop} {cc : ByteArray} {pc : Nat} {ls : Array Slot} {α : Nat → Nat}
set_option maxHeartbeats 1000000 in
theorem jloc_ok (hx : p.tables.exec = Jvm.exec) (hb : c.code = cc) {i : Instr} {nL : Nat} {lv lv' : List (Nat × Value)} {st st' : List Value} {len : Nat} (h : jloc i nL lv st = some (lv', st', len)) (hd : decode cc pc = .ok (i, len)) (hl : lv_has ls nL (lv.map (jx_L α))) (kk : ∀ ls' : Array Slot, lv_has ls' nL (lv'.map (jx_L α)) → W p l e R s m args below meth c H locs cells slots Q (F0 m (pc + len) ls' (st'.map (jx_V α)))) : W p l e R s m args below meth c H locs cells slots Q (F0 m (pc) ls (st.map (jx_V α))) := by
  unfold jloc at h
  split at h
  · split at h
    · rename_i hq; cases h; exact lv_iload hx hb hd (jld_at hl hq) (kk ls hl)
    · cases h
  · split at h
    · rename_i hq; cases h; exact lv_iload_n hx hb hd rfl (jld_at hl hq) (kk ls hl)
    · cases h
  · split at h
    · rename_i hq; cases h; exact lv_lload hx hb hd (jld_at hl hq) (kk ls hl)
    · cases h
  · split at h
    · rename_i hq; cases h; exact lv_lload_n hx hb hd rfl (jld_at hl hq) (kk ls hl)
    · cases h
  · split at h
    · rename_i hq; cases h; exact lv_aload hx hb hd (jld_at hl hq) (kk ls hl)
    · rename_i hq; cases h; exact lv_aloadN hx hb hd (jld_at hl hq) (kk ls hl)
    · cases h
  · split at h
    · rename_i hq; cases h; exact lv_aload_n hx hb hd rfl (jld_at hl hq) (kk ls hl)
    · rename_i hq; cases h; exact lv_aload_nN hx hb hd rfl (jld_at hl hq) (kk ls hl)
    · cases h
  · split at h
    · split at h
      · rename_i hn; cases h; exact lv_istore hx hb hd hl hn (by rw [jst1_map]; rfl) kk
      · cases h
    · cases h
  · split at h
    · split at h
      · rename_i hn; cases h; exact lv_istore_n hx hb hd rfl hl hn (by rw [jst1_map]; rfl) kk
      · cases h
    · cases h
  · split at h
    · split at h
      · rename_i hn; cases h; exact lv_lstore hx hb hd hl hn (by rw [jst2_map]; rfl) kk
      · cases h
    · cases h
  · split at h
    · split at h
      · rename_i hn; cases h; exact lv_lstore_n hx hb hd rfl hl hn (by rw [jst2_map]; rfl) kk
      · cases h
    · cases h
  · split at h
    · split at h
      · rename_i hn; cases h; exact lv_astore hx hb hd hl hn (by rw [jst1_map]; rfl) kk
      · cases h
    · split at h
      · rename_i hn; cases h; exact lv_astoreN hx hb hd hl hn (by rw [jst1_map]; rfl) kk
      · cases h
    · cases h
  · split at h
    · split at h
      · rename_i hn; cases h; exact lv_astore_n hx hb hd rfl hl hn (by rw [jst1_map]; rfl) kk
      · cases h
    · split at h
      · rename_i hn; cases h; exact lv_astore_nN hx hb hd rfl hl hn (by rw [jst1_map]; rfl) kk
      · cases h
    · cases h
  · split at h
    · rename_i hq; split at h
      · rename_i hn; cases h
        obtain ⟨k9, hk9⟩ := List.getElem?_of_mem (List.mem_map.mpr ⟨_, jld_mem hq, rfl⟩ : jx_L α _ ∈ lv.map (jx_L α))
        exact lv_iinc hx hb hd hl hk9 rfl hn (by rw [jst1_map]; rfl) kk
      · cases h
    · cases h
  · cases h
end JW3
def jtgt (pc : Nat) (off : Int) : Option Nat := if 0 ≤ (pc : Int) + off then some ((pc : Int) + off).toNat else none
theorem jtgt_eq {pc t : Nat} {off : Int} (h : jtgt pc off = some t) : (pc : Int) + off = (t : Int) := by
  unfold jtgt at h
  split at h
  · cases h; omega
  · cases h
def jbr1 (c : Jvm.ClassFile.Cond) (x : Int32) (t f : Nat) : Nat := match c with
  | .eq => if x = 0 then t else f
  | .ne => if ¬ x = 0 then t else f
  | .lt => if x < 0 then t else f
  | .ge => if 0 ≤ x then t else f
  | .gt => if 0 < x then t else f
  | .le => if x ≤ 0 then t else f
def jbr2 (c : Jvm.ClassFile.Cond) (x y : Int32) (t f : Nat) : Nat := match c with
  | .eq => if x = y then t else f
  | .ne => if ¬ x = y then t else f
  | .lt => if x < y then t else f
  | .ge => if y ≤ x then t else f
  | .gt => if y < x then t else f
  | .le => if x ≤ y then t else f
def jsw (pc : Nat) (dflt lo hi : Int) (offs : Array Int) (x : Int32) : Option Nat := if x.toInt < lo ∨ hi < x.toInt then jtgt pc dflt else match offs[(x.toInt - lo).toNat]? with
  | some off => jtgt pc off
  | none => none
def jbrA (c : ACond) (x y t f : Nat) : Nat := match c with
  | .eq => if x = y then t else f
  | .ne => if ¬ x = y then t else f
/-- the constants among the references that may be compared -/
def jcmp (x : Nat) : Prop := 1 ≤ x ∧ x < 11
/-- jumps: the new pc and stack -/
def jjmp (i : Instr) (pc len : Nat) (st : List Value) : Option (Nat × List Value) := match i with
  | .goto off => if len = 3 then (jtgt pc off).map (fun t => (t, st)) else none
  | .ifCond c off => match st with
    | .int x :: r => if len = 3 then (jtgt pc off).map (fun t => (jbr1 c x t (pc + 3), r)) else none
    | _ => none
  | .if_icmp c off => match st with
    | .int y :: .int x :: r => if len = 3 then (jtgt pc off).map (fun t => (jbr2 c x y t (pc + 3), r)) else none
    | _ => none
  | .if_acmp c off => match st with
    | .ref y :: .ref x :: r => if len = 3 ∧ (1 ≤ x ∧ x < 11) ∧ (1 ≤ y ∧ y < 11) then (jtgt pc off).map (fun t => (jbrA c x y t (pc + 3), r)) else none
    | _ => none
  | .ifnull off => match st with
    | .null :: r => if len = 3 then (jtgt pc off).map (fun t => (t, r)) else none
    | .ref _ :: r => if len = 3 then some (pc + 3, r) else none
    | _ => none
  | .ifnonnull off => match st with
    | .null :: r => if len = 3 then some (pc + 3, r) else none
    | .ref _ :: r => if len = 3 then (jtgt pc off).map (fun t => (t, r)) else none
    | _ => none
  | .tableswitch d lo hi offs => match st with
    | .int x :: r => (jsw pc d lo hi offs x).map (fun t => (t, r))
    | _ => none
  | .lookupswitch d ps => match st with
    | .int x :: r => if (ps.toList.zip (ps.toList.drop 1)).all (fun (a, next) => a.1 < next.1) = true then (jtgt pc (Op.lookupswitch.offset ps.toList d x.toInt)).map (fun t => (t, r)) else none
    | _ => none
  | _ => none
section JW4
variable {p : Program} {l : Launch} {e : Env} {R : Room} {s : State} {m : MethodId} {args : Array Value} {below : List Frame} {meth : Method} {c : Code} {H : Heap} {locs : List Loc} {cells slots : Nat} {Q : State → Prop} {cc : ByteArray} {pc : Nat} {ls : Array Slot} {α : Nat → Nat}
set_option maxHeartbeats 1000000 in
theorem jjmp_ok (hx : p.tables.exec = Jvm.exec) (hb : c.code = cc) {i : Instr} {st st' : List Value} {len pc' : Nat} (hα : ∀ x y, jcmp x → jcmp y → α x = α y → x = y) (h : jjmp i pc len st = some (pc', st')) (hd : decode cc pc = .ok (i, len)) (k : W p l e R s m args below meth c H locs cells slots Q (F0 m (pc') ls (st'.map (jx_V α)))) : W p l e R s m args below meth c H locs cells slots Q (F0 m (pc) ls (st.map (jx_V α))) := by
  unfold jjmp at h
  split at h
  · split at h
    · rename_i hl3; subst hl3; obtain ⟨t, ht, e1⟩ := Option.map_eq_some_iff.mp h; cases e1; exact lv_goto hx hb hd (jtgt_eq ht) k
    · cases h
  · split at h
    · split at h
      · rename_i hl3; subst hl3; obtain ⟨t, ht, e1⟩ := Option.map_eq_some_iff.mp h; cases e1
        revert hd k
        cases ‹Jvm.ClassFile.Cond› <;> intro hd k <;> unfold jbr1 at k <;> dsimp only at k
        · exact lv_if_eq hx hb hd (jtgt_eq ht) (fun q => by rw [if_pos q] at k; exact k) (fun q => by rw [if_neg q] at k; exact k)
        · exact lv_if_ne hx hb hd (jtgt_eq ht) (fun q => by rw [if_pos q] at k; exact k) (fun q => by rw [if_neg (not_not_intro q)] at k; exact k)
        · exact lv_if_lt hx hb hd (jtgt_eq ht) (fun q => by rw [if_pos q] at k; exact k) (fun q => by rw [if_neg q] at k; exact k)
        · exact lv_if_ge hx hb hd (jtgt_eq ht) (fun q => by rw [if_pos q] at k; exact k) (fun q => by rw [if_neg q] at k; exact k)
        · exact lv_if_gt hx hb hd (jtgt_eq ht) (fun q => by rw [if_pos q] at k; exact k) (fun q => by rw [if_neg q] at k; exact k)
        · exact lv_if_le hx hb hd (jtgt_eq ht) (fun q => by rw [if_pos q] at k; exact k) (fun q => by rw [if_neg q] at k; exact k)
      · cases h
    · cases h
  · split at h
    · split at h
      · rename_i hl3; subst hl3; obtain ⟨t, ht, e1⟩ := Option.map_eq_some_iff.mp h; cases e1
        revert hd k
        cases ‹Jvm.ClassFile.Cond› <;> intro hd k <;> unfold jbr2 at k <;> dsimp only at k
        · exact lv_icmp_eq hx hb hd (jtgt_eq ht) (fun q => by rw [if_pos q] at k; exact k) (fun q => by rw [if_neg q] at k; exact k)
        · exact lv_icmp_ne hx hb hd (jtgt_eq ht) (fun q => by rw [if_pos q] at k; exact k) (fun q => by rw [if_neg (not_not_intro q)] at k; exact k)
        · exact lv_icmp_lt hx hb hd (jtgt_eq ht) (fun q => by rw [if_pos q] at k; exact k) (fun q => by rw [if_neg q] at k; exact k)
        · exact lv_icmp_ge hx hb hd (jtgt_eq ht) (fun q => by rw [if_pos q] at k; exact k) (fun q => by rw [if_neg q] at k; exact k)
        · exact lv_icmp_gt hx hb hd (jtgt_eq ht) (fun q => by rw [if_pos q] at k; exact k) (fun q => by rw [if_neg q] at k; exact k)
        · exact lv_icmp_le hx hb hd (jtgt_eq ht) (fun q => by rw [if_pos q] at k; exact k) (fun q => by rw [if_neg q] at k; exact k)
      · cases h
    · cases h
  · split at h
    · split at h
      · rename_i hl3; obtain ⟨hl3, hc1, hc2⟩ := hl3; subst hl3; obtain ⟨t, ht, e1⟩ := Option.map_eq_some_iff.mp h; cases e1
        revert hd k
        cases ‹ACond› <;> intro hd k <;> unfold jbrA at k <;> dsimp only at k
        · exact lv_acmp_eq (rx := some (α _)) (ry := some (α _)) hx hb hd (jtgt_eq ht) (fun q => by rw [if_pos (hα _ _ hc1 hc2 (Option.some.inj q))] at k; exact k) (fun q => by rw [if_neg (fun z => q (by rw [z]))] at k; exact k)
        · exact lv_acmp_ne (rx := some (α _)) (ry := some (α _)) hx hb hd (jtgt_eq ht) (fun q => by rw [if_pos (fun z => q (by rw [z]))] at k; exact k) (fun q => by rw [if_neg (not_not_intro (hα _ _ hc1 hc2 (Option.some.inj q)))] at k; exact k)
      · cases h
    · cases h
  · split at h
    · split at h
      · rename_i hl3; subst hl3; obtain ⟨t, ht, e1⟩ := Option.map_eq_some_iff.mp h; cases e1; exact lv_ifnullN hx hb hd (jtgt_eq ht) k
      · cases h
    · split at h
      · rename_i hl3; subst hl3; cases h; exact lv_ifnull hx hb hd k
      · cases h
    · cases h
  · split at h
    · split at h
      · rename_i hl3; subst hl3; cases h; exact lv_ifnonnullN hx hb hd k
      · cases h
    · split at h
      · rename_i hl3; subst hl3; obtain ⟨t, ht, e1⟩ := Option.map_eq_some_iff.mp h; cases e1; exact lv_ifnonnull hx hb hd (jtgt_eq ht) k
      · cases h
    · cases h
  · split at h
    · obtain ⟨t, ht, e1⟩ := Option.map_eq_some_iff.mp h; cases e1
      unfold jsw at ht
      split at ht
      · rename_i hq; exact lv_tableOut hx hb hd hq (jtgt_eq ht) k
      · rename_i hq; split at ht
        · rename_i off hoff; exact lv_tableIn hx hb hd (fun z => hq (Or.inl z)) (fun z => hq (Or.inr z)) hoff (jtgt_eq ht) k
        · cases ht
    · cases h
  · split at h
    · split at h
      · rename_i hps; obtain ⟨t, ht, e1⟩ := Option.map_eq_some_iff.mp h; cases e1; exact lv_lookup hx hb hd hps rfl (jtgt_eq ht) k
      · cases h
    · cases h
  · cases h
end JW4
