/-! the small machine's run -/
/-- a method: its name, bytes, locals, answer's type, class number, whether it makes an object, its words by place, its handlers (from, to, handler, class numbers caught) -/
abbrev jM : Type := MethodName × ByteArray × Nat × Option FieldType × Nat × Bool × (Nat → Option (Instr × Nat)) × List ((Nat × Nat × Nat × Nat) × List Nat)
/-- a call by class number and pool index: kind (0 on an object, 1 making, 2 static, 3 Object's own making), method, how many arguments with the object, class number of the object -/
abbrev jL : Type := Nat → Nat → Option (Nat × Nat × Nat × Nat)
def jsz : jC → Nat
  | .inl (_, n, _) => n
  | .inr (_, fs) => fs.length
def jtot (h : jH) : Nat := (h.map jsz).sum
def jstep (G : jG) (K cn nL : Nat) (ini : Bool) (i : Instr) (len pc : Nat) (lv : List (Nat × Value)) (st : List Value) (h : jH) : Option jS :=
  match jstk i st with
  | some (st', k) => if k = len then some (pc + len, lv, st', h) else none
  | none => match jloc i nL lv st with
    | some (lv', st', k) => if k = len then some (pc + len, lv', st', h) else none
    | none => match jjmp i pc len st with
      | some (pc', st') => some (pc', lv, st', h)
      | none => match jhp G K cn ini i st h with
        | some (st', h', k) => if k = len then some (pc + len, lv, st', h') else none
        | none => none
def jend (ret : Option FieldType) (i : Instr) (len : Nat) (st : List Value) : Option (Option Value) := match i with
  | .ireturn => match st, ret with
    | [.int v], some .int => if len = 1 then some (some (.int v)) else none
    | [.int v], some .boolean => if len = 1 ∧ (v = 0 ∨ v = 1) then some (some (.int v)) else none
    | _, _ => none
  | .lreturn => match st, ret with
    | [.long v], some .long => if len = 1 then some (some (.long v)) else none
    | _, _ => none
  | .areturn => match st, ret with
    | [.ref a], some (.object _) => if len = 1 then some (some (.ref a)) else none
    | [.null], some (.object _) => if len = 1 then some (some .null) else none
    | [.ref a], some (.array _) => if len = 1 then some (some (.ref a)) else none
    | [.null], some (.array _) => if len = 1 then some (some .null) else none
    | _, _ => none
  | .return_ => match st, ret with
    | [], none => if len = 1 then some none else none
    | _, _ => none
  | _ => none
/-- the call that stands here: kind, method, arguments, what stays on the stack -/
def jcall (gM : jL) (K cn : Nat) (i : Instr) (len : Nat) (st : List Value) (h : jH) : Option (Nat × Nat × List Value × List Value) := match i with
  | .invokevirtual idx => match gM cn idx with
    | some (0, z, n, ci) => if len = 3 ∧ n ≤ st.length then match (st.take n).reverse with
      | .ref b :: _ => match h[b]? with
        | some (.inr (cj, _)) => if cj = ci ∧ K ≤ b then some (0, z, (st.take n).reverse, st.drop n) else none
        | _ => none
      | _ => none
      else none
    | _ => none
  | .invokespecial idx => match gM cn idx with
    | some (1, z, n, _) => if len = 3 ∧ n ≤ st.length then match (st.take n).reverse with
      | .ref _ :: _ => some (1, z, (st.take n).reverse, st.drop n)
      | _ => none
      else none
    | some (4, z, n, _) => if len = 3 ∧ n ≤ st.length then match (st.take n).reverse with
      | .ref _ :: _ => some (4, z, (st.take n).reverse, st.drop n)
      | _ => none
      else none
    | some (3, _, _, _) => match st with
      | .ref b :: r => if len = 3 then some (3, 0, [.ref b], r) else none
      | _ => none
    | _ => none
  | .invokestatic idx => match gM cn idx with
    | some (2, z, n, _) => if len = 3 ∧ n ≤ st.length then some (2, z, (st.take n).reverse, st.drop n) else none
    | some (5, _, _, _) => if len = 3 ∧ 5 ≤ st.length then some (5, 0, (st.take 5).reverse, st.drop 5) else none
    | _ => none
  | _ => none
/-- System.arraycopy of ints -/
def jcopy (K : Nat) (as : List Value) (h : jH) : Option jH := match as with
  | [.ref a0, .int sp, .ref a, .int dp, .int n] => match h[a0]?, h[a]? with
    | some (.inl (.int, n0, .inl f)), some (.inl (.int, n1, .inl g)) =>
      if (sp < 0 ∨ dp < 0 ∨ n < 0) ∨ (n0 < sp.toNatClampNeg + n.toNatClampNeg ∨ n1 < dp.toNatClampNeg + n.toNatClampNeg) ∨ a0 < K ∨ a < K then none
      else some (h.set a (.inl (.int, n1, .inl (va_cpy f g sp.toNatClampNeg dp.toNatClampNeg n.toNatClampNeg))))
    | _, _ => none
  | _ => none
def jhand (hs : List ((Nat × Nat × Nat × Nat) × List Nat)) (pc : Nat) (h : jH) (a : Nat) : Option Nat := match h[a]? with
  | some (.inr (ci, _)) => if a < 24 then none else match hs.find? (fun q => decide (q.1.1 ≤ pc ∧ pc < q.1.2.1 ∧ ci ∈ q.2)) with
    | some q => some q.1.2.2.1
    | none => none
  | _ => none
/-- the tables: fields and constants, calls, methods, exceptions (class number, entries of 'new' and of the making) -/
abbrev jT : Type := jG × jL × (Nat → Option jM) × (Nat → Nat → Nat → Option Nat)
/-- 'throw new X(text)' stands here: X's class number -/
def jthr (T : jT) (K : Nat) (M : jM) (i : Instr) (len pc : Nat) (st : List Value) : Option Nat := match i with
  | .new idx => match M.2.2.2.2.2.2.1 (pc + 3), M.2.2.2.2.2.2.1 (pc + 4), M.2.2.2.2.2.2.1 (pc + 6), M.2.2.2.2.2.2.1 (pc + 9), M.2.2.2.2.2.2.2 with
    | some (.dup, 1), some (.ldc k, 2), some (.invokespecial ic, 3), some (.athrow, 1), [] => match T.1.2.2.2 M.2.2.2.2.1 k with
      | some (.ref _) => if len = 3 ∧ (st.map fun v => v.category).sum ≤ 8 then T.2.2.2 M.2.2.2.2.1 idx ic else none
      | _ => none
    | _, _, _, _, _ => none
  | _ => none
abbrev jO : Type := (Option Value ⊕ Nat) × jH
def jbody (T : jT) (K : Nat) (rec : Nat → jM → jS → Option jO) (d : Nat) (M : jM) (s : jS) : Option jO :=
  match M.2.2.2.2.2.2.1 s.1 with
  | none => none
  | some (i, len) =>
    match jstep T.1 K M.2.2.2.2.1 M.2.2.1 M.2.2.2.2.2.1 i len s.1 s.2.1 s.2.2.1 s.2.2.2 with
    | some s' => rec d M s'
    | none =>
      match jend M.2.2.2.1 i len s.2.2.1 with
      | some v => some (.inl v, s.2.2.2)
      | none =>
        match jcall T.2.1 K M.2.2.2.2.1 i len s.2.2.1 s.2.2.2 with
        | some (kd, z, as, r) =>
          match d with
          | 0 => none
          | d' + 1 =>
            if 8 < (r.map fun v => v.category).sum then none else
            if kd = 3 then rec (d' + 1) M (s.1 + 3, s.2.1, r, s.2.2.2) else
            if kd = 5 then match jcopy K as s.2.2.2 with
              | some h' => rec (d' + 1) M (s.1 + 3, s.2.1, r, h')
              | none => none
            else
            match T.2.2.1 z with
            | none => none
            | some Z =>
              if Z.2.2.1 < (lg_sl as).length then none else
              match rec d' Z (0, lv_args 0 as, [], s.2.2.2) with
              | some (.inl v, h') => rec (d' + 1) M (s.1 + 3, s.2.1, v.toList ++ r, h')
              | some (.inr a, h') => match M.2.2.2.2.2.2.2 with
                | [] => some (.inr a, h')
                | b :: hs => match jhand (b :: hs) s.1 h' a with
                  | some q => rec (d' + 1) M (q, s.2.1, [.ref a], h')
                  | none => none
              | none => none
        | none => match jthr T K M i len s.1 s.2.2.1 with
          | some ci => if d < 8 then none else some (.inr s.2.2.2.length, s.2.2.2 ++ [.inr (ci, [.null, .null, .null, .null, .null, .null])])
          | none => none
def jrun (T : jT) (K : Nat) : Nat → Nat → jM → jS → Option jO
  | 0 => fun _ _ _ => none
  | n + 1 => jbody T K (jrun T K n)
theorem jbody_mono {T : jT} {K : Nat} {f g : Nat → jM → jS → Option jO} (hfg : ∀ d M s r, f d M s = some r → g d M s = some r) {d : Nat} {M : jM} {s : jS} {r : jO} (h : jbody T K f d M s = some r) : jbody T K g d M s = some r := by
  unfold jbody at h ⊢
  cases h1 : M.2.2.2.2.2.2.1 s.1 with
  | none => rw [h1] at h; cases h
  | some q =>
    obtain ⟨i, len⟩ := q
    simp only [h1] at h ⊢
    cases h2 : jstep T.1 K M.2.2.2.2.1 M.2.2.1 M.2.2.2.2.2.1 i len s.1 s.2.1 s.2.2.1 s.2.2.2 with
    | some s' => simp only [h2] at h ⊢; exact hfg _ _ _ _ h
    | none =>
      simp only [h2] at h ⊢
      cases h3 : jend M.2.2.2.1 i len s.2.2.1 with
      | some v => simp only [h3] at h ⊢; exact h
      | none =>
        simp only [h3] at h ⊢
        cases h4 : jcall T.2.1 K M.2.2.2.2.1 i len s.2.2.1 s.2.2.2 with
        | some q =>
          obtain ⟨kd, z, as, r0⟩ := q
          simp only [h4] at h ⊢
          cases d with
          | zero => cases h
          | succ d' =>
            by_cases h5 : 8 < (r0.map fun v => v.category).sum
            · simp only [h5, if_true] at h; cases h
            · simp only [h5, if_false] at h ⊢
              by_cases h6 : kd = 3
              · simp only [h6, if_true] at h ⊢; exact hfg _ _ _ _ h
              · simp only [h6, if_false] at h ⊢
                by_cases h66 : kd = 5
                · simp only [h66, if_true] at h ⊢
                  cases h67 : jcopy K as s.2.2.2 with
                  | none => simp only [h67] at h; cases h
                  | some h' => simp only [h67] at h ⊢; exact hfg _ _ _ _ h
                simp only [h66, if_false] at h ⊢
                cases h7 : T.2.2.1 z with
                | none => simp only [h7] at h; cases h
                | some Z =>
                  simp only [h7] at h ⊢
                  by_cases h8 : Z.2.2.1 < (lg_sl as).length
                  · simp only [h8, if_true] at h; cases h
                  · simp only [h8, if_false] at h ⊢
                    cases h9 : f d' Z (0, lv_args 0 as, [], s.2.2.2) with
                    | none => simp only [h9] at h; cases h
                    | some q9 =>
                      simp only [h9] at h
                      rw [hfg _ _ _ _ h9]
                      obtain ⟨o, h'⟩ := q9
                      cases o with
                      | inl v => exact hfg _ _ _ _ h
                      | inr a =>
                        simp only at h ⊢
                        cases h11 : M.2.2.2.2.2.2.2 with
                        | nil => simp only [h11] at h ⊢; exact h
                        | cons b hs =>
                          simp only [h11] at h ⊢
                          cases h10 : jhand (b :: hs) s.1 h' a with
                          | some q => simp only [h10] at h ⊢; exact hfg _ _ _ _ h
                          | none => simp only [h10] at h; cases h
        | none =>
          simp only [h4] at h ⊢
          exact h
theorem jrun_mono {T : jT} {K : Nat} : ∀ (n : Nat) {d : Nat} {M : jM} {s : jS} {r : jO}, jrun T K n d M s = some r → jrun T K (n + 1) d M s = some r
  | 0, _, _, _, _, h => by cases h
  | n + 1, _, _, _, _, h => jbody_mono (fun _ _ _ _ h => jrun_mono n h) h
theorem jrun_le {T : jT} {K n : Nat} (k : Nat) {d : Nat} {M : jM} {s : jS} {r : jO} (h : jrun T K n d M s = some r) : jrun T K (n + k) d M s = some r := by
  induction k with
  | zero => exact h
  | succ k ih => exact jrun_mono _ ih
/-- the method comes to this end -/
def jEv (T : jT) (K d : Nat) (M : jM) (s : jS) (r : jO) : Prop := ∃ n, jrun T K n d M s = some r
/-- k plain steps -/
def jit (T : jT) (K : Nat) (M : jM) : Nat → jS → Option jS
  | 0, s => some s
  | k + 1, s => match M.2.2.2.2.2.2.1 s.1 with
    | none => none
    | some (i, len) => match jstep T.1 K M.2.2.2.2.1 M.2.2.1 M.2.2.2.2.2.1 i len s.1 s.2.1 s.2.2.1 s.2.2.2 with
      | some s' => jit T K M k s'
      | none => none
theorem jEv.steps {T : jT} {K d : Nat} {M : jM} {r : jO} : ∀ (k : Nat) {s s' : jS}, jit T K M k s = some s' → jEv T K d M s' r → jEv T K d M s r
  | 0, _, _, h, kk => by cases h; exact kk
  | k + 1, s, s', h, kk => by
    unfold jit at h
    split at h
    · cases h
    · rename_i i len hf
      split at h
      · rename_i s1 hs
        obtain ⟨n, hn⟩ := jEv.steps k h kk
        refine ⟨n + 1, ?_⟩
        show jbody T K (jrun T K n) d M s = some r
        unfold jbody
        simp only [hf, hs]
        exact hn
      · cases h
/-- what stands here when it is no plain step: the end (.inl), or a call -/
def jat (T : jT) (K : Nat) (M : jM) (s : jS) : Option (Option Value ⊕ (Nat × Nat × List Value × List Value)) := match M.2.2.2.2.2.2.1 s.1 with
  | none => none
  | some (i, len) => match jstep T.1 K M.2.2.2.2.1 M.2.2.1 M.2.2.2.2.2.1 i len s.1 s.2.1 s.2.2.1 s.2.2.2 with
    | some _ => none
    | none => match jend M.2.2.2.1 i len s.2.2.1 with
      | some v => some (.inl v)
      | none => match jcall T.2.1 K M.2.2.2.2.1 i len s.2.2.1 s.2.2.2 with
        | some (kd, z, as, r) => if 8 < (r.map fun v => v.category).sum then none else some (.inr (kd, z, as, r))
        | none => none
theorem jEv.ret {T : jT} {K d : Nat} {M : jM} {s : jS} {v : Option Value} (h : jat T K M s = some (.inl v)) : jEv T K d M s (.inl v, s.2.2.2) := by
  refine ⟨1, ?_⟩
  show jbody T K (jrun T K 0) d M s = _
  unfold jat at h
  unfold jbody
  split at h
  · cases h
  · rename_i i len hf
    split at h
    · cases h
    · rename_i hs
      split at h
      · rename_i w hw
        cases h
        simp only [hf, hs, hw]
      · split at h
        · split at h <;> cases h
        · cases h
theorem jEv.call {T : jT} {K d : Nat} {M Z : jM} {s : jS} {kd z : Nat} {as r0 : List Value} {v : Option Value} {h' : jH} {r : jO} (h : jat T K M s = some (.inr (kd, z, as, r0))) (hk : kd ≠ 3) (hk5 : kd ≠ 5) (hz : T.2.2.1 z = some Z) (hl : (lg_sl as).length ≤ Z.2.2.1)
    (hc : jEv T K d Z (0, lv_args 0 as, [], s.2.2.2) (.inl v, h')) (kk : jEv T K (d + 1) M (s.1 + 3, s.2.1, v.toList ++ r0, h') r) : jEv T K (d + 1) M s r := by
  obtain ⟨n1, hn1⟩ := hc
  obtain ⟨n2, hn2⟩ := kk
  refine ⟨n1 + n2 + 1, ?_⟩
  show jbody T K (jrun T K (n1 + n2)) (d + 1) M s = _
  have e1 := jrun_le n2 hn1
  have e2 : jrun T K (n1 + n2) (d + 1) M (s.1 + 3, s.2.1, v.toList ++ r0, h') = some r := by
    rw [Nat.add_comm]
    exact jrun_le n1 hn2
  unfold jat at h
  unfold jbody
  split at h
  · cases h
  · rename_i i len hf
    split at h
    · cases h
    · rename_i hs
      split at h
      · cases h
      · rename_i hw
        split at h
        · rename_i kd' z' as' r' hcl
          split at h
          · cases h
          · rename_i h8
            cases h
            simp only [hf, hs, hw, hcl, if_neg h8, if_neg hk, if_neg hk5, hz, if_neg (Nat.not_lt.mpr hl), e1]
            exact e2
        · cases h
theorem jEv.obj {T : jT} {K d : Nat} {M : jM} {s : jS} {z : Nat} {as r0 : List Value} {r : jO} (h : jat T K M s = some (.inr (3, z, as, r0)))
    (kk : jEv T K (d + 1) M (s.1 + 3, s.2.1, r0, s.2.2.2) r) : jEv T K (d + 1) M s r := by
  obtain ⟨n2, hn2⟩ := kk
  refine ⟨n2 + 1, ?_⟩
  show jbody T K (jrun T K n2) (d + 1) M s = _
  unfold jat at h
  unfold jbody
  split at h
  · cases h
  · rename_i i len hf
    split at h
    · cases h
    · rename_i hs
      split at h
      · cases h
      · rename_i hw
        split at h
        · rename_i kd' z' as' r' hcl
          split at h
          · cases h
          · rename_i h8
            cases h
            simp only [hf, hs, hw, hcl, if_neg h8, if_true]
            exact hn2
        · cases h
