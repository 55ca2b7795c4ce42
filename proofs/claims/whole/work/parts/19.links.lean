/-! what is kept through the whole run, and the tables' meaning -/
def jNestW : Jvm.Cond → Bool
  | .fieldLinkNest .. => true
  | .methodLinkNest .. => true
  | _ => false
def jEx : List String := ["java/lang/IllegalArgumentException", "java/lang/IllegalStateException", "java/lang/UnsupportedOperationException", "java/util/NoSuchElementException"]
def jNC (X Y : String) (U : State) : Prop := ∃ cX cY, U.vm.findClass X = some cX ∧ U.vm.findClass Y = some cY ∧ U.vm.assignable cX cY = false
theorem jNC.of {X Y : String} {U : State} {args : Array Value} (h : (Jvm.Cond.not (.castable X Y)).before args U = true) : jNC X Y U := by
  have hv := Cond.holds_not_iff.mp h
  simp only [Cond.value] at hv
  split at hv
  · rename_i a b h1 h2
    exact ⟨a, b, h1, h2, Option.some.inj hv⟩
  · cases hv
theorem jNC.word {X Y : String} {U : State} {args : Array Value} (h : jNC X Y U) : (Jvm.Cond.not (.castable X Y)).before args U = true := by
  obtain ⟨a, b, h1, h2, h3⟩ := h
  refine Cond.holds_not_iff.mpr ?_
  simp only [Cond.value, h1, h2, h3]
theorem jNC.moved {X Y : String} {u U : State} (hvm : u.vm.Alike U.vm) (h : jNC X Y u) : jNC X Y U := by
  obtain ⟨a, b, h1, h2, h3⟩ := h
  exact ⟨a, b, by rw [hvm.findClass]; exact h1, by rw [hvm.findClass]; exact h2, by rw [hvm.assignable]; exact h3⟩
def jLS (C n d : String) (sz : Nat) (U : State) : Prop := ∃ (c : ClassId) (k : Class) (i : Nat) (f : Field) (a : Nat) (cell : Cell), U.vm.findClass C = some c ∧ U.fieldFound? C n d = some (c, k, i, f) ∧ f.isStatic = true ∧ k.statics = some a ∧ U.heap[a]? = some cell ∧ cell.vm.isStatics = true ∧ cell.cls = c ∧ f.slot < cell.slots.size ∧ k.staticTypes[f.slot]? = some f.type ∧ a < sz
theorem jLS.word {C n d : String} {sz : Nat} {U : State} {args : Array Value} (h : jLS C n d sz U) : (Jvm.Cond.laysStatic C n d).before args U = true := by
  obtain ⟨c, k, i, f, a, cell, h1, h2, h3, h4, h5, h6, h7, h8, h9, -⟩ := h
  simp [Cond.before, Cond.holds, Cond.value, h1, h2, h3, h4, h5, h6, h7, h8, h9]
theorem jLS.of {C n d : String} {U : State} {args : Array Value} (h : (Jvm.Cond.laysStatic C n d).before args U = true) : jLS C n d U.heap.size U := by
  obtain ⟨c, k, i, f, a, cell, h1, h2, h3, h4, h5, h6, h7, h8, h9⟩ := Cond.laysStatic_spec h
  exact ⟨c, k, i, f, a, cell, h1, h2, h3, h4, h5, h6, h7, h8, h9, (Array.getElem?_eq_some_iff.mp h5).1⟩
theorem jLS.moved {C n d : String} {sz : Nat} {u U : State} (hvm : u.vm.Alike U.vm) (hq : ∀ q : Nat, q < sz → U.heap[q]? = u.heap[q]?) (h : jLS C n d sz u) : jLS C n d sz U := by
  obtain ⟨c, k, i, f, a, cell, h1, h2, h3, h4, h5, h6, h7, h8, h9, h10⟩ := h
  obtain ⟨k', hi', he⟩ := State.fieldFound?_setVm hvm h2
  exact ⟨c, k', i, f, a, cell, by rw [hvm.findClass]; exact h1, hi', h3, by rw [he]; exact h4, by rw [hq a h10]; exact h5, h6, h7, h8, by rw [he]; exact h9, h10⟩
def jSP (b L : Nat) (xs : Nat → Int32) (ad st : Nat → Nat) (sz : Nat) (U : State) : Prop :=
  va_X b L xs U U.heap ∧ va_En "GoalDesk$Outcome" "LGoalDesk$Outcome;" jnm [] ad (fun q => sz ≤ q) U U.heap ∧
  (∀ i, i < jstr.length → vk_R (jstr.getD i ("", 0, "")).1 (jstr.getD i ("", 0, "")).2.1 (jstr.getD i ("", 0, "")).2.2 (st i) U) ∧
  (∀ w ∈ lw_tbl, jNestW w = true → va_Nw w U) ∧ (∀ w ∈ lw_tbl, (w.onTables && w.keepsFace) = true → va_Nw w U) ∧
  va_Zq "java/lang/Throwable" "UNASSIGNED_STACK" "[Ljava/lang/StackTraceElement;" (fun q => sz ≤ q) U U.heap ∧ va_Zq "java/lang/Throwable" "SUPPRESSED_SENTINEL" "Ljava/util/List;" (fun q => sz ≤ q) U U.heap ∧
  jLS "java/lang/Throwable" "UNASSIGNED_STACK" "[Ljava/lang/StackTraceElement;" sz U ∧ jLS "java/lang/Throwable" "SUPPRESSED_SENTINEL" "Ljava/util/List;" sz U ∧
  (∀ i, i < 4 → ∀ j, j < 4 → i ≠ j → jNC (jEx.getD i "") (jEx.getD j "") U)
theorem jSP_moved {b L : Nat} {xs : Nat → Int32} {ad st : Nat → Nat} {sz : Nat} (hb : b < sz) {u U : State} (hW : u.WarmedH U.vm) (hq : ∀ q : Nat, q < sz → U.heap[q]? = u.heap[q]?) (h : jSP b L xs ad st sz u) : jSP b L xs ad st sz U := by
  obtain ⟨h1, h2, h3, h4, h5, h6, h7, h8, h11, h12⟩ := h
  have hk : ∀ a : Nat, a < u.heap.size → ¬ sz ≤ a → U.heap[a]? = u.heap[a]? := fun a _ h => hq a (by omega)
  refine ⟨(h1.kept (hq b hb)).moved hW.alike, (h2.kept hk).moved hW.alike, fun i hi => (h3 i hi).warm hW, fun w hw hn => ?_, fun w hw hn => ?_, (h6.kept hk).moved hW.alike, (h7.kept hk).moved hW.alike, h8.moved hW.alike hq, h11.moved hW.alike hq, fun i hi j hj hij => (h12 i hi j hj hij).moved hW.alike⟩
  · have h9 := h4 w hw hn
    cases w <;> first | (cases hn; done) | exact va_Nw.warmF hW h9 | exact va_Nw.warmM hW h9
  · have h9 := h5 w hw hn
    rw [Bool.and_eq_true] at hn
    have h10 : w.before #[] (u.setVm U.vm) = true := Cond.before_shiftedFace (State.Shifted.of_warmed hW) w hn.2 h9
    exact va_Nw.same (u := u.setVm U.vm) hn.1 rfl h10
def jal (b : Nat) (ad st : Nat → Nat) (sz : Nat) (r : Nat) : Nat := if r = 0 then b else if r < 11 then ad (r - 1) else if r < 24 then st (r - 11) else sz + (r - 24)
theorem jal_hi (b : Nat) (ad st : Nat → Nat) (sz : Nat) (j : Nat) : jal b ad st sz (24 + j) = sz + j := by
  unfold jal
  rw [if_neg (by omega), if_neg (by omega), if_neg (by omega)]
  omega
section JLinks
variable {b L : Nat} {xs : Nat → Int32} {ad st : Nat → Nat} {sz : Nat}
theorem jkey {c i : Nat} (h : Nat.blt i 1000 = true) : (c * 1000 + i) / 1000 = c ∧ (c * 1000 + i) % 1000 = i := by
  have : i < 1000 := by simpa using h
  omega
theorem jokF {cn idx ci k kd : Nat} (h : jT0.1.1 cn idx = some (ci, k, kd)) : jFok (jSP b L xs ad st sz) TB0 cl0 (jown cn) idx ci k kd := by
  have h : (bif Nat.blt idx 1000 then (jlk2 jd_f (cn * 1000 + idx)).map (fun q => q.1) else none) = some (ci, k, kd) := h
  cases hi : Nat.blt idx 1000 with
  | false => rw [hi] at h; cases h
  | true =>
    rw [hi] at h
    obtain ⟨q, hq, he⟩ := Option.map_eq_some_iff.mp h
    obtain ⟨v, p⟩ := q
    dsimp only at he
    subst he
    have hc := List.all_eq_true.mp jcF_ok _ (jlk2_mem hq)
    obtain ⟨e1, e2⟩ := jkey (c := cn) hi
    unfold jcF at hc
    dsimp only at hc
    rw [e1, e2] at hc
    cases hcl : cl0[ci]? with
    | none => rw [hcl] at hc; cases hc
    | some q =>
      obtain ⟨C, T, N⟩ := q
      rw [hcl] at hc
      dsimp only at hc
      simp only [Bool.and_eq_true, Bool.or_eq_true, decide_eq_true_eq] at hc
      obtain ⟨⟨⟨h1, h2⟩, h3⟩, h4⟩ := hc
      obtain ⟨k1, k2, k3⟩ := jcls hcl
      have hty : ∀ d, parseFieldDescriptor (T k).2.2.1 = some d → jty T k = d := fun d hd => by
        unfold jty
        rw [hd]
        rfl
      refine ⟨C, T, N, jty T, hcl, h1, k1, k2, k3, ?_, ?_, ?_, ?_, ?_, ?_, ?_⟩
      · rcases h2 with h2 | ⟨h2, h5⟩
        · exact Or.inl (jIn_ok h2)
        · exact Or.inr ⟨h2, "GoalDesk", fun s hs => hs.2.2.2.1 _ (jw_mem h5) rfl⟩
      · intro hk
        rw [if_pos hk] at h3
        simpa using h3
      · intro hk
        rw [if_neg hk] at h3
        simpa using h3
      · intro hk
        unfold jkind at h4
        rw [hk] at h4
        split at h4 <;> first | (cases h4; done) | exact hty _ (by assumption)
      · intro hk
        unfold jkind at h4
        rw [hk] at h4
        split at h4 <;> first | (cases h4; done) | exact Or.inl ⟨_, hty _ (by assumption)⟩ | exact Or.inr ⟨_, hty _ (by assumption)⟩
      · intro hk
        unfold jkind at h4
        rw [hk] at h4
        split at h4 <;> first | (cases h4; done) | exact hty _ (by assumption)
      · intro hk
        unfold jkind at h4
        rw [hk] at h4
        split at h4 <;> first | (cases h4; done) | exact hty _ (by assumption)
theorem jokN {cn idx ci : Nat} {fs : List Value} (h : jT0.1.2.1 cn idx = some (ci, fs)) : jNok TB0 cl0 (jown cn) idx ci fs := by
  have h : (bif Nat.blt idx 1000 then (jlk2 jd_n (cn * 1000 + idx)).map (fun q => q.1) else none) = some (ci, fs) := h
  cases hi : Nat.blt idx 1000 with
  | false => rw [hi] at h; cases h
  | true =>
    rw [hi] at h
    obtain ⟨q, hq, he⟩ := Option.map_eq_some_iff.mp h
    obtain ⟨v, p⟩ := q
    dsimp only at he
    subst he
    have hc := List.all_eq_true.mp jcN_ok _ (jlk2_mem hq)
    obtain ⟨e1, e2⟩ := jkey (c := cn) hi
    unfold jcN at hc
    dsimp only at hc
    rw [e1, e2] at hc
    cases hcl : cl0[ci]? with
    | none => rw [hcl] at hc; cases hc
    | some q =>
      obtain ⟨C, T, N⟩ := q
      rw [hcl] at hc
      dsimp only at hc
      simp only [Bool.and_eq_true, decide_eq_true_eq] at hc
      obtain ⟨⟨⟨⟨⟨h1, h2⟩, h3⟩, h4⟩, h5⟩, h6⟩ := hc
      obtain ⟨k1, k2, k3⟩ := jcls hcl
      refine ⟨C, T, N, jty T, hcl, h1, k1, k2, jIn_ok h2, jIn_ok h3, jIn_ok h4, fun j hj => ?_, fun v hv a e => ?_⟩
      · have := List.all_eq_true.mp h5 j (List.mem_range.mpr hj)
        simpa using this
      · have := List.all_eq_true.mp h6 v hv
        rw [e] at this
        cases this
theorem jokS {cn idx : Nat} {v : Value} (h : jT0.1.2.2.1 cn idx = some v) (s : State) (hs : jSP b L xs ad st sz s) : ∃ C n d, va_Z C n d (jx_V (jal b ad st sz) v) (fun q => sz ≤ q) s s.heap ∧ Jvm.Cond.fieldLink (jown cn) idx C n d ∈ TB0 := by
  have h : (bif Nat.blt idx 1000 then (jlk2 jd_s (cn * 1000 + idx)).map (fun q => Value.ref q.1) else none) = some v := h
  cases hi : Nat.blt idx 1000 with
  | false => rw [hi] at h; cases h
  | true =>
    rw [hi] at h
    obtain ⟨q, hq, he⟩ := Option.map_eq_some_iff.mp h
    obtain ⟨a, p⟩ := q
    dsimp only at he
    subst he
    have hc := List.all_eq_true.mp jcS_ok _ (jlk2_mem hq)
    obtain ⟨e1, e2⟩ := jkey (c := cn) hi
    unfold jcS at hc
    dsimp only at hc
    rw [e1, e2] at hc
    simp only [Bool.and_eq_true, decide_eq_true_eq] at hc
    obtain ⟨⟨h1, h2⟩, h3⟩ := hc
    refine ⟨_, _, _, ?_, jIn_ok h3⟩
    have h4 := (hs.2.1.1 (a - 1) (by show a - 1 < 10; omega)).1
    have e : jal b ad st sz a = ad (a - 1) := by
      unfold jal
      rw [if_neg (by omega), if_pos (by omega)]
    show va_Z _ _ _ (.ref (jal b ad st sz a)) _ _ _
    rw [e]
    exact h4
theorem jsub11 {a : Nat} (h1 : 11 ≤ a) (h2 : 24 > a) : a - 11 < 13 := by omega
theorem jokC {cn idx : Nat} {v : Value} (h : jT0.1.2.2.2 cn idx = some v) : (∃ x, v = .int x ∧ Jvm.Cond.constant (jown cn) idx x ∈ TB0) ∨ (∃ x, v = .long x ∧ Jvm.Cond.constantLong (jown cn) idx x ∈ TB0) ∨ ∃ a tx, v = .ref a ∧ ∀ s, jSP b L xs ad st sz s → vk_R (jown cn) idx tx (jal b ad st sz a) s := by
  have h : (bif Nat.blt idx 1000 then (jlk2 jd_c (cn * 1000 + idx)).map (fun q => q.1) else none) = some v := h
  cases hi : Nat.blt idx 1000 with
  | false => rw [hi] at h; cases h
  | true =>
    rw [hi] at h
    obtain ⟨q, hq, he⟩ := Option.map_eq_some_iff.mp h
    obtain ⟨w, p⟩ := q
    dsimp only at he
    subst he
    have hc := List.all_eq_true.mp jcC2_ok _ (jlk2_mem hq)
    obtain ⟨e1, e2⟩ := jkey (c := cn) hi
    unfold jcC2 at hc
    dsimp only at hc
    rw [e1, e2] at hc
    cases w with
    | int x => exact Or.inl ⟨x, rfl, jIn_ok hc⟩
    | long x => exact Or.inr (Or.inl ⟨x, rfl, jIn_ok hc⟩)
    | ref a =>
      simp only [Bool.and_eq_true, decide_eq_true_eq] at hc
      obtain ⟨⟨⟨h1, h2⟩, h3⟩, h4⟩ := hc
      have h1 : (11 : Nat) ≤ a := h1
      have h2 : (24 : Nat) > a := h2
      refine Or.inr (Or.inr ⟨a, (jstr.getD (a - 11) ("", 0, "")).2.2, rfl, fun s hs => ?_⟩)
      have h5 := hs.2.2.1 (a - 11) (jsub11 h1 h2)
      have e : jal b ad st sz a = st (a - 11) := by
        unfold jal
        rw [if_neg (by omega), if_neg (by omega), if_pos (by omega)]
      rw [e, ← h3, ← h4]
      exact h5
    | _ => cases hc
theorem jokL {cn idx kd z n ci : Nat} (h : jT0.2.1 cn idx = some (kd, z, n, ci)) : jLok (jSP b L xs ad st sz) TB0 cl0 jT0.2.2.1 (jown cn) idx kd z n ci := by
  have h : (bif Nat.blt idx 1000 then (jlk2 jd_l (cn * 1000 + idx)).map (fun q => q.1) else none) = some (kd, z, n, ci) := h
  cases hi : Nat.blt idx 1000 with
  | false => rw [hi] at h; cases h
  | true =>
    rw [hi] at h
    obtain ⟨q, hq, he⟩ := Option.map_eq_some_iff.mp h
    obtain ⟨w, p⟩ := q
    dsimp only at he
    subst he
    have hc := List.all_eq_true.mp jcL_ok _ (jlk2_mem hq)
    obtain ⟨e1, e2⟩ := jkey (c := cn) hi
    refine ⟨fun hk => ?_, fun hk => ?_, fun hk => ?_, fun hk => ?_, fun hk => ?_, fun hk => ?_⟩
    · subst hk
      have hc : jcL0 (cn * 1000 + idx) p z n ci = true := hc
      unfold jcL0 at hc
      rw [e1, e2] at hc
      split at hc
      · rename_i Z q hZ hcl
        obtain ⟨C, T, N⟩ := q
        simp only [Bool.and_eq_true, decide_eq_true_eq] at hc
        obtain ⟨⟨⟨⟨h1, h2⟩, h3⟩, h4⟩, h5⟩ := hc
        subst h1
        exact ⟨Z, T, N, hZ, hcl, jIn_ok h2, jIn_ok h3, jIn_ok h4, h5⟩
      · cases hc
    · subst hk
      have hc : jcL1 (cn * 1000 + idx) p z n = true := hc
      unfold jcL1 at hc
      rw [e1, e2] at hc
      split at hc
      · rename_i Z hZ
        simp only [Bool.and_eq_true, decide_eq_true_eq] at hc
        obtain ⟨⟨⟨⟨⟨h1, h2⟩, h3⟩, h4⟩, h5⟩, h6⟩ := hc
        exact ⟨Z, hZ, h1, h2, h3, jIn_ok h4, jIn_ok h5, h6⟩
      · cases hc
    · subst hk
      have hc : jcL2 (cn * 1000 + idx) p z n = true := hc
      unfold jcL2 at hc
      rw [e1, e2] at hc
      split at hc
      · rename_i Z hZ
        simp only [Bool.and_eq_true, decide_eq_true_eq] at hc
        obtain ⟨⟨h1, h2⟩, h3⟩ := hc
        exact ⟨Z, hZ, jIn_ok h1, jIn_ok h2, h3⟩
      · cases hc
    · subst hk
      have hc : jIn (p.getD 0 0) (.methodLink (jown ((cn * 1000 + idx) / 1000)) ((cn * 1000 + idx) % 1000) Lib.objectInit) = true := hc
      rw [e1, e2] at hc
      exact ⟨jIn_ok hc, jIn_ok jcO_ok.1, jIn_ok jcO_ok.2.1⟩
    · subst hk
      have hc : jcL4 (cn * 1000 + idx) p z n = true := hc
      unfold jcL4 at hc
      rw [e1, e2] at hc
      split at hc
      · rename_i Z hZ
        simp only [Bool.and_eq_true, decide_eq_true_eq] at hc
        obtain ⟨⟨⟨⟨⟨h1, h2⟩, h3⟩, h4⟩, h5⟩, h6⟩ := hc
        exact ⟨Z, "GoalDesk", hZ, h1, h2, h3, fun s hs => hs.2.2.2.1 _ (jw_mem h4) rfl, jIn_ok h5, h6⟩
      · cases hc
    · subst hk
      have hc : jIn (p.getD 0 0) (.methodLink (jown ((cn * 1000 + idx) / 1000)) ((cn * 1000 + idx) % 1000) arraycopyName) = true := hc
      rw [e1, e2] at hc
      exact ⟨jIn_ok hc, jIn_ok jcO_ok.2.2.1, jIn_ok jcO_ok.2.2.2.1, jIn_ok jcO_ok.2.2.2.2.1⟩
end JLinks
