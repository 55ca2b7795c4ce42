/-! words that read or write the heap -/
/-- tables, by class number and pool index: a field (class number, slot, kind), a class to make (class number, its first fields), a static, a constant -/
abbrev jG : Type := (Nat → Nat → Option (Nat × Nat × Nat)) × (Nat → Nat → Option (Nat × List Value)) × (Nat → Nat → Option Value) × (Nat → Nat → Option Value)
/-- kinds: 0 int, 1 reference, 2 boolean, 3 long -/
def jfit (kd : Nat) (v : Value) : Bool := match kd, v with
  | 0, .int _ => true
  | 1, .ref _ => true
  | 1, .null => true
  | 2, .int x => decide (x = 0) || decide (x = 1)
  | 3, .long _ => true
  | _, _ => false
def jnewa (at' : ArrayType) (N : Nat) : Option jC := match at' with
  | .int => some (.inl (.int, N, .inl (fun _ => 0)))
  | .char => some (.inl (.char, N, .inl (fun _ => 0)))
  | .long => some (.inl (.long, N, .inr (.inl (fun _ => 0))))
  | _ => none
def jatok : FieldType → Bool
  | .int => true
  | .char => true
  | .long => true
  | _ => false
theorem jat_of {ty : FieldType} (h : jatok ty = true) : ∃ (at' : ArrayType) (c : jC), newarray.typeOf at' = ty ∧ jnewa at' 0 = some c := by
  unfold jatok at h
  split at h
  · exact ⟨.int, _, rfl, rfl⟩
  · exact ⟨.char, _, rfl, rfl⟩
  · exact ⟨.long, _, rfl, rfl⟩
  · cases h
def jhp (G : jG) (K cn : Nat) (ini : Bool) (i : Instr) (st : List Value) (h : jH) : Option (List Value × jH × Nat) := match i with
  | .getfield idx => match st with
    | .ref a :: r => match G.1 cn idx with
      | some (ci, k, _) => match h[a]? with
        | some (.inr (cj, fs)) => if cj = ci ∧ K ≤ a then match fs[k]? with
          | some v => some (v :: r, h, 3)
          | none => none
          else none
        | _ => none
      | none => none
    | _ => none
  | .putfield idx => match st with
    | v :: .ref a :: r => match G.1 cn idx with
      | some (ci, k, kd) => match h[a]? with
        | some (.inr (cj, fs)) => if cj = ci ∧ K ≤ a ∧ k < fs.length ∧ jfit (kd % 10) v = true ∧ (kd < 10 ∨ ini = true) then some (r, h.set a (.inr (ci, fs.set k v)), 3) else none
        | _ => none
      | none => none
    | _ => none
  | .getstatic idx => match G.2.2.1 cn idx with
    | some v => some (v :: st, h, 3)
    | none => none
  | .ldc idx => match G.2.2.2 cn idx with
    | some (.int x) => some (.int x :: st, h, 2)
    | some (.ref a) => some (.ref a :: st, h, 2)
    | _ => none
  | .ldc_w idx => match G.2.2.2 cn idx with
    | some (.int x) => some (.int x :: st, h, 3)
    | _ => none
  | .ldc2_w idx => match G.2.2.2 cn idx with
    | some (.long x) => some (.long x :: st, h, 3)
    | _ => none
  | .new idx => match G.2.1 cn idx with
    | some (ci, fs) => some (.ref h.length :: st, h ++ [.inr (ci, fs)], 3)
    | none => none
  | .newarray at' => match st with
    | .int n :: r => if n < 0 ∨ 60000000 < n.toNatClampNeg then none else match jnewa at' n.toNatClampNeg with
      | some c => some (.ref h.length :: r, h ++ [c], 2)
      | none => none
    | _ => none
  | .arraylength => match st with
    | .ref a :: r => match h[a]? with
      | some (.inl (ty, n, _)) => if jatok ty = true then some (.int (Int32.ofNat n) :: r, h, 1) else none
      | _ => none
    | _ => none
  | .iaload => match st with
    | .int j :: .ref a :: r => match h[a]? with
      | some (.inl (.int, n, .inl f)) => if j < 0 ∨ n ≤ j.toNatClampNeg then none else some (.int (f j.toNatClampNeg) :: r, h, 1)
      | _ => none
    | _ => none
  | .caload => match st with
    | .int j :: .ref a :: r => match h[a]? with
      | some (.inl (.char, n, .inl f)) => if j < 0 ∨ n ≤ j.toNatClampNeg then none else some (.int (f j.toNatClampNeg) :: r, h, 1)
      | _ => none
    | _ => none
  | .laload => match st with
    | .int j :: .ref a :: r => match h[a]? with
      | some (.inl (.long, n, .inr (.inl f))) => if j < 0 ∨ n ≤ j.toNatClampNeg then none else some (.long (f j.toNatClampNeg) :: r, h, 1)
      | _ => none
    | _ => none
  | .iastore => match st with
    | .int x :: .int j :: .ref a :: r => match h[a]? with
      | some (.inl (.int, n, .inl f)) => if (j < 0 ∨ n ≤ j.toNatClampNeg) ∨ a < K then none else some (r, h.set a (.inl (.int, n, .inl (upd f j.toNatClampNeg x))), 1)
      | _ => none
    | _ => none
  | .castore => match st with
    | .int x :: .int j :: .ref a :: r => match h[a]? with
      | some (.inl (.char, n, .inl f)) => if (j < 0 ∨ n ≤ j.toNatClampNeg) ∨ a < K then none else some (r, h.set a (.inl (.char, n, .inl (upd f j.toNatClampNeg (vp_nar .char x)))), 1)
      | _ => none
    | _ => none
  | .lastore => match st with
    | .long x :: .int j :: .ref a :: r => match h[a]? with
      | some (.inl (.long, n, .inr (.inl f))) => if (j < 0 ∨ n ≤ j.toNatClampNeg) ∨ a < K then none else some (r, h.set a (.inl (.long, n, .inr (.inl (vp_updL f j.toNatClampNeg x)))), 1)
      | _ => none
    | _ => none
  | _ => none
/-- the heap's list and the machine's heap: the first K entries are what was there before (the script, constants), the rest what has been made, from sz on -/
def jRel (D : va_G) (cl : List vw_C) (α : Nat → Nat) (dA : FieldType → ClassId) (K sz : Nat) (h : jH) (s : State) (H : Heap) (locs : List Loc) : Prop :=
  K ≤ h.length ∧ va_P D cl (jx_ws α dA K h) H ∧ va_S (fun q => sz ≤ q) s.heap H locs
theorem jx_ws_at {α : Nat → Nat} {dA : FieldType → ClassId} {K sz i : Nat} (hα : ∀ j, α (K + j) = sz + j) {h : jH} {q : Nat × va_E} (hq : (jx_ws α dA K h)[i]? = some q) : q.1 = sz + i := by
  unfold jx_ws at hq
  rw [List.getElem?_mapIdx] at hq
  obtain ⟨c, -, e⟩ := Option.map_eq_some_iff.mp hq
  rw [← e]
  exact hα i
theorem jx_D {α : Nat → Nat} {dA : FieldType → ClassId} {K sz : Nat} (hα : ∀ j, α (K + j) = sz + j) (h : jH) : va_D (fun q => sz ≤ q) (jx_ws α dA K h) := by
  refine ⟨fun i j p q hi hj hpq => ?_, fun k q hk => ?_⟩
  · have h1 := jx_ws_at hα hi
    have h2 := jx_ws_at hα hj
    omega
  · have h1 := jx_ws_at hα hk
    show sz ≤ q.1
    omega
theorem jRel.size {D : va_G} {cl : List vw_C} {α : Nat → Nat} {dA : FieldType → ClassId} {K sz : Nat} {h : jH} {s : State} {H : Heap} {locs : List Loc} (hR : jRel D cl α dA K sz h s H locs) (hα : ∀ j, α (K + j) = sz + j) (hs : sz ≤ s.heap.size) (hub : H.size ≤ sz + (h.length - K)) : H.size = sz + (h.length - K) := by
  obtain ⟨hK, hP, hS⟩ := hR
  by_cases hl : h.length = K
  · have := hS.1
    omega
  · obtain ⟨c, hc⟩ : ∃ c, h[h.length - 1]? = some c := ⟨h[h.length - 1]'(by omega), List.getElem?_eq_getElem (by omega)⟩
    have h1 := (hP _ _ (jx_ws_get (α := α) (dA := dA) hc (by omega : K ≤ h.length - 1))).lt
    have h2 : α (h.length - 1) = sz + (h.length - 1 - K) := by rw [← hα]; congr 1; omega
    have h3 : α (h.length - 1) < H.size := h1
    omega
/-- what a class's field link means -/
def jFok (SP : State → Prop) (TB : List Jvm.Cond) (cl : List vw_C) (own : String) (idx ci k kd : Nat) : Prop :=
  ∃ (C : String) (T : u_T) (N : Nat) (ty : Nat → FieldType), cl[ci]? = some (C, T, N) ∧ k < N ∧ (∀ w ∈ u_ws C T N, w ∈ TB) ∧ (∀ j, j < N → parseFieldDescriptor (T j).2.2.1 = some (ty j)) ∧
    (∀ a, a < N → ∀ b, b < N → a ≠ b → (T a).2.1 ≠ (T b).2.1) ∧ (Jvm.Cond.fieldLink own idx (T k).1 (T k).2.1 (T k).2.2.1 ∈ TB ∨ (kd < 10 ∧ ∃ host, ∀ s, SP s → va_Nw (.fieldLinkNest own idx (T k).1 (T k).2.1 (T k).2.2.1 host) s)) ∧
    (kd < 10 → (T k).2.2.2 = false) ∧ (¬ kd < 10 → (T k).2.2.2 = true ∧ (T k).1 = own) ∧
    (kd % 10 = 0 → ty k = .int) ∧ (kd % 10 = 1 → (∃ n, ty k = .object n) ∨ ∃ t, ty k = .array t) ∧ (kd % 10 = 2 → ty k = .boolean) ∧ (kd % 10 = 3 → ty k = .long)
theorem jfit_ok {α : Nat → Nat} {kd : Nat} {v : Value} {ty : FieldType} (h : jfit kd v = true) (h0 : kd = 0 → ty = .int) (h1 : kd = 1 → (∃ n, ty = .object n) ∨ ∃ t, ty = .array t) (h2 : kd = 2 → ty = .boolean) (h3 : kd = 3 → ty = .long) :
    narrow ty (jx_V α v) = jx_V α v ∧ fits ty (jx_V α v) = true := by
  unfold jfit at h
  split at h
  · rw [h0 rfl]; exact ⟨rfl, rfl⟩
  · rcases h1 rfl with ⟨n, e⟩ | ⟨t, e⟩ <;> rw [e] <;> exact ⟨rfl, rfl⟩
  · rcases h1 rfl with ⟨n, e⟩ | ⟨t, e⟩ <;> rw [e] <;> exact ⟨rfl, rfl⟩
  · rw [h2 rfl]
    simp only [Bool.or_eq_true, decide_eq_true_eq] at h
    rcases h with rfl | rfl
    · exact ⟨rfl, rfl⟩
    · exact ⟨rfl, rfl⟩
  · rw [h3 rfl]; exact ⟨rfl, rfl⟩
  · cases h
section JH
variable {p : Program} {l : Launch} {e : Env} {R : Room} {s : State} {m : MethodId} {args : Array Value} {below : List Frame} {meth : Method} {c : Code} {H : Heap} {locs : List Loc} {cells slots : Nat} {Q : State → Prop} {cc : ByteArray} {pc : Nat} {ls : Array Slot}
variable {D : va_G} {cl : List vw_C} {tys : List (ClassId × FieldType)} {α : Nat → Nat} {dA : FieldType → ClassId} {K sz : Nat} {TB : List Jvm.Cond} {own : String} {h : jH} {r : List Value}
theorem W.jsized {g : JFrame} (k : H.size ≤ s.heap.size + cells → W p l e R s m args below meth c H locs cells slots Q g) : W p l e R s m args below meth c H locs cells slots Q g :=
  fun T hT X => k (by rw [← hT]; exact X.heapSize) T hT X
theorem jget_ok (hx : p.tables.exec = Jvm.exec) (hb : c.code = cc) (hts : ∀ w ∈ TB, w.before args s = true) (hown : s.vm.findClass own = some m.cls) (hK : va_K D cl tys s) (hR : jRel D cl α dA K sz h s H locs) {idx ci k kd a : Nat} {fs : List Value} {v : Value}
    {SP : State → Prop} (hSP : SP s) (hF : jFok SP TB cl own idx ci k kd) (ha : h[a]? = some (.inr (ci, fs))) (hKa : K ≤ a) (hv : fs[k]? = some v) (hd : decode cc pc = .ok (.getfield idx, 3)) (kk : W p l e R s m args below meth c H locs cells slots Q (F0 m (pc + 3) ls (jx_V α v :: r))) :
    W p l e R s m args below meth c H locs cells slots Q (F0 m pc ls (.ref (α a) :: r)) := by
  obtain ⟨C, T, N, ty, hc, hk, hin, -, -, hlk, -⟩ := hF
  rcases hlk with hlk | ⟨-, host, hlk⟩
  · exact va_get (D := D) hx hb hts hin hown hK hR.2.1 (a - K) (jx_ws_get ha hKa) hc k hk (hts _ hlk) (fun _ h9 => h9) (by rw [List.getElem?_map, hv]; rfl) hd kk
  · exact va_getN (D := D) hx hb hts hin hown hK hR.2.1 (a - K) (jx_ws_get ha hKa) hc k hk (va_Nw.use rfl (hlk s hSP)) (fun _ h9 => h9) (by rw [List.getElem?_map, hv]; rfl) hd kk
theorem jRel_set {H1 : Heap} {locs1 : List Loc} (hR : jRel D cl α dA K sz h s H locs) {a : Nat} {c1 : jC} {e1 : va_E} (hKa : K ≤ a) (he : jx_E α dA c1 = e1) (hP : va_P D cl ((jx_ws α dA K h).set (a - K) (α a, e1)) H1) (hS : va_S (fun q => sz ≤ q) s.heap H1 locs1) : jRel D cl α dA K sz (h.set a c1) s H1 locs1 :=
  ⟨by rw [List.length_set]; exact hR.1, by rw [jx_ws_set hKa, he]; exact hP, hS⟩
theorem jput_ok (hx : p.tables.exec = Jvm.exec) (hb : c.code = cc) (hts : ∀ w ∈ TB, w.before args s = true) (hown : s.vm.findClass own = some m.cls) (hK : va_K D cl tys s) (hα : ∀ j, α (K + j) = sz + j) (hR : jRel D cl α dA K sz h s H locs) {idx ci k kd a : Nat} {fs : List Value} {v : Value}
    {SP : State → Prop} (hSP : SP s) (hF : jFok SP TB cl own idx ci k kd) (ha : h[a]? = some (.inr (ci, fs))) (hKa : K ≤ a) (hkl : k < fs.length) (hfit : jfit (kd % 10) v = true) (hini : kd < 10 ∨ meth.name = "<init>") (hd : decode cc pc = .ok (.putfield idx, 3))
    (kk : ∀ (H1 : Heap) (locs1 : List Loc), jRel D cl α dA K sz (h.set a (.inr (ci, fs.set k v))) s H1 locs1 → W p l e R s m args below meth c H1 locs1 cells slots Q (F0 m (pc + 3) ls r)) :
    W p l e R s m args below meth c H locs cells slots Q (F0 m pc ls (jx_V α v :: .ref (α a) :: r)) := by
  obtain ⟨C, T, N, ty, hc, hk, hin, hty, hnm, hlk, hf1, hf2, t0, t1, t2, t3⟩ := hF
  obtain ⟨hn, hft⟩ := jfit_ok (α := α) hfit t0 t1 t2 t3
  have hE : jx_E α dA (.inr (ci, fs.set k v)) = .inr (ci, (fs.map (jx_V α)).set k (jx_V α v)) := by
    show Sum.inr (ci, (fs.set k v).map (jx_V α)) = _
    rw [List.map_set]
  by_cases hkd : kd < 10
  · rcases hlk with hlk | ⟨-, host, hlk⟩
    · exact va_put (D := D) hx hb hts hin ty hty hnm hown hK hR.2.1 (jx_D hα h) hR.2.2 (a - K) (jx_ws_get ha hKa) hc k hk (hts _ hlk) (fun _ h9 => h9) (hf1 hkd) (hty k hk) hn hft (by rw [List.length_map]; exact hkl) hd
        (fun H1 locs1 q1 _ q3 => kk H1 locs1 (jRel_set hR hKa hE q1 q3))
    · exact va_putN (D := D) hx hb hts hin ty hty hnm hown hK hR.2.1 (jx_D hα h) hR.2.2 (a - K) (jx_ws_get ha hKa) hc k hk (va_Nw.use rfl (hlk s hSP)) (fun _ h9 => h9) (hf1 hkd) (hty k hk) hn hft (by rw [List.length_map]; exact hkl) hd
        (fun H1 locs1 q1 _ q3 => kk H1 locs1 (jRel_set hR hKa hE q1 q3))
  · have hlk := hlk.resolve_right (fun z => hkd z.1)
    exact va_putF (D := D) hx hb hts hin ty hty hnm hown hK hR.2.1 (jx_D hα h) hR.2.2 (a - K) (jx_ws_get ha hKa) hc k hk (hts _ hlk) (fun _ h9 => h9) (hf2 hkd).1 (hini.resolve_left hkd) (hf2 hkd).2 (hty k hk) hn hft (by rw [List.length_map]; exact hkl) hd
        (fun H1 locs1 q1 _ q3 => kk H1 locs1 (jRel_set hR hKa hE q1 q3))
/-- arrays -/
def jTy (tys : List (ClassId × FieldType)) (dA : FieldType → ClassId) (ty : FieldType) : Prop := ∃ t0 : Nat, tys[t0]? = some (dA ty, ty)
theorem jiald (hx : p.tables.exec = Jvm.exec) (hb : c.code = cc) (hK : va_K D cl tys s) (ht : jTy tys dA .int) (hR : jRel D cl α dA K sz h s H locs) {a n : Nat} {f : Nat → Int32} {j : Int32}
    (ha : h[a]? = some (.inl (.int, n, .inl f))) (hKa : K ≤ a) (hj : ¬ (j < 0 ∨ n ≤ j.toNatClampNeg)) (hd : decode cc pc = .ok (.iaload, 1)) (kk : W p l e R s m args below meth c H locs cells slots Q (F0 m (pc + 1) ls (.int (f j.toNatClampNeg) :: r))) :
    W p l e R s m args below meth c H locs cells slots Q (F0 m pc ls (.int j :: .ref (α a) :: r)) := by
  obtain ⟨t0, ht⟩ := ht
  exact va_iald hx hb hK hR.2.1 (a - K) t0 (jx_ws_get ha hKa) ht hj hd kk
theorem jcald (hx : p.tables.exec = Jvm.exec) (hb : c.code = cc) (hK : va_K D cl tys s) (ht : jTy tys dA .char) (hR : jRel D cl α dA K sz h s H locs) {a n : Nat} {f : Nat → Int32} {j : Int32}
    (ha : h[a]? = some (.inl (.char, n, .inl f))) (hKa : K ≤ a) (hj : ¬ (j < 0 ∨ n ≤ j.toNatClampNeg)) (hd : decode cc pc = .ok (.caload, 1)) (kk : W p l e R s m args below meth c H locs cells slots Q (F0 m (pc + 1) ls (.int (f j.toNatClampNeg) :: r))) :
    W p l e R s m args below meth c H locs cells slots Q (F0 m pc ls (.int j :: .ref (α a) :: r)) := by
  obtain ⟨t0, ht⟩ := ht
  exact va_cald hx hb hK hR.2.1 (a - K) t0 (jx_ws_get ha hKa) ht hj hd kk
theorem jlald (hx : p.tables.exec = Jvm.exec) (hb : c.code = cc) (hK : va_K D cl tys s) (ht : jTy tys dA .long) (hR : jRel D cl α dA K sz h s H locs) {a n : Nat} {f : Nat → Int64} {j : Int32}
    (ha : h[a]? = some (.inl (.long, n, .inr (.inl f)))) (hKa : K ≤ a) (hj : ¬ (j < 0 ∨ n ≤ j.toNatClampNeg)) (hd : decode cc pc = .ok (.laload, 1)) (kk : W p l e R s m args below meth c H locs cells slots Q (F0 m (pc + 1) ls (.long (f j.toNatClampNeg) :: r))) :
    W p l e R s m args below meth c H locs cells slots Q (F0 m pc ls (.int j :: .ref (α a) :: r)) := by
  obtain ⟨t0, ht⟩ := ht
  exact va_lald hx hb hK hR.2.1 (a - K) t0 (jx_ws_get ha hKa) ht hj hd kk
theorem jiast (hx : p.tables.exec = Jvm.exec) (hb : c.code = cc) (hK : va_K D cl tys s) (hα : ∀ j, α (K + j) = sz + j) (ht : jTy tys dA .int) (hR : jRel D cl α dA K sz h s H locs) {a n : Nat} {f : Nat → Int32} {j : Int32} {x : Int32}
    (ha : h[a]? = some (.inl (.int, n, .inl f))) (hKa : K ≤ a) (hj : ¬ (j < 0 ∨ n ≤ j.toNatClampNeg)) (hd : decode cc pc = .ok (.iastore, 1))
    (kk : ∀ (H1 : Heap) (locs1 : List Loc), jRel D cl α dA K sz (h.set a (.inl (.int, n, .inl (upd f j.toNatClampNeg x)))) s H1 locs1 → W p l e R s m args below meth c H1 locs1 cells slots Q (F0 m (pc + 1) ls r)) :
    W p l e R s m args below meth c H locs cells slots Q (F0 m pc ls (.int x :: .int j :: .ref (α a) :: r)) := by
  obtain ⟨t0, ht⟩ := ht
  exact va_iast hx hb hK hR.2.1 (jx_D hα h) hR.2.2 (a - K) t0 (jx_ws_get ha hKa) ht hj hd (fun H1 locs1 q1 _ q3 => kk H1 locs1 (jRel_set hR hKa rfl q1 q3))
theorem jcast (hx : p.tables.exec = Jvm.exec) (hb : c.code = cc) (hK : va_K D cl tys s) (hα : ∀ j, α (K + j) = sz + j) (ht : jTy tys dA .char) (hR : jRel D cl α dA K sz h s H locs) {a n : Nat} {f : Nat → Int32} {j : Int32} {x : Int32}
    (ha : h[a]? = some (.inl (.char, n, .inl f))) (hKa : K ≤ a) (hj : ¬ (j < 0 ∨ n ≤ j.toNatClampNeg)) (hd : decode cc pc = .ok (.castore, 1))
    (kk : ∀ (H1 : Heap) (locs1 : List Loc), jRel D cl α dA K sz (h.set a (.inl (.char, n, .inl (upd f j.toNatClampNeg (vp_nar .char x))))) s H1 locs1 → W p l e R s m args below meth c H1 locs1 cells slots Q (F0 m (pc + 1) ls r)) :
    W p l e R s m args below meth c H locs cells slots Q (F0 m pc ls (.int x :: .int j :: .ref (α a) :: r)) := by
  obtain ⟨t0, ht⟩ := ht
  exact va_cast hx hb hK hR.2.1 (jx_D hα h) hR.2.2 (a - K) t0 (jx_ws_get ha hKa) ht hj hd (fun H1 locs1 q1 _ q3 => kk H1 locs1 (jRel_set hR hKa rfl q1 q3))
theorem jlast (hx : p.tables.exec = Jvm.exec) (hb : c.code = cc) (hK : va_K D cl tys s) (hα : ∀ j, α (K + j) = sz + j) (ht : jTy tys dA .long) (hR : jRel D cl α dA K sz h s H locs) {a n : Nat} {f : Nat → Int64} {j : Int32} {x : Int64}
    (ha : h[a]? = some (.inl (.long, n, .inr (.inl f)))) (hKa : K ≤ a) (hj : ¬ (j < 0 ∨ n ≤ j.toNatClampNeg)) (hd : decode cc pc = .ok (.lastore, 1))
    (kk : ∀ (H1 : Heap) (locs1 : List Loc), jRel D cl α dA K sz (h.set a (.inl (.long, n, .inr (.inl (vp_updL f j.toNatClampNeg x))))) s H1 locs1 → W p l e R s m args below meth c H1 locs1 cells slots Q (F0 m (pc + 1) ls r)) :
    W p l e R s m args below meth c H locs cells slots Q (F0 m pc ls (.long x :: .int j :: .ref (α a) :: r)) := by
  obtain ⟨t0, ht⟩ := ht
  exact va_last hx hb hK hR.2.1 (jx_D hα h) hR.2.2 (a - K) t0 (jx_ws_get ha hKa) ht hj hd (fun H1 locs1 q1 _ q3 => kk H1 locs1 (jRel_set hR hKa rfl q1 q3))
theorem jx_A_len {α : Nat → Nat} (x : vp_A) : (jx_A α x).1 = x.1 := by
  unfold jx_A
  split <;> rfl
theorem jalen (hx : p.tables.exec = Jvm.exec) (hb : c.code = cc) (hK : va_K D cl tys s) {ty : FieldType} (ht : jTy tys dA ty) (hR : jRel D cl α dA K sz h s H locs) {a : Nat} {x : vp_A}
    (ha : h[a]? = some (.inl (ty, x))) (hKa : K ≤ a) (hd : decode cc pc = .ok (.arraylength, 1)) (kk : W p l e R s m args below meth c H locs cells slots Q (F0 m (pc + 1) ls (.int (Int32.ofNat x.1) :: r))) :
    W p l e R s m args below meth c H locs cells slots Q (F0 m pc ls (.ref (α a) :: r)) := by
  obtain ⟨t0, ht⟩ := ht
  exact va_alen hx hb hK hR.2.1 (a - K) t0 (jx_ws_get ha hKa) ht (by rw [jx_A_len]) hd kk
/-- a class that can be made -/
def jNok (TB : List Jvm.Cond) (cl : List vw_C) (own : String) (idx ci : Nat) (fs : List Value) : Prop :=
  ∃ (C : String) (T : u_T) (N : Nat) (ty : Nat → FieldType), cl[ci]? = some (C, T, N) ∧ fs.length = N ∧ (∀ w ∈ u_ws C T N, w ∈ TB) ∧ (∀ j, j < N → parseFieldDescriptor (T j).2.2.1 = some (ty j)) ∧
    Jvm.Cond.classLink own idx C ∈ TB ∧ Jvm.Cond.instantiable C N ∈ TB ∧ Jvm.Cond.initialized C ∈ TB ∧ (∀ j, j < N → defaultValue (ty j) = vp_V fs j) ∧ (∀ v ∈ fs, ∀ a, v ≠ .ref a)
theorem jx_V_noref {α : Nat → Nat} {fs : List Value} (h : ∀ v ∈ fs, ∀ a, v ≠ .ref a) : fs.map (jx_V α) = fs := by
  have h1 : fs.map (jx_V α) = fs.map id := List.map_congr_left (fun v hv => by
    cases v with
    | ref a => exact absurd rfl (h _ hv a)
    | _ => rfl)
  rw [h1, List.map_id]
theorem jRel_push {H1 : Heap} (hR : jRel D cl α dA K sz h s H locs) (hsz : sz ≤ s.heap.size) {c1 : jC} (hz : H.size = α h.length) (hz1 : H1.size = H.size + 1) (ho : ∀ q, q < H.size → H1[q]? = H[q]?) (hn : va_at D cl (α h.length, jx_E α dA c1) H1) : jRel D cl α dA K sz (h ++ [c1]) s H1 locs := by
  obtain ⟨hK, hP, hS⟩ := hR
  refine ⟨by rw [List.length_append]; omega, ?_, ⟨by have := hS.1; omega, fun q h1 h2 => (ho q (Nat.lt_of_lt_of_le h1 hS.1)).trans (hS.2.1 q h1 h2), hS.2.2⟩⟩
  rw [jx_ws_push hK]
  refine (hP.kept (fun k x hx => ho x.1 ((hP k x hx).lt))).app (fun k x hx => ?_)
  have hk : k < 1 := (List.getElem?_eq_some_iff.mp hx).1
  rw [show k = 0 by omega] at hx
  cases hx
  exact hn
theorem jnew_ok (hx : p.tables.exec = Jvm.exec) (hb : c.code = cc) (hts : ∀ w ∈ TB, w.before args s = true) (hown : s.vm.findClass own = some m.cls) (hK : va_K D cl tys s) (hsz : sz ≤ s.heap.size) (hR : jRel D cl α dA K sz h s H locs) (hz : H.size = α h.length) {idx ci : Nat} {fs : List Value}
    (hN : jNok TB cl own idx ci fs) (hcells : cells + 1 ≤ R.cells) (hslots : slots + fs.length ≤ R.slots) (hd : decode cc pc = .ok (.new idx, 3))
    (kk : ∀ H1 : Heap, jRel D cl α dA K sz (h ++ [.inr (ci, fs)]) s H1 locs → W p l e R s m args below meth c H1 locs (cells + 1) (slots + fs.length) Q (F0 m (pc + 3) ls (.ref (α h.length) :: r))) :
    W p l e R s m args below meth c H locs cells slots Q (F0 m pc ls r) := by
  obtain ⟨C, T, N, ty, hc, rfl, hin, hty, h1, h2, h3, h4, h5⟩ := hN
  have hKn := hK.1 ci _ hc
  refine W.newcK hx hb hown (hts _ h1) (hts _ h2) (hts _ h3) rfl hd hcells hslots hKn.2.1 hz fun H1 kC hkC e1 z1 o1 => ?_
  refine kk H1 (jRel_push hR hsz hz (by rw [z1, hz]) (fun q hq => o1 q (by rw [← hz]; exact hq)) ?_)
  show ∃ r : vw_C, cl[ci]? = some r ∧ t_OB (α h.length) (D.1 ci) r.2.2 (D.2 ci) H1 (vp_V (fs.map (jx_V α)))
  rw [jx_V_noref h5]
  exact ⟨_, hc, (u_born ty hts hin hKn hkC e1 hty).to h4⟩
theorem jnewa_ok (hx : p.tables.exec = Jvm.exec) (hb : c.code = cc) (hts : ∀ w ∈ TB, w.before args s = true) (hK : va_K D cl tys s) (hsz : sz ≤ s.heap.size) (hR : jRel D cl α dA K sz h s H locs) (hz : H.size = α h.length) {at' : ArrayType} {n : Int32} {c1 : jC}
    (ht : jTy tys dA (newarray.typeOf at')) (hA : Jvm.Cond.arrayClass (newarray.typeOf at') ∈ TB) (hc1 : jnewa at' n.toNatClampNeg = some c1) (hn : ¬ n < 0) (hb2 : ¬ 60000000 < n.toNatClampNeg) (hcells : cells + 1 ≤ R.cells) (hslots : slots + n.toNatClampNeg ≤ R.slots) (hd : decode cc pc = .ok (.newarray at', 2))
    (kk : ∀ H1 : Heap, jRel D cl α dA K sz (h ++ [c1]) s H1 locs → W p l e R s m args below meth c H1 locs (cells + 1) (slots + n.toNatClampNeg) Q (F0 m (pc + 2) ls (.ref (α h.length) :: r))) :
    W p l e R s m args below meth c H locs cells slots Q (F0 m pc ls (.int n :: r)) := by
  obtain ⟨t0, ht⟩ := ht
  have hcb : componentBytes (newarray.typeOf at') ≤ 8 := by cases at' <;> decide
  refine va_newaK hx hb (hts _ hA) rfl hd rfl hn rfl (by have := Nat.mul_le_mul (Nat.le_of_not_lt hb2) hcb; omega) hcells hslots hz fun H1 cA e1 z1 o1 hAr hNm => ?_
  refine kk H1 (jRel_push hR hsz hz (by rw [z1, hz]) (fun q hq => o1 q (by rw [← hz]; exact hq)) ?_)
  have hRA := (hK.2 t0 _ ht).2
  unfold jnewa at hc1
  cases at' <;> first
    | (cases hc1; done)
    | (cases hc1
       have hcA : cA = dA _ := Option.some.inj (hNm.symm.trans hRA)
       subst hcA
       exact e1)
theorem jgets_ok (hx : p.tables.exec = Jvm.exec) (hb : c.code = cc) (hts : ∀ w ∈ TB, w.before args s = true) (hown : s.vm.findClass own = some m.cls) (hR : jRel D cl α dA K sz h s H locs) {idx : Nat} {C n d : String} {v : Value} (hZ : va_Z C n d (jx_V α v) (fun q => sz ≤ q) s s.heap) (hlk : Jvm.Cond.fieldLink own idx C n d ∈ TB)
    (hd : decode cc pc = .ok (.getstatic idx, 3)) (kk : W p l e R s m args below meth c H locs cells slots Q (F0 m (pc + 3) ls (jx_V α v :: r))) : W p l e R s m args below meth c H locs cells slots Q (F0 m pc ls r) :=
  va_gets hx hb hZ hR.2.2 hown (hts _ hlk) (fun _ h9 => h9) hd kk
end JH
