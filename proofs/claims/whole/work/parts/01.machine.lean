/-! THE SMALL MACHINE: an executable picture of the bytecode over a heap that is a list; jx_ = its meaning in the kit's words -/
abbrev jC : Type := (FieldType × vp_A) ⊕ (Nat × List Value)
abbrev jH : Type := List jC
/-- pc, locals, stack, heap -/
abbrev jS : Type := Nat × List (Nat × Value) × List Value × jH
def jx_V (α : Nat → Nat) : Value → Value
  | .ref a => .ref (α a)
  | v => v
def jx_L (α : Nat → Nat) (q : Nat × Value) : Nat × Value := (q.1, jx_V α q.2)
def jx_A (α : Nat → Nat) : vp_A → vp_A
  | (n, .inr (.inr (.inr (.inr f)))) => (n, .inr (.inr (.inr (.inr (fun i => (f i).map α)))))
  | a => a
def jx_E (α : Nat → Nat) (dA : FieldType → ClassId) : jC → va_E
  | .inl (ty, a) => .inl (dA ty, jx_A α a)
  | .inr (ci, fs) => .inr (ci, fs.map (jx_V α))
def jx_ws (α : Nat → Nat) (dA : FieldType → ClassId) (K : Nat) (h : jH) : va_W := (h.drop K).mapIdx (fun i c => (α (K + i), jx_E α dA c))
theorem jx_V_cat (α : Nat → Nat) (v : Value) : (jx_V α v).category = v.category := by cases v <;> rfl
theorem jx_ws_get {α : Nat → Nat} {dA : FieldType → ClassId} {K a : Nat} {h : jH} {c : jC} (ha : h[a]? = some c) (hK : K ≤ a) : (jx_ws α dA K h)[a - K]? = some (α a, jx_E α dA c) := by
  unfold jx_ws
  rw [List.getElem?_mapIdx, List.getElem?_drop, show K + (a - K) = a by omega, ha]
  rfl
theorem jx_ws_len {α : Nat → Nat} {dA : FieldType → ClassId} {K : Nat} {h : jH} : (jx_ws α dA K h).length = h.length - K := by
  simp [jx_ws]
theorem jx_ws_set {α : Nat → Nat} {dA : FieldType → ClassId} {K a : Nat} {h : jH} {c : jC} (hK : K ≤ a) : jx_ws α dA K (h.set a c) = (jx_ws α dA K h).set (a - K) (α a, jx_E α dA c) := by
  apply List.ext_getElem?
  intro i
  unfold jx_ws
  rw [List.getElem?_mapIdx, List.getElem?_drop, List.getElem?_set, List.getElem?_set, List.getElem?_mapIdx, List.getElem?_drop]
  by_cases hi : a = K + i
  · subst hi
    have e : K + i - K = i := by omega
    simp only [e, if_true, List.length_mapIdx, List.length_drop]
    by_cases hl : K + i < h.length
    · rw [if_pos hl, if_pos (by omega)]; rfl
    · rw [if_neg hl, if_neg (by omega)]; rfl
  · rw [if_neg hi, if_neg (by omega)]
theorem jx_ws_push {α : Nat → Nat} {dA : FieldType → ClassId} {K : Nat} {h : jH} {c : jC} (hK : K ≤ h.length) : jx_ws α dA K (h ++ [c]) = jx_ws α dA K h ++ [(α h.length, jx_E α dA c)] := by
  unfold jx_ws
  rw [List.drop_append_of_le_length hK, List.mapIdx_append]
  have e : K + (h.length - K) = h.length := by omega
  simp [e]
/-- locals -/
def jld (i : Nat) : List (Nat × Value) → Option Value
  | [] => none
  | q :: r => if q.1 = i then some q.2 else jld i r
def jst1 (i : Nat) (v : Value) (lv : List (Nat × Value)) : List (Nat × Value) := (i, v) :: lv.filter (fun q => !(q.1 == i) && !(q.1 + 1 == i && q.2.category == 2))
def jst2 (i : Nat) (v : Value) (lv : List (Nat × Value)) : List (Nat × Value) := (i, v) :: lv.filter (fun q => !(q.1 == i) && (!(q.1 == i + 1) && !(q.1 + 1 == i && q.2.category == 2)))
theorem jld_mem {i : Nat} {v : Value} : ∀ {lv : List (Nat × Value)}, jld i lv = some v → (i, v) ∈ lv
  | [], h => by cases h
  | q :: r, h => by
    unfold jld at h
    by_cases hq : q.1 = i
    · rw [if_pos hq] at h
      cases h
      subst hq
      exact List.mem_cons_self
    · rw [if_neg hq] at h
      exact List.mem_cons_of_mem _ (jld_mem h)
theorem jld_at {α : Nat → Nat} {ls : Array Slot} {n i : Nat} {v : Value} {lv : List (Nat × Value)} (hl : lv_has ls n (lv.map (jx_L α))) (h : jld i lv = some v) : ls[i]? = some (.val (jx_V α v)) :=
  hl.2.2 (i, jx_V α v) (List.mem_map.mpr ⟨(i, v), jld_mem h, rfl⟩)
theorem jst1_map {α : Nat → Nat} {i : Nat} {v : Value} {lv : List (Nat × Value)} : (jst1 i v lv).map (jx_L α) = (i, jx_V α v) :: (lv.map (jx_L α)).filter (fun q => !(q.1 == i) && !(q.1 + 1 == i && q.2.category == 2)) := by
  unfold jst1
  rw [List.map_cons, List.filter_map]
  refine congrArg (List.cons _) (congrArg (List.map _) (List.filter_congr (fun q _ => ?_)))
  simp [jx_L, jx_V_cat]
theorem jst2_map {α : Nat → Nat} {i : Nat} {v : Value} {lv : List (Nat × Value)} : (jst2 i v lv).map (jx_L α) = (i, jx_V α v) :: (lv.map (jx_L α)).filter (fun q => !(q.1 == i) && (!(q.1 == i + 1) && !(q.1 + 1 == i && q.2.category == 2))) := by
  unfold jst2
  rw [List.map_cons, List.filter_map]
  refine congrArg (List.cons _) (congrArg (List.map _) (List.filter_congr (fun q _ => ?_)))
  simp [jx_L, jx_V_cat]
/-- stack words -/
def j2i (f : Int32 → Int32 → Int32) : List Value → Option (List Value)
  | .int y :: .int x :: r => some (.int (f x y) :: r)
  | _ => none
def j2l (f : Int64 → Int64 → Int64) : List Value → Option (List Value)
  | .long y :: .long x :: r => some (.long (f x y) :: r)
  | _ => none
def jsl (f : Int64 → Int32 → Int64) : List Value → Option (List Value)
  | .int y :: .long x :: r => some (.long (f x y) :: r)
  | _ => none
def j1i (f : Int32 → Int32) : List Value → Option (List Value)
  | .int x :: r => some (.int (f x) :: r)
  | _ => none
theorem j2i_inv {f : Int32 → Int32 → Int32} {st st' : List Value} (h : j2i f st = some st') : ∃ x y r, st = .int y :: .int x :: r ∧ st' = .int (f x y) :: r := by
  unfold j2i at h
  split at h
  · cases h; exact ⟨_, _, _, rfl, rfl⟩
  · cases h
theorem j2l_inv {f : Int64 → Int64 → Int64} {st st' : List Value} (h : j2l f st = some st') : ∃ x y r, st = .long y :: .long x :: r ∧ st' = .long (f x y) :: r := by
  unfold j2l at h
  split at h
  · cases h; exact ⟨_, _, _, rfl, rfl⟩
  · cases h
theorem jsl_inv {f : Int64 → Int32 → Int64} {st st' : List Value} (h : jsl f st = some st') : ∃ x y r, st = .int y :: .long x :: r ∧ st' = .long (f x y) :: r := by
  unfold jsl at h
  split at h
  · cases h; exact ⟨_, _, _, rfl, rfl⟩
  · cases h
theorem j1i_inv {f : Int32 → Int32} {st st' : List Value} (h : j1i f st = some st') : ∃ x r, st = .int x :: r ∧ st' = .int (f x) :: r := by
  unfold j1i at h
  split at h
  · cases h; exact ⟨_, _, rfl, rfl⟩
  · cases h
