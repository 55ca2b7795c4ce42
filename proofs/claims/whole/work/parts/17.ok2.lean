def jd_w : List (List Nat) := [[1076, 1078], [1109, 1111, 1113], [1183, 1185, 1187, 1189, 1191, 1193, 1195], [1091, 1093, 1095, 1097], [1217, 1219, 1221, 1223, 1225, 1227, 1229, 1231, 1233], [1130, 1132, 1134, 1136, 1138, 1140], [1066, 1068, 1070], [1042, 1044], [1169, 1171, 1173], [2011, 2013, 2015, 2017, 2019], [2036, 2038, 2040, 2042, 2044, 2046, 2048, 2050, 2052, 2054, 2056, 2058], [5118, 5120, 5122, 5124, 5126, 5128, 5130, 5132, 5134, 5136, 5138, 5140, 5142, 5144, 5146, 5148, 5150, 5152, 5154, 5156, 5158, 5160, 5162, 5164, 5166, 5168, 5170, 5172, 5174, 5176, 5178, 5180, 5182, 5184, 5186, 5188, 5190, 5192, 5194, 5196, 5198, 5200, 5202, 5204, 5206, 5208, 5210, 5212, 5214, 5216, 5218, 5220, 5222, 5224, 5226, 5228, 5230, 5232, 5234, 5236, 5238, 6000, 6002, 6004]]
def jty (T : u_T) (j : Nat) : FieldType := (parseFieldDescriptor (T j).2.2.1).getD .int
def jcC (q : vw_C) (ps : List Nat) : Bool := (List.range q.2.2).all (fun k => jIn (ps.getD k 0) (u_lay q.1 q.2.1 k) && decide (parseFieldDescriptor (q.2.1 k).2.2.1 = some (jty q.2.1 k))) &&
  (List.range q.2.2).all (fun a => (List.range q.2.2).all (fun b => decide (a = b) || decide ((q.2.1 a).2.1 ≠ (q.2.1 b).2.1)))
def jcCl : Bool := (List.range cl0.length).all (fun ci => match cl0[ci]? with
  | some q => jcC q (jd_w.getD ci [])
  | none => true)
set_option maxRecDepth 20000 in
theorem jcCl_ok : jcCl = true := by decide +kernel
theorem jcls {ci : Nat} {q : vw_C} (h : cl0[ci]? = some q) : (∀ w ∈ u_ws q.1 q.2.1 q.2.2, w ∈ TB0) ∧ (∀ j, j < q.2.2 → parseFieldDescriptor (q.2.1 j).2.2.1 = some (jty q.2.1 j)) ∧ (∀ a, a < q.2.2 → ∀ b, b < q.2.2 → a ≠ b → (q.2.1 a).2.1 ≠ (q.2.1 b).2.1) := by
  have hc := jcCl_ok
  unfold jcCl at hc
  have h1 := List.all_eq_true.mp hc ci (List.mem_range.mpr (List.getElem?_eq_some_iff.mp h).1)
  rw [h] at h1
  unfold jcC at h1
  rw [Bool.and_eq_true] at h1
  obtain ⟨h2, h3⟩ := h1
  refine ⟨fun w hw => ?_, fun j hj => ?_, fun a ha b hb hab => ?_⟩
  · obtain ⟨k, hk, rfl⟩ := List.mem_map.mp hw
    have h4 := List.all_eq_true.mp h2 k hk
    rw [Bool.and_eq_true] at h4
    exact jIn_ok h4.1
  · have h4 := List.all_eq_true.mp h2 j (List.mem_range.mpr hj)
    rw [Bool.and_eq_true, decide_eq_true_eq] at h4
    exact h4.2
  · have h4 := List.all_eq_true.mp (List.all_eq_true.mp h3 a (List.mem_range.mpr ha)) b (List.mem_range.mpr hb)
    rw [Bool.or_eq_true, decide_eq_true_eq, decide_eq_true_eq] at h4
    exact h4.resolve_left hab
def jd_i : List (Nat × Nat) := [(1049, 2), (1101, 3), (1144, 7), (1082, 4), (1199, 9), (1117, 6), (1055, 3), (1035, 2), (1152, 3), (1237, 5), (1027, 12), (5048, 64), (2111, 6), (2180, 6), (4180, 6), (4196, 6)]
def jcI : Bool := (List.range cl0.length).all (fun ci => match cl0[ci]? with
  | some q => jIn (jd_i.getD ci (0, 0)).1 (.instantiable q.1 (jd_i.getD ci (0, 0)).2)
  | none => true)
set_option maxRecDepth 20000 in
theorem jcI_ok : jcI = true := by decide +kernel
def jcN (e : Nat × ((Nat × List Value) × List Nat)) : Bool := match cl0[e.2.1.1]? with
  | none => false
  | some (C, T, N) => decide (e.2.1.2.length = N) && jIn (e.2.2.getD 0 0) (.classLink (jown (e.1 / 1000)) (e.1 % 1000) C) && jIn (e.2.2.getD 1 0) (.instantiable C N) && jIn (e.2.2.getD 2 0) (.initialized C) &&
      (List.range N).all (fun j => decide (defaultValue (jty T j) = vp_V e.2.1.2 j)) && e.2.1.2.all (fun v => match v with
        | .ref _ => false
        | _ => true)
set_option maxRecDepth 20000 in
theorem jcN_ok : (jd_n.flatMap (fun q => q.2)).all jcN = true := by decide +kernel
def jnm : List String := ["DONE", "ANSWER", "TOO_MANY_STEPS", "PAIRS", "NEW_APART", "NO_DIGITS", "FAILED", "TESTS", "WOKEN", "NO_ANSWER"]
def jcS (e : Nat × (Nat × Nat)) : Bool := decide (1 ≤ e.2.1) && decide (e.2.1 ≤ 10) && jIn e.2.2 (.fieldLink (jown (e.1 / 1000)) (e.1 % 1000) "GoalDesk$Outcome" (jnm.getD (e.2.1 - 1) "") "LGoalDesk$Outcome;")
set_option maxRecDepth 20000 in
theorem jcS_ok : (jd_s.flatMap (fun q => q.2)).all jcS = true := by decide +kernel
/-- the texts: class, entry, text -/
def jstr : List (String × Nat × String) := [("GoalDesk", 90, "a byte is not 33 .. 126"), ("GoalDesk", 101, "the text would be too long"), ("GoalDesk", 114, "12 clauses are there"), ("GoalDesk", 125, "the text is no clause"), ("GoalDesk", 134, "there is no such clause"), ("GoalDesk", 142, "the text is no question"), ("GoalDesk", 223, "500 steps were taken"), ("GoalDesk", 230, "only digits can be less"), ("GoalDesk", 233, "there is no further answer"), ("GoalDesk", 166, "nothing is asked"), ("GoalDesk", 175, "the variable is not 0 .. 25"), ("GoalDesk", 181, "there is no such variable"), ("GoalDesk", 186, "there is no such character")]
def jcC2 (e : Nat × (Value × Nat)) : Bool := match e.2.1 with
  | .int x => jIn e.2.2 (.constant (jown (e.1 / 1000)) (e.1 % 1000) x)
  | .long x => jIn e.2.2 (.constantLong (jown (e.1 / 1000)) (e.1 % 1000) x)
  | .ref a => decide (11 ≤ a) && decide (a < 24) && decide ((jstr.getD (a - 11) ("", 0, "")).1 = jown (e.1 / 1000)) && decide ((jstr.getD (a - 11) ("", 0, "")).2.1 = e.1 % 1000)
  | _ => false
set_option maxRecDepth 20000 in
theorem jcC2_ok : (jd_c.flatMap (fun q => q.2)).all jcC2 = true := by decide +kernel
def jcL0 (k : Nat) (ps : List Nat) (z n ci : Nat) : Bool := match jt_m z, cl0[ci]? with
    | some Z, some q => decide (q.1 = Z.1.cls) && jIn (ps.getD 0 0) (.methodLink (jown (k / 1000)) (k % 1000) Z.1) && jIn (ps.getD 1 0) (.instanceMethod Z.1) && jIn (ps.getD 2 0) (.selects Z.1.cls Z.1 Z.1) && decide ((parseMethodDescriptor Z.1.desc).map (fun d => d.parameters.length) = some (n - 1))
    | _, _ => false
def jcL1 (k : Nat) (ps : List Nat) (z n : Nat) : Bool := match jt_m z with
    | some Z => decide (Z.1.name = "<init>") && decide (Z.2.2.2.1 = none) && decide (Z.2.2.2.2.2.2.2 = []) && jIn (ps.getD 0 0) (.methodLink (jown (k / 1000)) (k % 1000) Z.1) && jIn (ps.getD 1 0) (.instanceMethod Z.1) && decide ((parseMethodDescriptor Z.1.desc).map (fun d => d.parameters.length) = some (n - 1))
    | _ => false
def jcL2 (k : Nat) (ps : List Nat) (z n : Nat) : Bool := match jt_m z with
    | some Z => jIn (ps.getD 0 0) (.methodLink (jown (k / 1000)) (k % 1000) Z.1) && jIn (ps.getD 1 0) (.static Z.1) && decide ((parseMethodDescriptor Z.1.desc).map (fun d => d.parameters.length) = some n)
    | _ => false
def jcL4 (k : Nat) (ps : List Nat) (z n : Nat) : Bool := match jt_m z with
    | some Z => decide (Z.1.name = "<init>") && decide (Z.2.2.2.1 = none) && decide (Z.2.2.2.2.2.2.2 = []) && decide (jw (ps.getD 0 0) = some (.methodLinkNest (jown (k / 1000)) (k % 1000) Z.1 "GoalDesk")) && jIn (ps.getD 1 0) (.instanceMethod Z.1) && decide ((parseMethodDescriptor Z.1.desc).map (fun d => d.parameters.length) = some (n - 1))
    | _ => false
def jcL (e : Nat × ((Nat × Nat × Nat × Nat) × List Nat)) : Bool := match e.2.1 with
  | (0, z, n, ci) => jcL0 e.1 e.2.2 z n ci
  | (1, z, n, _) => jcL1 e.1 e.2.2 z n
  | (2, z, n, _) => jcL2 e.1 e.2.2 z n
  | (3, _, _, _) => jIn (e.2.2.getD 0 0) (.methodLink (jown (e.1 / 1000)) (e.1 % 1000) Lib.objectInit)
  | (4, z, n, _) => jcL4 e.1 e.2.2 z n
  | (5, _, _, _) => jIn (e.2.2.getD 0 0) (.methodLink (jown (e.1 / 1000)) (e.1 % 1000) arraycopyName)
  | _ => false
set_option maxRecDepth 20000 in
theorem jcL_ok : (jd_l.flatMap (fun q => q.2)).all jcL = true := by decide +kernel
