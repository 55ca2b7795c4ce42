/-! the tables agree with the claim's words: by program -/
def TB0 : List Jvm.Cond := lw_tbl.filter goodWord
def jw (p : Nat) : Option Jvm.Cond := (match p / 1000 with
  | 0 => k2_sels lw_privs
  | 1 => tables_1_1
  | 2 => tables_1_2
  | 3 => tables_1_3
  | 4 => tables_1_4
  | 5 => tables_1_5
  | _ => tables_1_6)[p % 1000]?
theorem jw_mem {p : Nat} {w : Jvm.Cond} (h : jw p = some w) : w ∈ lw_tbl := by
  unfold jw at h
  have hm := List.mem_of_getElem? h
  unfold lw_tbl tables_1
  simp only [List.mem_append]
  split at hm <;> simp [hm]
def jIn (p : Nat) (w : Jvm.Cond) : Bool := decide (jw p = some w) && goodWord w
theorem jIn_ok {p : Nat} {w : Jvm.Cond} (h : jIn p w = true) : w ∈ TB0 := by
  unfold jIn at h
  rw [Bool.and_eq_true, decide_eq_true_eq] at h
  exact List.mem_filter.mpr ⟨jw_mem h.1, h.2⟩
def jkind (kd : Nat) (d : String) : Bool := match parseFieldDescriptor d with
  | some .int => kd == 0
  | some (.object _) => kd == 1
  | some (.array _) => kd == 1
  | some .boolean => kd == 2
  | some .long => kd == 3
  | _ => false
def jcF (e : Nat × ((Nat × Nat × Nat) × Nat)) : Bool := match cl0[e.2.1.1]? with
  | none => false
  | some (_, T, N) => decide (e.2.1.2.1 < N) && (jIn e.2.2 (.fieldLink (jown (e.1 / 1000)) (e.1 % 1000) (T e.2.1.2.1).1 (T e.2.1.2.1).2.1 (T e.2.1.2.1).2.2.1) || (decide (e.2.1.2.2 < 10) && decide (jw e.2.2 = some (Jvm.Cond.fieldLinkNest (jown (e.1 / 1000)) (e.1 % 1000) (T e.2.1.2.1).1 (T e.2.1.2.1).2.1 (T e.2.1.2.1).2.2.1 "GoalDesk")))) &&
      (if e.2.1.2.2 < 10 then (T e.2.1.2.1).2.2.2 == false else ((T e.2.1.2.1).2.2.2 && (T e.2.1.2.1).1 == jown (e.1 / 1000))) && jkind (e.2.1.2.2 % 10) (T e.2.1.2.1).2.2.1
set_option maxRecDepth 20000 in
theorem jcF_ok : (jd_f.flatMap (fun q => q.2)).all jcF = true := by decide +kernel
