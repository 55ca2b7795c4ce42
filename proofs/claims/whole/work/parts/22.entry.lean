section JEntry
theorem jtb {args : Array Value} {s : State} (hts : ∀ w ∈ lw_tbl, w.before args s = true) : ∀ w ∈ TB0, w.before args s = true := fun w hw => hts w (List.mem_filter.mp hw).1
def jfl : List Jvm.Cond := flatC (Jvm.Cond.and given_1 narrow_1)
def jfln : List Jvm.Cond := jfl.filter (fun c => match c with
  | .not (.eq _ _) => true
  | _ => false)
set_option maxRecDepth 20000 in
theorem jfl_ex : ∀ i, i < 10 → Jvm.Cond.exactly (.static "GoalDesk$Outcome" (jnm.getD i "") "LGoalDesk$Outcome;") "GoalDesk$Outcome" ∈ jfl := by decide +kernel
set_option maxRecDepth 20000 in
theorem jfl_ne0 : ∀ i, i < 10 → ∀ j, j < 10 → i ≠ j → Jvm.Cond.not (.eq (.static "GoalDesk$Outcome" (jnm.getD i "") "LGoalDesk$Outcome;") (.static "GoalDesk$Outcome" (jnm.getD j "") "LGoalDesk$Outcome;")) ∈ jfln ∨ Jvm.Cond.not (.eq (.static "GoalDesk$Outcome" (jnm.getD j "") "LGoalDesk$Outcome;") (.static "GoalDesk$Outcome" (jnm.getD i "") "LGoalDesk$Outcome;")) ∈ jfln := by decide +kernel
theorem jfl_ne : ∀ i, i < 10 → ∀ j, j < 10 → i ≠ j → Jvm.Cond.not (.eq (.static "GoalDesk$Outcome" (jnm.getD i "") "LGoalDesk$Outcome;") (.static "GoalDesk$Outcome" (jnm.getD j "") "LGoalDesk$Outcome;")) ∈ jfl ∨ Jvm.Cond.not (.eq (.static "GoalDesk$Outcome" (jnm.getD j "") "LGoalDesk$Outcome;") (.static "GoalDesk$Outcome" (jnm.getD i "") "LGoalDesk$Outcome;")) ∈ jfl :=
  fun i hi j hj hij => (jfl_ne0 i hi j hj hij).elim (fun h => Or.inl (List.mem_filter.mp h).1) (fun h => Or.inr (List.mem_filter.mp h).1)
set_option maxRecDepth 20000 in
theorem jfl_st : ∀ i, i < 13 → Jvm.Cond.exactly (.string (jstr.getD i ("", 0, "")).1 (jstr.getD i ("", 0, "")).2.1) "java/lang/String" ∈ jfl := by decide +kernel
theorem jfl_un : Jvm.Cond.isRef (.static "java/lang/Throwable" "UNASSIGNED_STACK" "[Ljava/lang/StackTraceElement;") ∈ jfl ∧ Jvm.Cond.isRef (.static "java/lang/Throwable" "SUPPRESSED_SENTINEL" "Ljava/util/List;") ∈ jfl := by decide +kernel
set_option maxRecDepth 20000 in
theorem jfl_nc : ∀ i, i < 4 → ∀ j, j < 4 → i ≠ j → Jvm.Cond.not (.castable (jEx.getD i "") (jEx.getD j "")) ∈ jfl := by decide +kernel
end JEntry
