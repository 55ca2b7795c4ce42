/-! the frame at the law's entry -/
def jhd (L : Nat) (xs : Nat → Int32) : jH := .inl (.int, L, .inl xs) :: (List.replicate 10 (.inr (98, [])) ++ List.replicate 13 (.inr (99, [])))
section JStart
variable {b L : Nat} {xs : Nat → Int32} {ad st : Nat → Nat} {sz : Nat}
theorem jmok {M : jM} (h1 : jdecOK M) (h2 : M.2.2.1 ≤ 45) (h3 : jown M.2.2.2.2.1 = M.1.cls) : jKn cl0 (jal b ad st sz) sz (jSP b L xs ad st sz) TB0 jT0 M := by
  unfold jKn
  rw [← h3]
  exact ⟨h1, h2, fun idx ci k kd h => jokF h, fun idx ci fs h => jokN h, fun idx v h s hs => jokS h s hs, fun idx v h => jokC h, fun idx kd z n ci h => jokL h⟩
theorem jok_m {z : Nat} {M : jM} (h : jt_m z = some M) : plainFor M.1 = true ∧ (M.1.cls ≠ "java/lang/invoke/MethodHandle" ∧ M.1.cls ≠ "java/lang/invoke/VarHandle") ∧ (M.2.2.2.2.2.1 = true → M.1.name = "<init>") ∧
    (if M.2.2.2.2.2.2.2.map (fun q => q.1) = [] then Jvm.Cond.code M.1 M.2.1 M.2.2.1 M.2.2.2.1 else Jvm.Cond.codeWith M.1 M.2.1 M.2.2.1 M.2.2.2.1 (M.2.2.2.2.2.2.2.map (fun q => q.1))) ∈ TB0 ∧ Jvm.Cond.initialized M.1.cls ∈ TB0 ∧ jMok TB0 cl0 (jal b ad st sz) sz (jSP b L xs ad st sz) jT0 M.1.cls M.2.2.2.2.1 M.2.1 M.2.2.1 M.2.2.2.2.2.2.1 := by
  have hd := jdec_mt h
  unfold jt_m at h
  obtain ⟨q, hq, rfl⟩ := Option.map_eq_some_iff.mp h
  have hm := jlk2_mem hq
  have hc := List.all_eq_true.mp jcM_ok _ hm
  obtain ⟨c, hc1, hm1⟩ := List.mem_flatMap.mp hm
  have hw := jcw_all c hc1 _ hm1
  dsimp only at hc hw
  unfold jcM at hc
  simp only [Bool.and_eq_true, Bool.or_eq_true, Bool.not_eq_true', decide_eq_true_eq] at hc
  obtain ⟨⟨⟨⟨⟨⟨k1, k2⟩, k3⟩, k4⟩, k5⟩, k6⟩, k7⟩ := hc
  refine ⟨k1, ⟨k2, k3⟩, fun hi => ?_, hw, jIn_ok k5, jmok hd k6 k7⟩
  rcases k4 with k4 | k4
  · rw [hi] at k4; cases k4
  · exact k4
theorem jchoice {s : State} : ∀ (cl : List vw_C), (∀ q ∈ cl, ∃ (c : ClassId) (i : Nat → Nat), u_Kn s q.1 q.2.1 q.2.2 c i) → ∃ (dC : Nat → ClassId) (dI : Nat → Nat → Nat), ∀ (k : Nat) (q : vw_C), cl[k]? = some q → u_Kn s q.1 q.2.1 q.2.2 (dC k) (dI k)
  | [], _ => ⟨fun _ => 0, fun _ _ => 0, fun k q h => by cases h⟩
  | q0 :: cl, h => by
    obtain ⟨c, i, h0⟩ := h q0 List.mem_cons_self
    obtain ⟨dC, dI, h1⟩ := jchoice cl (fun q hq => h q (List.mem_cons_of_mem _ hq))
    refine ⟨fun k => match k with
      | 0 => c
      | k + 1 => dC k, fun k => match k with
      | 0 => i
      | k + 1 => dI k, fun k q hk => ?_⟩
    cases k with
    | zero => cases hk; exact h0
    | succ k => exact h1 k q hk
theorem jhd_arr {a : Nat} {ty : FieldType} {x : vp_A} (h : (jhd L xs)[a]? = some (.inl (ty, x))) : a = 0 ∧ ty = .int ∧ x = (L, .inl xs) := by
  cases a with
  | zero => cases h; exact ⟨rfl, rfl, rfl⟩
  | succ a =>
    have h : ((List.replicate 10 (.inr (98, [])) ++ List.replicate 13 (.inr (99, [])) : jH))[a]? = some (.inl (ty, x)) := h
    rcases List.mem_append.mp (List.mem_of_getElem? h) with h1 | h1
    · cases (List.mem_replicate.mp h1).2
    · cases (List.mem_replicate.mp h1).2
end JStart
