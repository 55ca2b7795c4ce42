/-! BY PROGRAM (wip/whole/gendc.py): each method as a function over the numbers -/
def c_testApart_98 (i1 : Int32) (σ : qC) : Option (Nat × qC) := (c_pushPair_69 (c_apartGoal_99 i1 σ) (c_apartEnv_100 i1 σ) (c_right_68 (c_apartGoal_99 i1 σ) σ) (c_apartEnv_100 i1 σ) σ).bind (fun p1 => (c_goThroughPairs_92 (Int32.ofInt 0) p1).bind (fun p3 => if c_changes_84 p3.2 ≤ c_changes_84 σ then (c_goBack_101 (c_changes_84 σ) p3.2).bind (fun p6 => if 1 ≤ p3.1 ∧ p3.1 < 11 then (if p3.1 = 7 then (c_settle_103 i1 p6).bind (fun p10 => some (1, p10)) else if p3.1 = 1 then some (7, p6) else some (p3.1, p6)) else none) else (c_goBack_101 (c_changes_84 σ) p3.2).bind (fun p13 => if 1 ≤ p3.1 ∧ p3.1 < 11 then (if p3.1 = 7 then (c_settle_103 i1 p13).bind (fun p17 => some (1, p17)) else if p3.1 = 1 then some (p3.1, p13) else some (p3.1, p13)) else none)))
set_option maxRecDepth 20000 in
theorem t_c_testApart_98 {S : Nat × (Nat → Int32)} {d : Nat} {y : qC × Int64 × Nat} {i1 : Int32} {σ : qC} {p : (Nat × qC)} (hd : 13 ≤ d) (h : c_testApart_98 i1 σ = some p) : qE S d jm_3_testApart_98 (0, [(0, .ref 44), (1, .int i1)], [], (σ, y)) ((.inl (some (.ref p.1)), (p.2, y))) := by
  have hd9 : 9 ≤ d := by omega
  unfold c_testApart_98 at h
  refine qE.steps 2 hd9 (s' := (4, [(0, .ref 44), (1, .int i1)], [.ref 35], (σ, y))) rfl ?_
  refine qE.call hd9 rfl rfl rfl rfl (t_c_changes_84 (by omega) rfl) ?_
  refine qE.steps 0 hd9 (s' := (7, [(0, .ref 44), (1, .int i1)], [.int (c_changes_84 σ)], (σ, y))) rfl ?_
  refine qE.steps 4 hd9 (s' := (13, [(2, .int (c_changes_84 σ)), (0, .ref 44), (1, .int i1)], [.int i1, .ref 35], (σ, y))) rfl ?_
  refine qE.call hd9 rfl rfl rfl rfl (t_c_apartGoal_99 (by omega) rfl) ?_
  refine qE.steps 0 hd9 (s' := (16, [(2, .int (c_changes_84 σ)), (0, .ref 44), (1, .int i1)], [.int (c_apartGoal_99 i1 σ)], (σ, y))) rfl ?_
  refine qE.steps 4 hd9 (s' := (22, [(3, .int (c_apartGoal_99 i1 σ)), (2, .int (c_changes_84 σ)), (0, .ref 44), (1, .int i1)], [.int i1, .ref 35], (σ, y))) rfl ?_
  refine qE.call hd9 rfl rfl rfl rfl (t_c_apartEnv_100 (by omega) rfl) ?_
  refine qE.steps 0 hd9 (s' := (25, [(3, .int (c_apartGoal_99 i1 σ)), (2, .int (c_changes_84 σ)), (0, .ref 44), (1, .int i1)], [.int (c_apartEnv_100 i1 σ)], (σ, y))) rfl ?_
  refine qE.steps 7 hd9 (s' := (36, [(4, .int (c_apartEnv_100 i1 σ)), (3, .int (c_apartGoal_99 i1 σ)), (2, .int (c_changes_84 σ)), (0, .ref 44), (1, .int i1)], [.int (c_apartGoal_99 i1 σ), .ref 27, .int (c_apartEnv_100 i1 σ), .int (c_apartGoal_99 i1 σ), .ref 44], (σ, y))) rfl ?_
  refine qE.call hd9 rfl rfl rfl rfl (t_c_right_68 (by omega) rfl) ?_
  refine qE.steps 0 hd9 (s' := (39, [(4, .int (c_apartEnv_100 i1 σ)), (3, .int (c_apartGoal_99 i1 σ)), (2, .int (c_changes_84 σ)), (0, .ref 44), (1, .int i1)], [.int (c_right_68 (c_apartGoal_99 i1 σ) σ), .int (c_apartEnv_100 i1 σ), .int (c_apartGoal_99 i1 σ), .ref 44], (σ, y))) rfl ?_
  refine qE.steps 1 hd9 (s' := (41, [(4, .int (c_apartEnv_100 i1 σ)), (3, .int (c_apartGoal_99 i1 σ)), (2, .int (c_changes_84 σ)), (0, .ref 44), (1, .int i1)], [.int (c_apartEnv_100 i1 σ), .int (c_right_68 (c_apartGoal_99 i1 σ) σ), .int (c_apartEnv_100 i1 σ), .int (c_apartGoal_99 i1 σ), .ref 44], (σ, y))) rfl ?_
  obtain ⟨p1, e2, h⟩ := obind h
  refine qE.call hd9 rfl rfl rfl rfl (t_c_pushPair_69 (by omega) e2) ?_
  refine qE.steps 0 hd9 (s' := (44, [(4, .int (c_apartEnv_100 i1 σ)), (3, .int (c_apartGoal_99 i1 σ)), (2, .int (c_changes_84 σ)), (0, .ref 44), (1, .int i1)], [], (p1, y))) rfl ?_
  refine qE.steps 2 hd9 (s' := (46, [(4, .int (c_apartEnv_100 i1 σ)), (3, .int (c_apartGoal_99 i1 σ)), (2, .int (c_changes_84 σ)), (0, .ref 44), (1, .int i1)], [.int (Int32.ofInt 0), .ref 44], (p1, y))) rfl ?_
  obtain ⟨p3, e4, h⟩ := obind h
  refine qE.call hd9 rfl rfl rfl rfl (t_c_goThroughPairs_92 (by omega) e4) ?_
  refine qE.steps 0 hd9 (s' := (49, [(4, .int (c_apartEnv_100 i1 σ)), (3, .int (c_apartGoal_99 i1 σ)), (2, .int (c_changes_84 σ)), (0, .ref 44), (1, .int i1)], [.ref p3.1], (p3.2, y))) rfl ?_
  refine qE.steps 3 hd9 (s' := (55, [(5, .ref p3.1), (4, .int (c_apartEnv_100 i1 σ)), (3, .int (c_apartGoal_99 i1 σ)), (2, .int (c_changes_84 σ)), (0, .ref 44), (1, .int i1)], [.ref 35], (p3.2, y))) rfl ?_
  refine qE.call hd9 rfl rfl rfl rfl (t_c_changes_84 (by omega) rfl) ?_
  refine qE.steps 0 hd9 (s' := (58, [(5, .ref p3.1), (4, .int (c_apartEnv_100 i1 σ)), (3, .int (c_apartGoal_99 i1 σ)), (2, .int (c_changes_84 σ)), (0, .ref 44), (1, .int i1)], [.int (c_changes_84 p3.2)], (p3.2, y))) rfl ?_
  refine qE.steps 2 hd9 (s' := (if c_changes_84 p3.2 ≤ c_changes_84 σ then 66 else 62, [(5, .ref p3.1), (4, .int (c_apartEnv_100 i1 σ)), (3, .int (c_apartGoal_99 i1 σ)), (2, .int (c_changes_84 σ)), (0, .ref 44), (1, .int i1)], [], (p3.2, y))) rfl ?_
  by_cases c5 : c_changes_84 p3.2 ≤ c_changes_84 σ
  · rw [if_pos c5] at h
    rw [if_pos c5]
    refine qE.steps 5 hd9 (s' := (74, [(6, .int (Int32.ofInt 0)), (5, .ref p3.1), (4, .int (c_apartEnv_100 i1 σ)), (3, .int (c_apartGoal_99 i1 σ)), (2, .int (c_changes_84 σ)), (0, .ref 44), (1, .int i1)], [.int (c_changes_84 σ), .ref 35], (p3.2, y))) rfl ?_
    obtain ⟨p6, e7, h⟩ := obind h
    refine qE.call hd9 rfl rfl rfl rfl (t_c_goBack_101 (by omega) e7) ?_
    refine qE.steps 0 hd9 (s' := (77, [(6, .int (Int32.ofInt 0)), (5, .ref p3.1), (4, .int (c_apartEnv_100 i1 σ)), (3, .int (c_apartGoal_99 i1 σ)), (2, .int (c_changes_84 σ)), (0, .ref 44), (1, .int i1)], [], (p6, y))) rfl ?_
    refine qE.steps 2 hd9 (s' := (82, [(6, .int (Int32.ofInt 0)), (5, .ref p3.1), (4, .int (c_apartEnv_100 i1 σ)), (3, .int (c_apartGoal_99 i1 σ)), (2, .int (c_changes_84 σ)), (0, .ref 44), (1, .int i1)], [.ref 7, .ref p3.1], (p6, y))) rfl ?_
    by_cases c8 : 1 ≤ p3.1 ∧ p3.1 < 11
    case neg => rw [if_neg c8] at h; cases h
    rw [if_pos c8] at h
    refine qE.acmp hd9 ⟨c8, by decide⟩ rfl rfl ?_
    show qE S d jm_3_testApart_98 (if ¬ (p3.1 = 7) then 97 else 85, [(6, .int (Int32.ofInt 0)), (5, .ref p3.1), (4, .int (c_apartEnv_100 i1 σ)), (3, .int (c_apartGoal_99 i1 σ)), (2, .int (c_changes_84 σ)), (0, .ref 44), (1, .int i1)], [], (p6, y)) _
    by_cases c9 : p3.1 = 7
    · rw [if_pos c9] at h
      rw [if_neg (not_not_intro c9)]
      refine qE.steps 3 hd9 (s' := (90, [(6, .int (Int32.ofInt 0)), (5, .ref p3.1), (4, .int (c_apartEnv_100 i1 σ)), (3, .int (c_apartGoal_99 i1 σ)), (2, .int (c_changes_84 σ)), (0, .ref 44), (1, .int i1)], [.int i1, .ref 35], (p6, y))) rfl ?_
      obtain ⟨p10, e11, h⟩ := obind h
      refine qE.call hd9 rfl rfl rfl rfl (t_c_settle_103 (by omega) e11) ?_
      refine qE.steps 0 hd9 (s' := (93, [(6, .int (Int32.ofInt 0)), (5, .ref p3.1), (4, .int (c_apartEnv_100 i1 σ)), (3, .int (c_apartGoal_99 i1 σ)), (2, .int (c_changes_84 σ)), (0, .ref 44), (1, .int i1)], [], (p10, y))) rfl ?_
      refine qE.steps 1 hd9 (s' := (96, [(6, .int (Int32.ofInt 0)), (5, .ref p3.1), (4, .int (c_apartEnv_100 i1 σ)), (3, .int (c_apartGoal_99 i1 σ)), (2, .int (c_changes_84 σ)), (0, .ref 44), (1, .int i1)], [.ref 1], (p10, y))) rfl ?_
      obtain rfl := Option.some.inj h
      exact qE.ret hd9 rfl rfl
    · rw [if_neg c9] at h
      rw [if_pos c9]
      refine qE.steps 2 hd9 (s' := (102, [(6, .int (Int32.ofInt 0)), (5, .ref p3.1), (4, .int (c_apartEnv_100 i1 σ)), (3, .int (c_apartGoal_99 i1 σ)), (2, .int (c_changes_84 σ)), (0, .ref 44), (1, .int i1)], [.ref 1, .ref p3.1], (p6, y))) rfl ?_
      refine qE.acmp hd9 ⟨c8, by decide⟩ rfl rfl ?_
      show qE S d jm_3_testApart_98 (if ¬ (p3.1 = 1) then 116 else 105, [(6, .int (Int32.ofInt 0)), (5, .ref p3.1), (4, .int (c_apartEnv_100 i1 σ)), (3, .int (c_apartGoal_99 i1 σ)), (2, .int (c_changes_84 σ)), (0, .ref 44), (1, .int i1)], [], (p6, y)) _
      by_cases c12 : p3.1 = 1
      · rw [if_pos c12] at h
        rw [if_neg (not_not_intro c12)]
        refine qE.steps 4 hd9 (s' := (118, [(6, .int (Int32.ofInt 0)), (5, .ref p3.1), (4, .int (c_apartEnv_100 i1 σ)), (3, .int (c_apartGoal_99 i1 σ)), (2, .int (c_changes_84 σ)), (0, .ref 44), (1, .int i1)], [.ref 7], (p6, y))) rfl ?_
        obtain rfl := Option.some.inj h
        exact qE.ret hd9 rfl rfl
      · rw [if_neg c12] at h
        rw [if_pos c12]
        refine qE.steps 1 hd9 (s' := (118, [(6, .int (Int32.ofInt 0)), (5, .ref p3.1), (4, .int (c_apartEnv_100 i1 σ)), (3, .int (c_apartGoal_99 i1 σ)), (2, .int (c_changes_84 σ)), (0, .ref 44), (1, .int i1)], [.ref p3.1], (p6, y))) rfl ?_
        obtain rfl := Option.some.inj h
        exact qE.ret hd9 rfl rfl
  · rw [if_neg c5] at h
    rw [if_neg c5]
    refine qE.steps 6 hd9 (s' := (74, [(6, .int (Int32.ofInt 1)), (5, .ref p3.1), (4, .int (c_apartEnv_100 i1 σ)), (3, .int (c_apartGoal_99 i1 σ)), (2, .int (c_changes_84 σ)), (0, .ref 44), (1, .int i1)], [.int (c_changes_84 σ), .ref 35], (p3.2, y))) rfl ?_
    obtain ⟨p13, e14, h⟩ := obind h
    refine qE.call hd9 rfl rfl rfl rfl (t_c_goBack_101 (by omega) e14) ?_
    refine qE.steps 0 hd9 (s' := (77, [(6, .int (Int32.ofInt 1)), (5, .ref p3.1), (4, .int (c_apartEnv_100 i1 σ)), (3, .int (c_apartGoal_99 i1 σ)), (2, .int (c_changes_84 σ)), (0, .ref 44), (1, .int i1)], [], (p13, y))) rfl ?_
    refine qE.steps 2 hd9 (s' := (82, [(6, .int (Int32.ofInt 1)), (5, .ref p3.1), (4, .int (c_apartEnv_100 i1 σ)), (3, .int (c_apartGoal_99 i1 σ)), (2, .int (c_changes_84 σ)), (0, .ref 44), (1, .int i1)], [.ref 7, .ref p3.1], (p13, y))) rfl ?_
    by_cases c15 : 1 ≤ p3.1 ∧ p3.1 < 11
    case neg => rw [if_neg c15] at h; cases h
    rw [if_pos c15] at h
    refine qE.acmp hd9 ⟨c15, by decide⟩ rfl rfl ?_
    show qE S d jm_3_testApart_98 (if ¬ (p3.1 = 7) then 97 else 85, [(6, .int (Int32.ofInt 1)), (5, .ref p3.1), (4, .int (c_apartEnv_100 i1 σ)), (3, .int (c_apartGoal_99 i1 σ)), (2, .int (c_changes_84 σ)), (0, .ref 44), (1, .int i1)], [], (p13, y)) _
    by_cases c16 : p3.1 = 7
    · rw [if_pos c16] at h
      rw [if_neg (not_not_intro c16)]
      refine qE.steps 3 hd9 (s' := (90, [(6, .int (Int32.ofInt 1)), (5, .ref p3.1), (4, .int (c_apartEnv_100 i1 σ)), (3, .int (c_apartGoal_99 i1 σ)), (2, .int (c_changes_84 σ)), (0, .ref 44), (1, .int i1)], [.int i1, .ref 35], (p13, y))) rfl ?_
      obtain ⟨p17, e18, h⟩ := obind h
      refine qE.call hd9 rfl rfl rfl rfl (t_c_settle_103 (by omega) e18) ?_
      refine qE.steps 0 hd9 (s' := (93, [(6, .int (Int32.ofInt 1)), (5, .ref p3.1), (4, .int (c_apartEnv_100 i1 σ)), (3, .int (c_apartGoal_99 i1 σ)), (2, .int (c_changes_84 σ)), (0, .ref 44), (1, .int i1)], [], (p17, y))) rfl ?_
      refine qE.steps 1 hd9 (s' := (96, [(6, .int (Int32.ofInt 1)), (5, .ref p3.1), (4, .int (c_apartEnv_100 i1 σ)), (3, .int (c_apartGoal_99 i1 σ)), (2, .int (c_changes_84 σ)), (0, .ref 44), (1, .int i1)], [.ref 1], (p17, y))) rfl ?_
      obtain rfl := Option.some.inj h
      exact qE.ret hd9 rfl rfl
    · rw [if_neg c16] at h
      rw [if_pos c16]
      refine qE.steps 2 hd9 (s' := (102, [(6, .int (Int32.ofInt 1)), (5, .ref p3.1), (4, .int (c_apartEnv_100 i1 σ)), (3, .int (c_apartGoal_99 i1 σ)), (2, .int (c_changes_84 σ)), (0, .ref 44), (1, .int i1)], [.ref 1, .ref p3.1], (p13, y))) rfl ?_
      refine qE.acmp hd9 ⟨c15, by decide⟩ rfl rfl ?_
      show qE S d jm_3_testApart_98 (if ¬ (p3.1 = 1) then 116 else 105, [(6, .int (Int32.ofInt 1)), (5, .ref p3.1), (4, .int (c_apartEnv_100 i1 σ)), (3, .int (c_apartGoal_99 i1 σ)), (2, .int (c_changes_84 σ)), (0, .ref 44), (1, .int i1)], [], (p13, y)) _
      by_cases c19 : p3.1 = 1
      · rw [if_pos c19] at h
        rw [if_neg (not_not_intro c19)]
        refine qE.steps 3 hd9 (s' := (118, [(6, .int (Int32.ofInt 1)), (5, .ref p3.1), (4, .int (c_apartEnv_100 i1 σ)), (3, .int (c_apartGoal_99 i1 σ)), (2, .int (c_changes_84 σ)), (0, .ref 44), (1, .int i1)], [.ref p3.1], (p13, y))) rfl ?_
        obtain rfl := Option.some.inj h
        exact qE.ret hd9 rfl rfl
      · rw [if_neg c19] at h
        rw [if_pos c19]
        refine qE.steps 1 hd9 (s' := (118, [(6, .int (Int32.ofInt 1)), (5, .ref p3.1), (4, .int (c_apartEnv_100 i1 σ)), (3, .int (c_apartGoal_99 i1 σ)), (2, .int (c_changes_84 σ)), (0, .ref 44), (1, .int i1)], [.ref p3.1], (p13, y))) rfl ?_
        obtain rfl := Option.some.inj h
        exact qE.ret hd9 rfl rfl
def c_testAparts_97_l2 : Nat → Int32 → qC → Option (Nat × qC)
  | 0, _, _ => none
  | n + 1, i1, σ => if c_aparts_87 σ ≤ i1 then some (9, σ) else if c_isWaiting_17 i1 σ = 0 then (c_testAparts_97_l2 n) (i1 + Int32.ofInt 1) σ else (c_testApart_98 i1 σ).bind (fun p3 => if 1 ≤ p3.1 ∧ p3.1 < 11 then (if p3.1 = 1 then (c_testAparts_97_l2 n) (i1 + Int32.ofInt 1) p3.2 else some (p3.1, p3.2)) else none)
def c_testAparts_97 (σ : qC) : Option (Nat × qC) := c_testAparts_97_l2 qF (Int32.ofInt 0) σ
set_option maxRecDepth 20000 in
theorem t_c_testAparts_97_l2 {S : Nat × (Nat → Int32)} {d : Nat} {y : qC × Int64 × Nat} (hd : 14 ≤ d) : ∀ (n : Nat) {i1 : Int32} {σ : qC} {p : (Nat × qC)}, c_testAparts_97_l2 n i1 σ = some p → qE S d jm_3_testAparts_97 (2, [(0, .ref 44), (1, .int i1)], [], (σ, y)) ((.inl (some (.ref p.1)), (p.2, y))) := by
  have hd9 : 9 ≤ d := by omega
  intro n
  induction n with
  | zero =>
    intros
    rename_i h
    unfold c_testAparts_97_l2 at h
    cases h
  | succ n ih =>
    intro i1 σ p h
    unfold c_testAparts_97_l2 at h
    refine qE.steps 3 hd9 (s' := (7, [(0, .ref 44), (1, .int i1)], [.ref 35, .int i1], (σ, y))) rfl ?_
    refine qE.call hd9 rfl rfl rfl rfl (t_c_aparts_87 (by omega) rfl) ?_
    refine qE.steps 0 hd9 (s' := (10, [(0, .ref 44), (1, .int i1)], [.int (c_aparts_87 σ), .int i1], (σ, y))) rfl ?_
    refine qE.steps 1 hd9 (s' := (if c_aparts_87 σ ≤ i1 then 51 else 13, [(0, .ref 44), (1, .int i1)], [], (σ, y))) rfl ?_
    by_cases c1 : c_aparts_87 σ ≤ i1
    · rw [if_pos c1] at h
      rw [if_pos c1]
      refine qE.steps 1 hd9 (s' := (54, [(0, .ref 44), (1, .int i1)], [.ref 9], (σ, y))) rfl ?_
      obtain rfl := Option.some.inj h
      exact qE.ret hd9 rfl rfl
    · rw [if_neg c1] at h
      rw [if_neg c1]
      refine qE.steps 3 hd9 (s' := (18, [(0, .ref 44), (1, .int i1)], [.int i1, .ref 35], (σ, y))) rfl ?_
      refine qE.call hd9 rfl rfl rfl rfl (t_c_isWaiting_17 (by omega) rfl) ?_
      refine qE.steps 0 hd9 (s' := (21, [(0, .ref 44), (1, .int i1)], [.int (c_isWaiting_17 i1 σ)], (σ, y))) rfl ?_
      refine qE.steps 1 hd9 (s' := (if c_isWaiting_17 i1 σ = 0 then 32 else 24, [(0, .ref 44), (1, .int i1)], [], (σ, y))) rfl ?_
      by_cases c2 : c_isWaiting_17 i1 σ = 0
      · rw [if_pos c2] at h
        rw [if_pos c2]
        refine qE.steps 7 hd9 (s' := (2, [(1, .int (i1 + Int32.ofInt 1)), (2, .ref 1), (0, .ref 44)], [], (σ, y))) rfl ?_
        exact qE.wk (ih h) ⟨rfl, rfl, trivial⟩ rfl
      · rw [if_neg c2] at h
        rw [if_neg c2]
        refine qE.steps 2 hd9 (s' := (26, [(0, .ref 44), (1, .int i1)], [.int i1, .ref 44], (σ, y))) rfl ?_
        obtain ⟨p3, e4, h⟩ := obind h
        refine qE.call hd9 rfl rfl rfl rfl (t_c_testApart_98 (by omega) e4) ?_
        refine qE.steps 0 hd9 (s' := (29, [(0, .ref 44), (1, .int i1)], [.ref p3.1], (p3.2, y))) rfl ?_
        refine qE.steps 4 hd9 (s' := (40, [(2, .ref p3.1), (0, .ref 44), (1, .int i1)], [.ref 1, .ref p3.1], (p3.2, y))) rfl ?_
        by_cases c5 : 1 ≤ p3.1 ∧ p3.1 < 11
        case neg => rw [if_neg c5] at h; cases h
        rw [if_pos c5] at h
        refine qE.acmp hd9 ⟨c5, by decide⟩ rfl rfl ?_
        show qE S d jm_3_testAparts_97 (if p3.1 = 1 then 45 else 43, [(2, .ref p3.1), (0, .ref 44), (1, .int i1)], [], (p3.2, y)) _
        by_cases c6 : p3.1 = 1
        · rw [if_pos c6] at h
          rw [if_pos c6]
          refine qE.steps 2 hd9 (s' := (2, [(1, .int (i1 + Int32.ofInt 1)), (2, .ref p3.1), (0, .ref 44)], [], (p3.2, y))) rfl ?_
          exact qE.wk (ih h) ⟨rfl, rfl, trivial⟩ rfl
        · rw [if_neg c6] at h
          rw [if_neg c6]
          refine qE.steps 1 hd9 (s' := (44, [(2, .ref p3.1), (0, .ref 44), (1, .int i1)], [.ref p3.1], (p3.2, y))) rfl ?_
          obtain rfl := Option.some.inj h
          exact qE.ret hd9 rfl rfl
set_option maxRecDepth 20000 in
theorem t_c_testAparts_97 {S : Nat × (Nat → Int32)} {d : Nat} {y : qC × Int64 × Nat} {σ : qC} {p : (Nat × qC)} (hd : 14 ≤ d) (h : c_testAparts_97 σ = some p) : qE S d jm_3_testAparts_97 (0, [(0, .ref 44)], [], (σ, y)) ((.inl (some (.ref p.1)), (p.2, y))) := by
  have hd9 : 9 ≤ d := by omega
  unfold c_testAparts_97 at h
  refine qE.steps 2 hd9 (s' := (2, [(1, .int (Int32.ofInt 0)), (0, .ref 44)], [], (σ, y))) rfl ?_
  exact qE.wk (t_c_testAparts_97_l2 hd qF h) ⟨rfl, rfl, trivial⟩ rfl
def c_wokenGoal_106 (i1 : Int32) (σ : qC) : Int32 := tat σ 47 4 i1 (Int32.ofInt 0)
set_option maxRecDepth 20000 in
theorem t_c_wokenGoal_106 {S : Nat × (Nat → Int32)} {d : Nat} {y : qC × Int64 × Nat} {i1 : Int32} {σ : qC} {p : Int32} (hd : 9 ≤ d) (h : c_wokenGoal_106 i1 σ = p) : qE S d jm_3_wokenGoal_106 (0, [(0, .ref 44), (1, .int i1)], [], (σ, y)) ((.inl (some (.int p)), (σ, y))) := by
  have hd9 : 9 ≤ d := by omega
  unfold c_wokenGoal_106 at h
  refine qE.steps 5 hd9 (s' := (9, [(0, .ref 44), (1, .int i1)], [.int (tat σ 47 4 i1 (Int32.ofInt 0))], (σ, y))) rfl ?_
  subst h
  exact qE.ret hd9 rfl rfl
def c_sleeperGoal_107 (i1 : Int32) (σ : qC) : Int32 := tat σ 38 4 i1 (Int32.ofInt 0)
set_option maxRecDepth 20000 in
theorem t_c_sleeperGoal_107 {S : Nat × (Nat → Int32)} {d : Nat} {y : qC × Int64 × Nat} {i1 : Int32} {σ : qC} {p : Int32} (hd : 9 ≤ d) (h : c_sleeperGoal_107 i1 σ = p) : qE S d jm_7_sleeperGoal_107 (0, [(0, .ref 35), (1, .int i1)], [], (σ, y)) ((.inl (some (.int p)), (σ, y))) := by
  have hd9 : 9 ≤ d := by omega
  unfold c_sleeperGoal_107 at h
  refine qE.steps 5 hd9 (s' := (9, [(0, .ref 35), (1, .int i1)], [.int (tat σ 38 4 i1 (Int32.ofInt 0))], (σ, y))) rfl ?_
  subst h
  exact qE.ret hd9 rfl rfl
def c_sleeperEnv_108 (i1 : Int32) (σ : qC) : Int32 := tat σ 38 4 i1 (Int32.ofInt 1)
set_option maxRecDepth 20000 in
theorem t_c_sleeperEnv_108 {S : Nat × (Nat → Int32)} {d : Nat} {y : qC × Int64 × Nat} {i1 : Int32} {σ : qC} {p : Int32} (hd : 9 ≤ d) (h : c_sleeperEnv_108 i1 σ = p) : qE S d jm_7_sleeperEnv_108 (0, [(0, .ref 35), (1, .int i1)], [], (σ, y)) ((.inl (some (.int p)), (σ, y))) := by
  have hd9 : 9 ≤ d := by omega
  unfold c_sleeperEnv_108 at h
  refine qE.steps 5 hd9 (s' := (9, [(0, .ref 35), (1, .int i1)], [.int (tat σ 38 4 i1 (Int32.ofInt 1))], (σ, y))) rfl ?_
  subst h
  exact qE.ret hd9 rfl rfl
def c_wokenGoals_105 (σ : qC) : Int32 := σ.1 4702
set_option maxRecDepth 20000 in
theorem t_c_wokenGoals_105 {S : Nat × (Nat → Int32)} {d : Nat} {y : qC × Int64 × Nat} {σ : qC} {p : Int32} (hd : 9 ≤ d) (h : c_wokenGoals_105 σ = p) : qE S d jm_3_wokenGoals_105 (0, [(0, .ref 44)], [], (σ, y)) ((.inl (some (.int p)), (σ, y))) := by
  have hd9 : 9 ≤ d := by omega
  unfold c_wokenGoals_105 at h
  refine qE.steps 3 hd9 (s' := (7, [(0, .ref 44)], [.int (σ.1 4702)], (σ, y))) rfl ?_
  subst h
  exact qE.ret hd9 rfl rfl
def c_putWokenInFront_104_l10 : Nat → Int32 → qC → Option (Nat × qC)
  | 0, _, _ => none
  | n + 1, i1, σ => if i1 < 0 then some (1, σ) else (c_putInFront_75 (c_sleeperGoal_107 (c_wokenGoal_106 i1 σ) σ) (c_sleeperEnv_108 (c_wokenGoal_106 i1 σ) σ) σ).bind (fun p2 => (c_putWokenInFront_104_l10 n) (i1 + Int32.ofInt (-1)) p2)
def c_putWokenInFront_104 (σ : qC) : Option (Nat × qC) := c_putWokenInFront_104_l10 qF ((c_wokenGoals_105 σ) - (Int32.ofInt 1)) σ
set_option maxRecDepth 20000 in
theorem t_c_putWokenInFront_104_l10 {S : Nat × (Nat → Int32)} {d : Nat} {y : qC × Int64 × Nat} (hd : 10 ≤ d) : ∀ (n : Nat) {i1 : Int32} {σ : qC} {p : (Nat × qC)}, c_putWokenInFront_104_l10 n i1 σ = some p → qE S d jm_6_putWokenInFront_104 (10, [(0, .ref 51), (1, .int i1)], [], (σ, y)) ((.inl (some (.ref p.1)), (p.2, y))) := by
  have hd9 : 9 ≤ d := by omega
  intro n
  induction n with
  | zero =>
    intros
    rename_i h
    unfold c_putWokenInFront_104_l10 at h
    cases h
  | succ n ih =>
    intro i1 σ p h
    unfold c_putWokenInFront_104_l10 at h
    refine qE.steps 2 hd9 (s' := (if i1 < 0 then 49 else 14, [(0, .ref 51), (1, .int i1)], [], (σ, y))) rfl ?_
    by_cases c1 : i1 < 0
    · rw [if_pos c1] at h
      rw [if_pos c1]
      refine qE.steps 1 hd9 (s' := (52, [(0, .ref 51), (1, .int i1)], [.ref 1], (σ, y))) rfl ?_
      obtain rfl := Option.some.inj h
      exact qE.ret hd9 rfl rfl
    · rw [if_neg c1] at h
      rw [if_neg c1]
      refine qE.steps 3 hd9 (s' := (19, [(0, .ref 51), (1, .int i1)], [.int i1, .ref 44], (σ, y))) rfl ?_
      refine qE.call hd9 rfl rfl rfl rfl (t_c_wokenGoal_106 (by omega) rfl) ?_
      refine qE.steps 0 hd9 (s' := (22, [(0, .ref 51), (1, .int i1)], [.int (c_wokenGoal_106 i1 σ)], (σ, y))) rfl ?_
      refine qE.steps 5 hd9 (s' := (29, [(2, .int (c_wokenGoal_106 i1 σ)), (0, .ref 51), (1, .int i1)], [.int (c_wokenGoal_106 i1 σ), .ref 35, .ref 51], (σ, y))) rfl ?_
      refine qE.call hd9 rfl rfl rfl rfl (t_c_sleeperGoal_107 (by omega) rfl) ?_
      refine qE.steps 0 hd9 (s' := (32, [(2, .int (c_wokenGoal_106 i1 σ)), (0, .ref 51), (1, .int i1)], [.int (c_sleeperGoal_107 (c_wokenGoal_106 i1 σ) σ), .ref 51], (σ, y))) rfl ?_
      refine qE.steps 3 hd9 (s' := (37, [(2, .int (c_wokenGoal_106 i1 σ)), (0, .ref 51), (1, .int i1)], [.int (c_wokenGoal_106 i1 σ), .ref 35, .int (c_sleeperGoal_107 (c_wokenGoal_106 i1 σ) σ), .ref 51], (σ, y))) rfl ?_
      refine qE.call hd9 rfl rfl rfl rfl (t_c_sleeperEnv_108 (by omega) rfl) ?_
      refine qE.steps 0 hd9 (s' := (40, [(2, .int (c_wokenGoal_106 i1 σ)), (0, .ref 51), (1, .int i1)], [.int (c_sleeperEnv_108 (c_wokenGoal_106 i1 σ) σ), .int (c_sleeperGoal_107 (c_wokenGoal_106 i1 σ) σ), .ref 51], (σ, y))) rfl ?_
      obtain ⟨p2, e3, h⟩ := obind h
      refine qE.call hd9 rfl rfl rfl rfl (t_c_putInFront_75 (by omega) e3) ?_
      refine qE.steps 0 hd9 (s' := (43, [(2, .int (c_wokenGoal_106 i1 σ)), (0, .ref 51), (1, .int i1)], [], (p2, y))) rfl ?_
      refine qE.steps 2 hd9 (s' := (10, [(1, .int (i1 + Int32.ofInt (-1))), (2, .int (c_wokenGoal_106 i1 σ)), (0, .ref 51)], [], (p2, y))) rfl ?_
      exact qE.wk (ih h) ⟨rfl, rfl, trivial⟩ rfl
set_option maxRecDepth 20000 in
theorem t_c_putWokenInFront_104 {S : Nat × (Nat → Int32)} {d : Nat} {y : qC × Int64 × Nat} {σ : qC} {p : (Nat × qC)} (hd : 10 ≤ d) (h : c_putWokenInFront_104 σ = some p) : qE S d jm_6_putWokenInFront_104 (0, [(0, .ref 51)], [], (σ, y)) ((.inl (some (.ref p.1)), (p.2, y))) := by
  have hd9 : 9 ≤ d := by omega
  unfold c_putWokenInFront_104 at h
  refine qE.steps 2 hd9 (s' := (4, [(0, .ref 51)], [.ref 44], (σ, y))) rfl ?_
  refine qE.call hd9 rfl rfl rfl rfl (t_c_wokenGoals_105 (by omega) rfl) ?_
  refine qE.steps 0 hd9 (s' := (7, [(0, .ref 51)], [.int (c_wokenGoals_105 σ)], (σ, y))) rfl ?_
  refine qE.steps 3 hd9 (s' := (10, [(1, .int ((c_wokenGoals_105 σ) - (Int32.ofInt 1))), (0, .ref 51)], [], (σ, y))) rfl ?_
  exact qE.wk (t_c_putWokenInFront_104_l10 hd qF h) ⟨rfl, rfl, trivial⟩ rfl
def c_forget_110 (i1 : Int32) (i2 : Int32) (i3 : Int32) (σ : qC) : Option qC := qlet (tshr σ 36 i1) (fun σ1 => qlet (tshr σ1 38 i2) (fun σ3 => qlet (tshr σ3 40 i3) (fun σ5 => some σ5)))
set_option maxRecDepth 20000 in
theorem t_c_forget_110 {S : Nat × (Nat → Int32)} {d : Nat} {y : qC × Int64 × Nat} {i1 : Int32} {i2 : Int32} {i3 : Int32} {σ : qC} {p : qC} (hd : 9 ≤ d) (h : c_forget_110 i1 i2 i3 σ = some p) : qE S d jm_7_forget_110 (0, [(0, .ref 35), (1, .int i1), (2, .int i2), (3, .int i3)], [], (σ, y)) ((.inl none, (p, y))) := by
  have hd9 : 9 ≤ d := by omega
  unfold c_forget_110 at h
  obtain ⟨σ1, e2, h⟩ := qlet_ex h
  refine qE.steps 4 hd9 (s' := (8, [(0, .ref 35), (1, .int i1), (2, .int i2), (3, .int i3)], [], (σ1, y))) (by subst e2; rfl) ?_
  obtain ⟨σ3, e4, h⟩ := qlet_ex h
  refine qE.steps 4 hd9 (s' := (16, [(0, .ref 35), (1, .int i1), (2, .int i2), (3, .int i3)], [], (σ3, y))) (by subst e4; rfl) ?_
  obtain ⟨σ5, e6, h⟩ := qlet_ex h
  refine qE.steps 4 hd9 (s' := (24, [(0, .ref 35), (1, .int i1), (2, .int i2), (3, .int i3)], [], (σ5, y))) (by subst e6; rfl) ?_
  obtain rfl := Option.some.inj h
  exact qE.ret hd9 rfl rfl
def c_retry_109 (σ : qC) : Option (Nat × qC) := if 0 ≤ (σ.1 5402) - (Int32.ofInt 1) then (c_goBack_101 (tat σ 54 9 ((σ.1 5402) - (Int32.ofInt 1)) (Int32.ofInt 4)) σ).bind (fun p2 => (c_forget_110 (tat p2 54 9 ((σ.1 5402) - (Int32.ofInt 1)) (Int32.ofInt 5)) (tat p2 54 9 ((σ.1 5402) - (Int32.ofInt 1)) (Int32.ofInt 6)) (tat p2 54 9 ((σ.1 5402) - (Int32.ofInt 1)) (Int32.ofInt 7)) p2).bind (fun p4 => qlet (tshr p4 52 (tat p4 54 9 ((σ.1 5402) - (Int32.ofInt 1)) (Int32.ofInt 8))) (fun σ6 => qlet (upS σ6 5108 (tat σ6 54 9 ((σ.1 5402) - (Int32.ofInt 1)) (Int32.ofInt 3))) (fun σ8 => qlet (tat σ8 54 9 ((σ.1 5402) - (Int32.ofInt 1)) (Int32.ofInt 0)) (fun x10 => qlet (tat σ8 54 9 ((σ.1 5402) - (Int32.ofInt 1)) (Int32.ofInt 1)) (fun x12 => qlet (tat σ8 54 9 ((σ.1 5402) - (Int32.ofInt 1)) (Int32.ofInt 2)) (fun x14 => (c_find_80 (x14 + (Int32.ofInt 1)) x10 σ8).bind (fun p16 => if p16 = Int32.ofInt (-1) then qlet (tshr σ8 54 ((σ.1 5402) - (Int32.ofInt 1))) (fun σ19 => (c_take_88 x14 x10 x12 ((σ.1 5402) - (Int32.ofInt 1)) σ19).bind (fun p21 => some (4, p21))) else (tputO σ8 54 9 ((σ.1 5402) - (Int32.ofInt 1)) (Int32.ofInt 2) p16).bind (fun σ23 => (c_take_88 x14 x10 x12 ((σ.1 5402) - (Int32.ofInt 1)) σ23).bind (fun p25 => some (4, p25))))))))))) else some (10, σ)
set_option maxRecDepth 20000 in
theorem t_c_retry_109 {S : Nat × (Nat → Int32)} {d : Nat} {y : qC × Int64 × Nat} {σ : qC} {p : (Nat × qC)} (hd : 13 ≤ d) (h : c_retry_109 σ = some p) : qE S d jm_6_retry_109 (0, [(0, .ref 51)], [], (σ, y)) ((.inl (some (.ref p.1)), (p.2, y))) := by
  have hd9 : 9 ≤ d := by omega
  unfold c_retry_109 at h
  refine qE.steps 8 hd9 (s' := (if 0 ≤ (σ.1 5402) - (Int32.ofInt 1) then 18 else 14, [(1, .int ((σ.1 5402) - (Int32.ofInt 1))), (0, .ref 51)], [], (σ, y))) rfl ?_
  by_cases c1 : 0 ≤ (σ.1 5402) - (Int32.ofInt 1)
  · rw [if_pos c1] at h
    rw [if_pos c1]
    refine qE.steps 7 hd9 (s' := (31, [(1, .int ((σ.1 5402) - (Int32.ofInt 1))), (0, .ref 51)], [.int (tat σ 54 9 ((σ.1 5402) - (Int32.ofInt 1)) (Int32.ofInt 4)), .ref 35], (σ, y))) rfl ?_
    obtain ⟨p2, e3, h⟩ := obind h
    refine qE.call hd9 rfl rfl rfl rfl (t_c_goBack_101 (by omega) e3) ?_
    refine qE.steps 0 hd9 (s' := (34, [(1, .int ((σ.1 5402) - (Int32.ofInt 1))), (0, .ref 51)], [], (p2, y))) rfl ?_
    refine qE.steps 17 hd9 (s' := (67, [(1, .int ((σ.1 5402) - (Int32.ofInt 1))), (0, .ref 51)], [.int (tat p2 54 9 ((σ.1 5402) - (Int32.ofInt 1)) (Int32.ofInt 7)), .int (tat p2 54 9 ((σ.1 5402) - (Int32.ofInt 1)) (Int32.ofInt 6)), .int (tat p2 54 9 ((σ.1 5402) - (Int32.ofInt 1)) (Int32.ofInt 5)), .ref 35], (p2, y))) rfl ?_
    obtain ⟨p4, e5, h⟩ := obind h
    refine qE.call hd9 rfl rfl rfl rfl (t_c_forget_110 (by omega) e5) ?_
    refine qE.steps 0 hd9 (s' := (70, [(1, .int ((σ.1 5402) - (Int32.ofInt 1))), (0, .ref 51)], [], (p4, y))) rfl ?_
    obtain ⟨σ6, e7, h⟩ := qlet_ex h
    refine qE.steps 8 hd9 (s' := (87, [(1, .int ((σ.1 5402) - (Int32.ofInt 1))), (0, .ref 51)], [], (σ6, y))) (by subst e7; rfl) ?_
    obtain ⟨σ8, e9, h⟩ := qlet_ex h
    refine qE.steps 7 hd9 (s' := (100, [(1, .int ((σ.1 5402) - (Int32.ofInt 1))), (0, .ref 51)], [], (σ8, y))) (by subst e9; rfl) ?_
    obtain ⟨x10, e11, h⟩ := qlet_ex h
    refine qE.steps 6 hd9 (s' := (110, [(2, .int x10), (1, .int ((σ.1 5402) - (Int32.ofInt 1))), (0, .ref 51)], [], (σ8, y))) (by subst e11; rfl) ?_
    obtain ⟨x12, e13, h⟩ := qlet_ex h
    refine qE.steps 6 hd9 (s' := (120, [(3, .int x12), (2, .int x10), (1, .int ((σ.1 5402) - (Int32.ofInt 1))), (0, .ref 51)], [], (σ8, y))) (by subst e13; rfl) ?_
    obtain ⟨x14, e15, h⟩ := qlet_ex h
    refine qE.steps 6 hd9 (s' := (131, [(4, .int x14), (3, .int x12), (2, .int x10), (1, .int ((σ.1 5402) - (Int32.ofInt 1))), (0, .ref 51)], [], (σ8, y))) (by subst e15; rfl) ?_
    refine qE.steps 6 hd9 (s' := (140, [(4, .int x14), (3, .int x12), (2, .int x10), (1, .int ((σ.1 5402) - (Int32.ofInt 1))), (0, .ref 51)], [.int x10, .int (x14 + (Int32.ofInt 1)), .ref 33], (σ8, y))) rfl ?_
    obtain ⟨p16, e17, h⟩ := obind h
    refine qE.call hd9 rfl rfl rfl rfl (t_c_find_80 (by omega) e17) ?_
    refine qE.steps 0 hd9 (s' := (143, [(4, .int x14), (3, .int x12), (2, .int x10), (1, .int ((σ.1 5402) - (Int32.ofInt 1))), (0, .ref 51)], [.int p16], (σ8, y))) rfl ?_
    refine qE.steps 4 hd9 (s' := (if ¬ (p16 = Int32.ofInt (-1)) then 162 else 151, [(5, .int p16), (4, .int x14), (3, .int x12), (2, .int x10), (1, .int ((σ.1 5402) - (Int32.ofInt 1))), (0, .ref 51)], [], (σ8, y))) rfl ?_
    by_cases c18 : p16 = Int32.ofInt (-1)
    · rw [if_pos c18] at h
      rw [if_neg (not_not_intro c18)]
      obtain ⟨σ19, e20, h⟩ := qlet_ex h
      refine qE.steps 4 hd9 (s' := (159, [(5, .int p16), (4, .int x14), (3, .int x12), (2, .int x10), (1, .int ((σ.1 5402) - (Int32.ofInt 1))), (0, .ref 51)], [], (σ19, y))) (by subst e20; rfl) ?_
      refine qE.steps 6 hd9 (s' := (179, [(5, .int p16), (4, .int x14), (3, .int x12), (2, .int x10), (1, .int ((σ.1 5402) - (Int32.ofInt 1))), (0, .ref 51)], [.int ((σ.1 5402) - (Int32.ofInt 1)), .int x12, .int x10, .int x14, .ref 51], (σ19, y))) rfl ?_
      obtain ⟨p21, e22, h⟩ := obind h
      refine qE.call hd9 rfl rfl rfl rfl (t_c_take_88 (by omega) e22) ?_
      refine qE.steps 0 hd9 (s' := (182, [(5, .int p16), (4, .int x14), (3, .int x12), (2, .int x10), (1, .int ((σ.1 5402) - (Int32.ofInt 1))), (0, .ref 51)], [], (p21, y))) rfl ?_
      refine qE.steps 1 hd9 (s' := (185, [(5, .int p16), (4, .int x14), (3, .int x12), (2, .int x10), (1, .int ((σ.1 5402) - (Int32.ofInt 1))), (0, .ref 51)], [.ref 4], (p21, y))) rfl ?_
      obtain rfl := Option.some.inj h
      exact qE.ret hd9 rfl rfl
    · rw [if_neg c18] at h
      rw [if_pos c18]
      refine qE.steps 5 hd9 (s' := (170, [(5, .int p16), (4, .int x14), (3, .int x12), (2, .int x10), (1, .int ((σ.1 5402) - (Int32.ofInt 1))), (0, .ref 51)], [.int p16, .int (Int32.ofInt 2), .int ((σ.1 5402) - (Int32.ofInt 1)), .ref 54], (σ8, y))) rfl ?_
      obtain ⟨σ23, e24, h⟩ := obind h
      refine qE.tab hd9 (qtab_put e24 rfl) rfl rfl rfl ?_
      refine qE.steps 5 hd9 (s' := (179, [(5, .int p16), (4, .int x14), (3, .int x12), (2, .int x10), (1, .int ((σ.1 5402) - (Int32.ofInt 1))), (0, .ref 51)], [.int ((σ.1 5402) - (Int32.ofInt 1)), .int x12, .int x10, .int x14, .ref 51], (σ23, y))) rfl ?_
      obtain ⟨p25, e26, h⟩ := obind h
      refine qE.call hd9 rfl rfl rfl rfl (t_c_take_88 (by omega) e26) ?_
      refine qE.steps 0 hd9 (s' := (182, [(5, .int p16), (4, .int x14), (3, .int x12), (2, .int x10), (1, .int ((σ.1 5402) - (Int32.ofInt 1))), (0, .ref 51)], [], (p25, y))) rfl ?_
      refine qE.steps 1 hd9 (s' := (185, [(5, .int p16), (4, .int x14), (3, .int x12), (2, .int x10), (1, .int ((σ.1 5402) - (Int32.ofInt 1))), (0, .ref 51)], [.ref 4], (p25, y))) rfl ?_
      obtain rfl := Option.some.inj h
      exact qE.ret hd9 rfl rfl
  · rw [if_neg c1] at h
    rw [if_neg c1]
    refine qE.steps 1 hd9 (s' := (17, [(1, .int ((σ.1 5402) - (Int32.ofInt 1))), (0, .ref 51)], [.ref 10], (σ, y))) rfl ?_
    obtain rfl := Option.some.inj h
    exact qE.ret hd9 rfl rfl
def c_seek_63_l4 : Nat → Nat → Int32 → qC → Option (Nat × qC)
  | 0, _, _, _ => none
  | n + 1, o2, i3, σ => if Int32.ofInt 1000000 ≤ i3 then some (3, σ) else if 1 ≤ o2 ∧ o2 < 11 then (if o2 = 1 then if σ.1 5108 = Int32.ofInt (-1) then (c_seek_63_l4 n) 2 (i3 + Int32.ofInt 1) σ else (c_doGoal_64 σ).bind (fun p5 => (c_seek_63_l4 n) p5.1 (i3 + Int32.ofInt 1) p5.2) else if o2 = 4 then (c_makeSame_91 σ).bind (fun p8 => (c_seek_63_l4 n) p8.1 (i3 + Int32.ofInt 1) p8.2) else if o2 = 8 then (c_testAparts_97 σ).bind (fun p11 => (c_seek_63_l4 n) p11.1 (i3 + Int32.ofInt 1) p11.2) else if o2 = 5 then (c_testApart_98 ((c_aparts_87 σ) - (Int32.ofInt 1)) σ).bind (fun p14 => (c_seek_63_l4 n) p14.1 (i3 + Int32.ofInt 1) p14.2) else if o2 = 9 then (c_putWokenInFront_104 σ).bind (fun p17 => (c_seek_63_l4 n) p17.1 (i3 + Int32.ofInt 1) p17.2) else if o2 = 7 then (c_retry_109 σ).bind (fun p20 => (c_seek_63_l4 n) p20.1 (i3 + Int32.ofInt 1) p20.2) else some (o2, σ)) else none
def c_seek_63 (o1 : Nat) (σ : qC) : Option (Nat × qC) := c_seek_63_l4 qF o1 (Int32.ofInt 0) σ
set_option maxRecDepth 20000 in
theorem t_c_seek_63_l4 {S : Nat × (Nat → Int32)} {d : Nat} {y : qC × Int64 × Nat} (hd : 15 ≤ d) : ∀ (n : Nat) {o2 : Nat} {i3 : Int32} {σ : qC} {p : (Nat × qC)}, c_seek_63_l4 n o2 i3 σ = some p → qE S d jm_6_seek_63 (4, [(0, .ref 51), (2, .ref o2), (3, .int i3)], [], (σ, y)) ((.inl (some (.ref p.1)), (p.2, y))) := by
  have hd9 : 9 ≤ d := by omega
  intro n
  induction n with
  | zero =>
    intros
    rename_i h
    unfold c_seek_63_l4 at h
    cases h
  | succ n ih =>
    intro o2 i3 σ p h
    unfold c_seek_63_l4 at h
    refine qE.steps 3 hd9 (s' := (if Int32.ofInt 1000000 ≤ i3 then 140 else 10, [(0, .ref 51), (2, .ref o2), (3, .int i3)], [], (σ, y))) rfl ?_
    by_cases c1 : Int32.ofInt 1000000 ≤ i3
    · rw [if_pos c1] at h
      rw [if_pos c1]
      refine qE.steps 1 hd9 (s' := (143, [(0, .ref 51), (2, .ref o2), (3, .int i3)], [.ref 3], (σ, y))) rfl ?_
      obtain rfl := Option.some.inj h
      exact qE.ret hd9 rfl rfl
    · rw [if_neg c1] at h
      rw [if_neg c1]
      refine qE.steps 2 hd9 (s' := (14, [(0, .ref 51), (2, .ref o2), (3, .int i3)], [.ref 1, .ref o2], (σ, y))) rfl ?_
      by_cases c2 : 1 ≤ o2 ∧ o2 < 11
      case neg => rw [if_neg c2] at h; cases h
      rw [if_pos c2] at h
      refine qE.acmp hd9 ⟨c2, by decide⟩ rfl rfl ?_
      show qE S d jm_6_seek_63 (if ¬ (o2 = 1) then 39 else 17, [(0, .ref 51), (2, .ref o2), (3, .int i3)], [], (σ, y)) _
      by_cases c3 : o2 = 1
      · rw [if_pos c3] at h
        rw [if_neg (not_not_intro c3)]
        refine qE.steps 4 hd9 (s' := (if ¬ (σ.1 5108 = Int32.ofInt (-1)) then 31 else 25, [(0, .ref 51), (2, .ref o2), (3, .int i3)], [], (σ, y))) rfl ?_
        by_cases c4 : σ.1 5108 = Int32.ofInt (-1)
        · rw [if_pos c4] at h
          rw [if_neg (not_not_intro c4)]
          refine qE.steps 6 hd9 (s' := (4, [(3, .int (i3 + Int32.ofInt 1)), (2, .ref 2), (0, .ref 51)], [], (σ, y))) rfl ?_
          exact qE.wk (ih h) ⟨rfl, rfl, rfl, trivial⟩ rfl
        · rw [if_neg c4] at h
          rw [if_pos c4]
          refine qE.steps 1 hd9 (s' := (32, [(0, .ref 51), (2, .ref o2), (3, .int i3)], [.ref 51], (σ, y))) rfl ?_
          obtain ⟨p5, e6, h⟩ := obind h
          refine qE.call hd9 rfl rfl rfl rfl (t_c_doGoal_64 (by omega) e6) ?_
          refine qE.steps 0 hd9 (s' := (35, [(0, .ref 51), (2, .ref o2), (3, .int i3)], [.ref p5.1], (p5.2, y))) rfl ?_
          refine qE.steps 4 hd9 (s' := (4, [(3, .int (i3 + Int32.ofInt 1)), (2, .ref p5.1), (0, .ref 51)], [], (p5.2, y))) rfl ?_
          exact qE.wk (ih h) ⟨rfl, rfl, rfl, trivial⟩ rfl
      · rw [if_neg c3] at h
        rw [if_pos c3]
        refine qE.steps 2 hd9 (s' := (43, [(0, .ref 51), (2, .ref o2), (3, .int i3)], [.ref 4, .ref o2], (σ, y))) rfl ?_
        refine qE.acmp hd9 ⟨c2, by decide⟩ rfl rfl ?_
        show qE S d jm_6_seek_63 (if ¬ (o2 = 4) then 57 else 46, [(0, .ref 51), (2, .ref o2), (3, .int i3)], [], (σ, y)) _
        by_cases c7 : o2 = 4
        · rw [if_pos c7] at h
          rw [if_neg (not_not_intro c7)]
          refine qE.steps 2 hd9 (s' := (50, [(0, .ref 51), (2, .ref o2), (3, .int i3)], [.ref 44], (σ, y))) rfl ?_
          obtain ⟨p8, e9, h⟩ := obind h
          refine qE.call hd9 rfl rfl rfl rfl (t_c_makeSame_91 (by omega) e9) ?_
          refine qE.steps 0 hd9 (s' := (53, [(0, .ref 51), (2, .ref o2), (3, .int i3)], [.ref p8.1], (p8.2, y))) rfl ?_
          refine qE.steps 4 hd9 (s' := (4, [(3, .int (i3 + Int32.ofInt 1)), (2, .ref p8.1), (0, .ref 51)], [], (p8.2, y))) rfl ?_
          exact qE.wk (ih h) ⟨rfl, rfl, rfl, trivial⟩ rfl
        · rw [if_neg c7] at h
          rw [if_pos c7]
          refine qE.steps 2 hd9 (s' := (61, [(0, .ref 51), (2, .ref o2), (3, .int i3)], [.ref 8, .ref o2], (σ, y))) rfl ?_
          refine qE.acmp hd9 ⟨c2, by decide⟩ rfl rfl ?_
          show qE S d jm_6_seek_63 (if ¬ (o2 = 8) then 75 else 64, [(0, .ref 51), (2, .ref o2), (3, .int i3)], [], (σ, y)) _
          by_cases c10 : o2 = 8
          · rw [if_pos c10] at h
            rw [if_neg (not_not_intro c10)]
            refine qE.steps 2 hd9 (s' := (68, [(0, .ref 51), (2, .ref o2), (3, .int i3)], [.ref 44], (σ, y))) rfl ?_
            obtain ⟨p11, e12, h⟩ := obind h
            refine qE.call hd9 rfl rfl rfl rfl (t_c_testAparts_97 (by omega) e12) ?_
            refine qE.steps 0 hd9 (s' := (71, [(0, .ref 51), (2, .ref o2), (3, .int i3)], [.ref p11.1], (p11.2, y))) rfl ?_
            refine qE.steps 4 hd9 (s' := (4, [(3, .int (i3 + Int32.ofInt 1)), (2, .ref p11.1), (0, .ref 51)], [], (p11.2, y))) rfl ?_
            exact qE.wk (ih h) ⟨rfl, rfl, rfl, trivial⟩ rfl
          · rw [if_neg c10] at h
            rw [if_pos c10]
            refine qE.steps 2 hd9 (s' := (79, [(0, .ref 51), (2, .ref o2), (3, .int i3)], [.ref 5, .ref o2], (σ, y))) rfl ?_
            refine qE.acmp hd9 ⟨c2, by decide⟩ rfl rfl ?_
            show qE S d jm_6_seek_63 (if ¬ (o2 = 5) then 102 else 82, [(0, .ref 51), (2, .ref o2), (3, .int i3)], [], (σ, y)) _
            by_cases c13 : o2 = 5
            · rw [if_pos c13] at h
              rw [if_neg (not_not_intro c13)]
              refine qE.steps 4 hd9 (s' := (90, [(0, .ref 51), (2, .ref o2), (3, .int i3)], [.ref 35, .ref 44], (σ, y))) rfl ?_
              refine qE.call hd9 rfl rfl rfl rfl (t_c_aparts_87 (by omega) rfl) ?_
              refine qE.steps 0 hd9 (s' := (93, [(0, .ref 51), (2, .ref o2), (3, .int i3)], [.int (c_aparts_87 σ), .ref 44], (σ, y))) rfl ?_
              refine qE.steps 2 hd9 (s' := (95, [(0, .ref 51), (2, .ref o2), (3, .int i3)], [.int ((c_aparts_87 σ) - (Int32.ofInt 1)), .ref 44], (σ, y))) rfl ?_
              obtain ⟨p14, e15, h⟩ := obind h
              refine qE.call hd9 rfl rfl rfl rfl (t_c_testApart_98 (by omega) e15) ?_
              refine qE.steps 0 hd9 (s' := (98, [(0, .ref 51), (2, .ref o2), (3, .int i3)], [.ref p14.1], (p14.2, y))) rfl ?_
              refine qE.steps 4 hd9 (s' := (4, [(3, .int (i3 + Int32.ofInt 1)), (2, .ref p14.1), (0, .ref 51)], [], (p14.2, y))) rfl ?_
              exact qE.wk (ih h) ⟨rfl, rfl, rfl, trivial⟩ rfl
            · rw [if_neg c13] at h
              rw [if_pos c13]
              refine qE.steps 2 hd9 (s' := (106, [(0, .ref 51), (2, .ref o2), (3, .int i3)], [.ref 9, .ref o2], (σ, y))) rfl ?_
              refine qE.acmp hd9 ⟨c2, by decide⟩ rfl rfl ?_
              show qE S d jm_6_seek_63 (if ¬ (o2 = 9) then 117 else 109, [(0, .ref 51), (2, .ref o2), (3, .int i3)], [], (σ, y)) _
              by_cases c16 : o2 = 9
              · rw [if_pos c16] at h
                rw [if_neg (not_not_intro c16)]
                refine qE.steps 1 hd9 (s' := (110, [(0, .ref 51), (2, .ref o2), (3, .int i3)], [.ref 51], (σ, y))) rfl ?_
                obtain ⟨p17, e18, h⟩ := obind h
                refine qE.call hd9 rfl rfl rfl rfl (t_c_putWokenInFront_104 (by omega) e18) ?_
                refine qE.steps 0 hd9 (s' := (113, [(0, .ref 51), (2, .ref o2), (3, .int i3)], [.ref p17.1], (p17.2, y))) rfl ?_
                refine qE.steps 4 hd9 (s' := (4, [(3, .int (i3 + Int32.ofInt 1)), (2, .ref p17.1), (0, .ref 51)], [], (p17.2, y))) rfl ?_
                exact qE.wk (ih h) ⟨rfl, rfl, rfl, trivial⟩ rfl
              · rw [if_neg c16] at h
                rw [if_pos c16]
                refine qE.steps 2 hd9 (s' := (121, [(0, .ref 51), (2, .ref o2), (3, .int i3)], [.ref 7, .ref o2], (σ, y))) rfl ?_
                refine qE.acmp hd9 ⟨c2, by decide⟩ rfl rfl ?_
                show qE S d jm_6_seek_63 (if ¬ (o2 = 7) then 132 else 124, [(0, .ref 51), (2, .ref o2), (3, .int i3)], [], (σ, y)) _
                by_cases c19 : o2 = 7
                · rw [if_pos c19] at h
                  rw [if_neg (not_not_intro c19)]
                  refine qE.steps 1 hd9 (s' := (125, [(0, .ref 51), (2, .ref o2), (3, .int i3)], [.ref 51], (σ, y))) rfl ?_
                  obtain ⟨p20, e21, h⟩ := obind h
                  refine qE.call hd9 rfl rfl rfl rfl (t_c_retry_109 (by omega) e21) ?_
                  refine qE.steps 0 hd9 (s' := (128, [(0, .ref 51), (2, .ref o2), (3, .int i3)], [.ref p20.1], (p20.2, y))) rfl ?_
                  refine qE.steps 4 hd9 (s' := (4, [(3, .int (i3 + Int32.ofInt 1)), (2, .ref p20.1), (0, .ref 51)], [], (p20.2, y))) rfl ?_
                  exact qE.wk (ih h) ⟨rfl, rfl, rfl, trivial⟩ rfl
                · rw [if_neg c19] at h
                  rw [if_pos c19]
                  refine qE.steps 1 hd9 (s' := (133, [(0, .ref 51), (2, .ref o2), (3, .int i3)], [.ref o2], (σ, y))) rfl ?_
                  obtain rfl := Option.some.inj h
                  exact qE.ret hd9 rfl rfl
set_option maxRecDepth 20000 in
theorem t_c_seek_63 {S : Nat × (Nat → Int32)} {d : Nat} {y : qC × Int64 × Nat} {o1 : Nat} {σ : qC} {p : (Nat × qC)} (hd : 15 ≤ d) (h : c_seek_63 o1 σ = some p) : qE S d jm_6_seek_63 (0, [(0, .ref 51), (1, .ref o1)], [], (σ, y)) ((.inl (some (.ref p.1)), (p.2, y))) := by
  have hd9 : 9 ≤ d := by omega
  unfold c_seek_63 at h
  refine qE.steps 4 hd9 (s' := (4, [(3, .int (Int32.ofInt 0)), (2, .ref o1), (0, .ref 51), (1, .ref o1)], [], (σ, y))) rfl ?_
  exact qE.wk (t_c_seek_63_l4 hd qF h) ⟨rfl, rfl, rfl, trivial⟩ rfl
def c_stepsTaken_112 (σ : qC) : Int32 := σ.1 4406
set_option maxRecDepth 20000 in
theorem t_c_stepsTaken_112 {S : Nat × (Nat → Int32)} {d : Nat} {y : qC × Int64 × Nat} {σ : qC} {p : Int32} (hd : 9 ≤ d) (h : c_stepsTaken_112 σ = p) : qE S d jm_3_stepsTaken_112 (0, [(0, .ref 44)], [], (σ, y)) ((.inl (some (.int p)), (σ, y))) := by
  have hd9 : 9 ≤ d := by omega
  unfold c_stepsTaken_112 at h
  refine qE.steps 2 hd9 (s' := (4, [(0, .ref 44)], [.int (σ.1 4406)], (σ, y))) rfl ?_
  subst h
  exact qE.ret hd9 rfl rfl
