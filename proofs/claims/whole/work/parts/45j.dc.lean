/-! BY PROGRAM (wip/whole/gendc.py): each method as a function over the numbers -/
def c_letter_114 (i1 : Int32) (i2 : Int32) (σ : qC) : Option ((Int32 ⊕ Nat) × qC) := if c_isVariableName_115 i1 = 0 then some (.inr 12, σ) else (c_questionNode_116 i1 σ).bind (fun p2 => if p2 = Int32.ofInt (-1) then some (.inr 15, σ) else (c_write_118 p2 σ).bind (fun p5 => if i2 = Int32.ofInt (-1) then some (.inl p5.1, p5.2) else if i2 < 0 then some (.inr 15, p5.2) else if i2 < p5.1 then some (.inl (c_characterAt_123 i2 p5.2), p5.2) else some (.inr 15, p5.2)))
set_option maxRecDepth 20000 in
theorem t_c_letter_114 {S : Nat × (Nat → Int32)} {d : Nat} {y : qC × Int64 × Nat} {i1 : Int32} {i2 : Int32} {σ : qC} {p : ((Int32 ⊕ Nat) × qC)} (hd : 14 ≤ d) (h : c_letter_114 i1 i2 σ = some p) : qE S d jm_0_letter_114 (0, [(0, .ref 24), (1, .int i1), (2, .int i2)], [], (σ, y)) (qres p y) := by
  have hd9 : 9 ≤ d := by omega
  unfold c_letter_114 at h
  refine qE.steps 1 hd9 (s' := (1, [(0, .ref 24), (1, .int i1), (2, .int i2)], [.int i1], (σ, y))) rfl ?_
  refine qE.call hd9 rfl rfl rfl rfl (t_c_isVariableName_115 (by omega) rfl) ?_
  refine qE.steps 0 hd9 (s' := (4, [(0, .ref 24), (1, .int i1), (2, .int i2)], [.int (c_isVariableName_115 i1)], (σ, y))) rfl ?_
  refine qE.steps 1 hd9 (s' := (if ¬ (c_isVariableName_115 i1 = 0) then 17 else 7, [(0, .ref 24), (1, .int i1), (2, .int i2)], [], (σ, y))) rfl ?_
  by_cases c1 : c_isVariableName_115 i1 = 0
  · rw [if_pos c1] at h
    rw [if_neg (not_not_intro c1)]
    obtain rfl := Option.some.inj h
    exact qE.thr hd9 rfl rfl rfl
  · rw [if_neg c1] at h
    rw [if_pos c1]
    refine qE.steps 2 hd9 (s' := (19, [(0, .ref 24), (1, .int i1), (2, .int i2)], [.int i1, .ref 24], (σ, y))) rfl ?_
    obtain ⟨p2, e3, h⟩ := obind h
    refine qE.call hd9 rfl rfl rfl rfl (t_c_questionNode_116 (by omega) e3) ?_
    refine qE.steps 0 hd9 (s' := (22, [(0, .ref 24), (1, .int i1), (2, .int i2)], [.int p2], (σ, y))) rfl ?_
    refine qE.steps 4 hd9 (s' := (if ¬ (p2 = Int32.ofInt (-1)) then 38 else 28, [(3, .int p2), (0, .ref 24), (1, .int i1), (2, .int i2)], [], (σ, y))) rfl ?_
    by_cases c4 : p2 = Int32.ofInt (-1)
    · rw [if_pos c4] at h
      rw [if_neg (not_not_intro c4)]
      obtain rfl := Option.some.inj h
      exact qE.thr hd9 rfl rfl rfl
    · rw [if_neg c4] at h
      rw [if_pos c4]
      refine qE.steps 3 hd9 (s' := (43, [(3, .int p2), (0, .ref 24), (1, .int i1), (2, .int i2)], [.int p2, .ref 58], (σ, y))) rfl ?_
      obtain ⟨p5, e6, h⟩ := obind h
      refine qE.call hd9 rfl rfl rfl rfl (t_c_write_118 (by omega) e6) ?_
      refine qE.steps 0 hd9 (s' := (46, [(3, .int p2), (0, .ref 24), (1, .int i1), (2, .int i2)], [.int p5.1], (p5.2, y))) rfl ?_
      refine qE.steps 4 hd9 (s' := (if ¬ (i2 = Int32.ofInt (-1)) then 56 else 53, [(4, .int p5.1), (3, .int p2), (0, .ref 24), (1, .int i1), (2, .int i2)], [], (p5.2, y))) rfl ?_
      by_cases c7 : i2 = Int32.ofInt (-1)
      · rw [if_pos c7] at h
        rw [if_neg (not_not_intro c7)]
        refine qE.steps 1 hd9 (s' := (55, [(4, .int p5.1), (3, .int p2), (0, .ref 24), (1, .int i1), (2, .int i2)], [.int p5.1], (p5.2, y))) rfl ?_
        obtain rfl := Option.some.inj h
        exact qE.ret hd9 rfl rfl
      · rw [if_neg c7] at h
        rw [if_pos c7]
        refine qE.steps 2 hd9 (s' := (if i2 < 0 then 66 else 60, [(4, .int p5.1), (3, .int p2), (0, .ref 24), (1, .int i1), (2, .int i2)], [], (p5.2, y))) rfl ?_
        by_cases c8 : i2 < 0
        · rw [if_pos c8] at h
          rw [if_pos c8]
          obtain rfl := Option.some.inj h
          exact qE.thr hd9 rfl rfl rfl
        · rw [if_neg c8] at h
          rw [if_neg c8]
          refine qE.steps 3 hd9 (s' := (if i2 < p5.1 then 76 else 66, [(4, .int p5.1), (3, .int p2), (0, .ref 24), (1, .int i1), (2, .int i2)], [], (p5.2, y))) rfl ?_
          by_cases c9 : i2 < p5.1
          · rw [if_pos c9] at h
            rw [if_pos c9]
            refine qE.steps 3 hd9 (s' := (81, [(4, .int p5.1), (3, .int p2), (0, .ref 24), (1, .int i1), (2, .int i2)], [.int i2, .ref 58], (p5.2, y))) rfl ?_
            refine qE.call hd9 rfl rfl rfl rfl (t_c_characterAt_123 (by omega) rfl) ?_
            refine qE.steps 0 hd9 (s' := (84, [(4, .int p5.1), (3, .int p2), (0, .ref 24), (1, .int i1), (2, .int i2)], [.int (c_characterAt_123 i2 p5.2)], (p5.2, y))) rfl ?_
            obtain rfl := Option.some.inj h
            exact qE.ret hd9 rfl rfl
          · rw [if_neg c9] at h
            rw [if_neg c9]
            obtain rfl := Option.some.inj h
            exact qE.thr hd9 rfl rfl rfl
def c_find_72_63_l34 : Nat → Int32 → Int32 → qC → Option qC
  | 0, _, _, _ => none
  | n + 1, i4, i5, σ => if i5 < 0 then some σ else if i4 = Int32.ofInt (-1) then some σ else if tat σ 36 4 ((σ.1 6301) + i4) (Int32.ofInt 0) = Int32.ofInt (-1) then qlet (upS σ 6302 ((σ.1 6301) + i4)) (fun σ4 => some σ4) else qlet (upS σ 6300 (tat σ 36 4 ((σ.1 6301) + i4) (Int32.ofInt 0))) (fun σ6 => qlet (upS σ6 6301 (tat σ6 36 4 ((σ.1 6301) + i4) (Int32.ofInt 1))) (fun σ8 => qlet (c_rank_73 (tat σ 36 4 ((σ.1 6301) + i4) (Int32.ofInt 0)) σ8) (fun x10 => (c_find_72_63_l34 n) x10 (i5 + Int32.ofInt (-1)) σ8)))
def c_find_72_63 (i1 : Int32) (i2 : Int32) (σ : qC) : Option qC := qlet (upS σ 6300 i1) (fun σ1 => qlet (upS σ1 6301 i2) (fun σ3 => qlet (upS σ3 6302 (Int32.ofInt (-1))) (fun σ5 => c_find_72_63_l34 qF (c_rank_73 i1 σ5) (σ5.1 3602) σ5)))
set_option maxRecDepth 20000 in
theorem t_c_find_72_63_l34 {S : Nat × (Nat → Int32)} {d : Nat} {y : qC × Int64 × Nat} (hd : 10 ≤ d) : ∀ (n : Nat) {i4 : Int32} {i5 : Int32} {σ : qC} {p : qC}, c_find_72_63_l34 n i4 i5 σ = some p → qE S d jm_7_find_72 (34, [(0, .ref 35), (3, .ref 63), (4, .int i4), (5, .int i5)], [], (σ, y)) ((.inl none, (p, y))) := by
  have hd9 : 9 ≤ d := by omega
  intro n
  induction n with
  | zero =>
    intros
    rename_i h
    unfold c_find_72_63_l34 at h
    cases h
  | succ n ih =>
    intro i4 i5 σ p h
    unfold c_find_72_63_l34 at h
    refine qE.steps 2 hd9 (s' := (if i5 < 0 then 116 else 39, [(0, .ref 35), (3, .ref 63), (4, .int i4), (5, .int i5)], [], (σ, y))) rfl ?_
    by_cases c1 : i5 < 0
    · rw [if_pos c1] at h
      rw [if_pos c1]
      obtain rfl := Option.some.inj h
      exact qE.ret hd9 rfl rfl
    · rw [if_neg c1] at h
      rw [if_neg c1]
      refine qE.steps 3 hd9 (s' := (if i4 = Int32.ofInt (-1) then 116 else 45, [(0, .ref 35), (3, .ref 63), (4, .int i4), (5, .int i5)], [], (σ, y))) rfl ?_
      by_cases c2 : i4 = Int32.ofInt (-1)
      · rw [if_pos c2] at h
        rw [if_pos c2]
        obtain rfl := Option.some.inj h
        exact qE.ret hd9 rfl rfl
      · rw [if_neg c2] at h
        rw [if_neg c2]
        refine qE.steps 14 hd9 (s' := (if ¬ (tat σ 36 4 ((σ.1 6301) + i4) (Int32.ofInt 0) = Int32.ofInt (-1)) then 79 else 72, [(7, .int (tat σ 36 4 ((σ.1 6301) + i4) (Int32.ofInt 0))), (6, .int ((σ.1 6301) + i4)), (0, .ref 35), (3, .ref 63), (4, .int i4), (5, .int i5)], [], (σ, y))) rfl ?_
        by_cases c3 : tat σ 36 4 ((σ.1 6301) + i4) (Int32.ofInt 0) = Int32.ofInt (-1)
        · rw [if_pos c3] at h
          rw [if_neg (not_not_intro c3)]
          obtain ⟨σ4, e5, h⟩ := qlet_ex h
          refine qE.steps 3 hd9 (s' := (78, [(7, .int (tat σ 36 4 ((σ.1 6301) + i4) (Int32.ofInt 0))), (6, .int ((σ.1 6301) + i4)), (0, .ref 35), (3, .ref 63), (4, .int i4), (5, .int i5)], [], (σ4, y))) (by subst e5; rfl) ?_
          obtain rfl := Option.some.inj h
          exact qE.ret hd9 rfl rfl
        · rw [if_neg c3] at h
          rw [if_pos c3]
          obtain ⟨σ6, e7, h⟩ := qlet_ex h
          refine qE.steps 3 hd9 (s' := (85, [(7, .int (tat σ 36 4 ((σ.1 6301) + i4) (Int32.ofInt 0))), (6, .int ((σ.1 6301) + i4)), (0, .ref 35), (3, .ref 63), (4, .int i4), (5, .int i5)], [], (σ6, y))) (by subst e7; rfl) ?_
          obtain ⟨σ8, e9, h⟩ := qlet_ex h
          refine qE.steps 7 hd9 (s' := (99, [(7, .int (tat σ 36 4 ((σ.1 6301) + i4) (Int32.ofInt 0))), (6, .int ((σ.1 6301) + i4)), (0, .ref 35), (3, .ref 63), (4, .int i4), (5, .int i5)], [], (σ8, y))) (by subst e9; rfl) ?_
          refine qE.steps 3 hd9 (s' := (105, [(7, .int (tat σ 36 4 ((σ.1 6301) + i4) (Int32.ofInt 0))), (6, .int ((σ.1 6301) + i4)), (0, .ref 35), (3, .ref 63), (4, .int i4), (5, .int i5)], [.int (tat σ 36 4 ((σ.1 6301) + i4) (Int32.ofInt 0)), .ref 27], (σ8, y))) rfl ?_
          refine qE.call hd9 rfl rfl rfl rfl (t_c_rank_73 (by omega) rfl) ?_
          refine qE.steps 0 hd9 (s' := (108, [(7, .int (tat σ 36 4 ((σ.1 6301) + i4) (Int32.ofInt 0))), (6, .int ((σ.1 6301) + i4)), (0, .ref 35), (3, .ref 63), (4, .int i4), (5, .int i5)], [.int (c_rank_73 (tat σ 36 4 ((σ.1 6301) + i4) (Int32.ofInt 0)) σ8)], (σ8, y))) rfl ?_
          obtain ⟨x10, e11, h⟩ := qlet_ex h
          refine qE.steps 1 hd9 (s' := (110, [(4, .int x10), (7, .int (tat σ 36 4 ((σ.1 6301) + i4) (Int32.ofInt 0))), (6, .int ((σ.1 6301) + i4)), (0, .ref 35), (3, .ref 63), (5, .int i5)], [], (σ8, y))) (by subst e11; rfl) ?_
          refine qE.steps 2 hd9 (s' := (34, [(5, .int (i5 + Int32.ofInt (-1))), (4, .int x10), (7, .int (tat σ 36 4 ((σ.1 6301) + i4) (Int32.ofInt 0))), (6, .int ((σ.1 6301) + i4)), (0, .ref 35), (3, .ref 63)], [], (σ8, y))) rfl ?_
          exact qE.wk (ih h) ⟨rfl, rfl, rfl, rfl, trivial⟩ rfl
set_option maxRecDepth 20000 in
theorem t_c_find_72_63 {S : Nat × (Nat → Int32)} {d : Nat} {y : qC × Int64 × Nat} {i1 : Int32} {i2 : Int32} {σ : qC} {p : qC} (hd : 10 ≤ d) (h : c_find_72_63 i1 i2 σ = some p) : qE S d jm_7_find_72 (0, [(0, .ref 35), (1, .int i1), (2, .int i2), (3, .ref 63)], [], (σ, y)) ((.inl none, (p, y))) := by
  have hd9 : 9 ≤ d := by omega
  unfold c_find_72_63 at h
  obtain ⟨σ1, e2, h⟩ := qlet_ex h
  refine qE.steps 3 hd9 (s' := (5, [(0, .ref 35), (1, .int i1), (2, .int i2), (3, .ref 63)], [], (σ1, y))) (by subst e2; rfl) ?_
  obtain ⟨σ3, e4, h⟩ := qlet_ex h
  refine qE.steps 3 hd9 (s' := (10, [(0, .ref 35), (1, .int i1), (2, .int i2), (3, .ref 63)], [], (σ3, y))) (by subst e4; rfl) ?_
  obtain ⟨σ5, e6, h⟩ := qlet_ex h
  refine qE.steps 3 hd9 (s' := (15, [(0, .ref 35), (1, .int i1), (2, .int i2), (3, .ref 63)], [], (σ5, y))) (by subst e6; rfl) ?_
  refine qE.steps 3 hd9 (s' := (20, [(0, .ref 35), (1, .int i1), (2, .int i2), (3, .ref 63)], [.int i1, .ref 27], (σ5, y))) rfl ?_
  refine qE.call hd9 rfl rfl rfl rfl (t_c_rank_73 (by omega) rfl) ?_
  refine qE.steps 0 hd9 (s' := (23, [(0, .ref 35), (1, .int i1), (2, .int i2), (3, .ref 63)], [.int (c_rank_73 i1 σ5)], (σ5, y))) rfl ?_
  refine qE.steps 5 hd9 (s' := (34, [(5, .int (σ5.1 3602)), (4, .int (c_rank_73 i1 σ5)), (0, .ref 35), (1, .int i1), (2, .int i2), (3, .ref 63)], [], (σ5, y))) rfl ?_
  exact qE.wk (t_c_find_72_63_l34 hd qF h) ⟨rfl, rfl, rfl, rfl, trivial⟩ rfl
def c_sleepersOn_125_l11 : Nat → Int32 → Int32 → Int32 → qC → Option Int32
  | 0, _, _, _, _ => none
  | n + 1, i2, i3, i4, σ => if σ.1 3802 ≤ i4 then some i2 else if i3 = Int32.ofInt (-1) then some i2 else (c_sleepersOn_125_l11 n) (i2 + Int32.ofInt 1) (c_sleeperBehind_96 i3 σ) (i4 + Int32.ofInt 1) σ
def c_sleepersOn_125 (i1 : Int32) (σ : qC) : Option Int32 := c_sleepersOn_125_l11 qF (Int32.ofInt 0) (c_firstSleeper_94 i1 σ) (Int32.ofInt 0) σ
set_option maxRecDepth 20000 in
theorem t_c_sleepersOn_125_l11 {S : Nat × (Nat → Int32)} {d : Nat} {y : qC × Int64 × Nat} (hd : 10 ≤ d) : ∀ (n : Nat) {i2 : Int32} {i3 : Int32} {i4 : Int32} {σ : qC} {p : Int32}, c_sleepersOn_125_l11 n i2 i3 i4 σ = some p → qE S d jm_7_sleepersOn_125 (11, [(0, .ref 35), (2, .int i2), (3, .int i3), (4, .int i4)], [], (σ, y)) ((.inl (some (.int p)), (σ, y))) := by
  have hd9 : 9 ≤ d := by omega
  intro n
  induction n with
  | zero =>
    intros
    rename_i h
    unfold c_sleepersOn_125_l11 at h
    cases h
  | succ n ih =>
    intro i2 i3 i4 σ p h
    unfold c_sleepersOn_125_l11 at h
    refine qE.steps 5 hd9 (s' := (if σ.1 3802 ≤ i4 then 43 else 23, [(0, .ref 35), (2, .int i2), (3, .int i3), (4, .int i4)], [], (σ, y))) rfl ?_
    by_cases c1 : σ.1 3802 ≤ i4
    · rw [if_pos c1] at h
      rw [if_pos c1]
      refine qE.steps 1 hd9 (s' := (44, [(0, .ref 35), (2, .int i2), (3, .int i3), (4, .int i4)], [.int i2], (σ, y))) rfl ?_
      obtain rfl := Option.some.inj h
      exact qE.ret hd9 rfl rfl
    · rw [if_neg c1] at h
      rw [if_neg c1]
      refine qE.steps 3 hd9 (s' := (if i3 = Int32.ofInt (-1) then 43 else 28, [(0, .ref 35), (2, .int i2), (3, .int i3), (4, .int i4)], [], (σ, y))) rfl ?_
      by_cases c2 : i3 = Int32.ofInt (-1)
      · rw [if_pos c2] at h
        rw [if_pos c2]
        refine qE.steps 1 hd9 (s' := (44, [(0, .ref 35), (2, .int i2), (3, .int i3), (4, .int i4)], [.int i2], (σ, y))) rfl ?_
        obtain rfl := Option.some.inj h
        exact qE.ret hd9 rfl rfl
      · rw [if_neg c2] at h
        rw [if_neg c2]
        refine qE.steps 3 hd9 (s' := (33, [(2, .int (i2 + Int32.ofInt 1)), (0, .ref 35), (3, .int i3), (4, .int i4)], [.int i3, .ref 35], (σ, y))) rfl ?_
        refine qE.call hd9 rfl rfl rfl rfl (t_c_sleeperBehind_96 (by omega) rfl) ?_
        refine qE.steps 0 hd9 (s' := (36, [(2, .int (i2 + Int32.ofInt 1)), (0, .ref 35), (3, .int i3), (4, .int i4)], [.int (c_sleeperBehind_96 i3 σ)], (σ, y))) rfl ?_
        refine qE.steps 3 hd9 (s' := (11, [(4, .int (i4 + Int32.ofInt 1)), (3, .int (c_sleeperBehind_96 i3 σ)), (2, .int (i2 + Int32.ofInt 1)), (0, .ref 35)], [], (σ, y))) rfl ?_
        exact qE.wk (ih h) ⟨rfl, rfl, rfl, rfl, trivial⟩ rfl
set_option maxRecDepth 20000 in
theorem t_c_sleepersOn_125 {S : Nat × (Nat → Int32)} {d : Nat} {y : qC × Int64 × Nat} {i1 : Int32} {σ : qC} {p : Int32} (hd : 10 ≤ d) (h : c_sleepersOn_125 i1 σ = some p) : qE S d jm_7_sleepersOn_125 (0, [(0, .ref 35), (1, .int i1)], [], (σ, y)) ((.inl (some (.int p)), (σ, y))) := by
  have hd9 : 9 ≤ d := by omega
  unfold c_sleepersOn_125 at h
  refine qE.steps 4 hd9 (s' := (4, [(2, .int (Int32.ofInt 0)), (0, .ref 35), (1, .int i1)], [.int i1, .ref 35], (σ, y))) rfl ?_
  refine qE.call hd9 rfl rfl rfl rfl (t_c_firstSleeper_94 (by omega) rfl) ?_
  refine qE.steps 0 hd9 (s' := (7, [(2, .int (Int32.ofInt 0)), (0, .ref 35), (1, .int i1)], [.int (c_firstSleeper_94 i1 σ)], (σ, y))) rfl ?_
  refine qE.steps 3 hd9 (s' := (11, [(4, .int (Int32.ofInt 0)), (3, .int (c_firstSleeper_94 i1 σ)), (2, .int (Int32.ofInt 0)), (0, .ref 35), (1, .int i1)], [], (σ, y))) rfl ?_
  exact qE.wk (t_c_sleepersOn_125_l11 hd qF h) ⟨rfl, rfl, rfl, rfl, trivial⟩ rfl
def c_sleeping_124 (i1 : Int32) (σ : qC) : Option ((Int32 ⊕ Nat) × qC) := if c_isVariableName_115 i1 = 0 then some (.inr 12, σ) else (c_questionNode_116 i1 σ).bind (fun p2 => if p2 = Int32.ofInt (-1) then some (.inl (Int32.ofInt (-1)), σ) else (c_find_72_63 p2 (Int32.ofInt 0) σ).bind (fun p5 => if p5.1 6302 = Int32.ofInt (-1) then some (.inl (Int32.ofInt 0), p5) else (c_sleepersOn_125 (p5.1 6302) p5).bind (fun p8 => some (.inl p8, p5))))
set_option maxRecDepth 20000 in
theorem t_c_sleeping_124 {S : Nat × (Nat → Int32)} {d : Nat} {y : qC × Int64 × Nat} {i1 : Int32} {σ : qC} {p : ((Int32 ⊕ Nat) × qC)} (hd : 12 ≤ d) (h : c_sleeping_124 i1 σ = some p) : qE S d jm_0_sleeping_124 (0, [(0, .ref 24), (1, .int i1)], [], (σ, y)) (qres p y) := by
  have hd9 : 9 ≤ d := by omega
  unfold c_sleeping_124 at h
  refine qE.steps 1 hd9 (s' := (1, [(0, .ref 24), (1, .int i1)], [.int i1], (σ, y))) rfl ?_
  refine qE.call hd9 rfl rfl rfl rfl (t_c_isVariableName_115 (by omega) rfl) ?_
  refine qE.steps 0 hd9 (s' := (4, [(0, .ref 24), (1, .int i1)], [.int (c_isVariableName_115 i1)], (σ, y))) rfl ?_
  refine qE.steps 1 hd9 (s' := (if ¬ (c_isVariableName_115 i1 = 0) then 17 else 7, [(0, .ref 24), (1, .int i1)], [], (σ, y))) rfl ?_
  by_cases c1 : c_isVariableName_115 i1 = 0
  · rw [if_pos c1] at h
    rw [if_neg (not_not_intro c1)]
    obtain rfl := Option.some.inj h
    exact qE.thr hd9 rfl rfl rfl
  · rw [if_neg c1] at h
    rw [if_pos c1]
    refine qE.steps 2 hd9 (s' := (19, [(0, .ref 24), (1, .int i1)], [.int i1, .ref 24], (σ, y))) rfl ?_
    obtain ⟨p2, e3, h⟩ := obind h
    refine qE.call hd9 rfl rfl rfl rfl (t_c_questionNode_116 (by omega) e3) ?_
    refine qE.steps 0 hd9 (s' := (22, [(0, .ref 24), (1, .int i1)], [.int p2], (σ, y))) rfl ?_
    refine qE.steps 4 hd9 (s' := (if ¬ (p2 = Int32.ofInt (-1)) then 30 else 28, [(2, .int p2), (0, .ref 24), (1, .int i1)], [], (σ, y))) rfl ?_
    by_cases c4 : p2 = Int32.ofInt (-1)
    · rw [if_pos c4] at h
      rw [if_neg (not_not_intro c4)]
      refine qE.steps 1 hd9 (s' := (29, [(2, .int p2), (0, .ref 24), (1, .int i1)], [.int (Int32.ofInt (-1))], (σ, y))) rfl ?_
      obtain rfl := Option.some.inj h
      exact qE.ret hd9 rfl rfl
    · rw [if_neg c4] at h
      rw [if_pos c4]
      refine qE.steps 6 hd9 (s' := (40, [(2, .int p2), (0, .ref 24), (1, .int i1)], [.ref 63, .int (Int32.ofInt 0), .int p2, .ref 35], (σ, y))) rfl ?_
      obtain ⟨p5, e6, h⟩ := obind h
      refine qE.call hd9 rfl rfl rfl rfl (t_c_find_72_63 (by omega) e6) ?_
      refine qE.steps 0 hd9 (s' := (43, [(2, .int p2), (0, .ref 24), (1, .int i1)], [], (p5, y))) rfl ?_
      refine qE.steps 5 hd9 (s' := (if ¬ (p5.1 6302 = Int32.ofInt (-1)) then 58 else 54, [(2, .int p2), (0, .ref 24), (1, .int i1)], [], (p5, y))) rfl ?_
      by_cases c7 : p5.1 6302 = Int32.ofInt (-1)
      · rw [if_pos c7] at h
        rw [if_neg (not_not_intro c7)]
        refine qE.steps 2 hd9 (s' := (72, [(2, .int p2), (0, .ref 24), (1, .int i1)], [.int (Int32.ofInt 0)], (p5, y))) rfl ?_
        obtain rfl := Option.some.inj h
        exact qE.ret hd9 rfl rfl
      · rw [if_neg c7] at h
        rw [if_pos c7]
        refine qE.steps 5 hd9 (s' := (69, [(2, .int p2), (0, .ref 24), (1, .int i1)], [.int (p5.1 6302), .ref 35], (p5, y))) rfl ?_
        obtain ⟨p8, e9, h⟩ := obind h
        refine qE.call hd9 rfl rfl rfl rfl (t_c_sleepersOn_125 (by omega) e9) ?_
        refine qE.steps 0 hd9 (s' := (72, [(2, .int p2), (0, .ref 24), (1, .int i1)], [.int p8], (p5, y))) rfl ?_
        obtain rfl := Option.some.inj h
        exact qE.ret hd9 rfl rfl
def c_choicesLeft_14 (σ : qC) : Int32 := σ.1 5402
set_option maxRecDepth 20000 in
theorem t_c_choicesLeft_14 {S : Nat × (Nat → Int32)} {d : Nat} {y : qC × Int64 × Nat} {σ : qC} {p : Int32} (hd : 9 ≤ d) (h : c_choicesLeft_14 σ = p) : qE S d jm_6_choicesLeft_14 (0, [(0, .ref 51)], [], (σ, y)) ((.inl (some (.int p)), (σ, y))) := by
  have hd9 : 9 ≤ d := by omega
  unfold c_choicesLeft_14 at h
  refine qE.steps 3 hd9 (s' := (7, [(0, .ref 51)], [.int (σ.1 5402)], (σ, y))) rfl ?_
  subst h
  exact qE.ret hd9 rfl rfl
def c_apartsWaiting_16_l4 : Nat → Int32 → Int32 → qC → Option Int32
  | 0, _, _, _ => none
  | n + 1, i1, i2, σ => if σ.1 4002 ≤ i2 then some i1 else if c_isWaiting_17 i2 σ = 0 then (c_apartsWaiting_16_l4 n) (i1 + (Int32.ofInt 0)) (i2 + Int32.ofInt 1) σ else (c_apartsWaiting_16_l4 n) (i1 + (Int32.ofInt 1)) (i2 + Int32.ofInt 1) σ
def c_apartsWaiting_16 (σ : qC) : Option Int32 := c_apartsWaiting_16_l4 qF (Int32.ofInt 0) (Int32.ofInt 0) σ
set_option maxRecDepth 20000 in
theorem t_c_apartsWaiting_16_l4 {S : Nat × (Nat → Int32)} {d : Nat} {y : qC × Int64 × Nat} (hd : 10 ≤ d) : ∀ (n : Nat) {i1 : Int32} {i2 : Int32} {σ : qC} {p : Int32}, c_apartsWaiting_16_l4 n i1 i2 σ = some p → qE S d jm_7_apartsWaiting_16 (4, [(0, .ref 35), (1, .int i1), (2, .int i2)], [], (σ, y)) ((.inl (some (.int p)), (σ, y))) := by
  have hd9 : 9 ≤ d := by omega
  intro n
  induction n with
  | zero =>
    intros
    rename_i h
    unfold c_apartsWaiting_16_l4 at h
    cases h
  | succ n ih =>
    intro i1 i2 σ p h
    unfold c_apartsWaiting_16_l4 at h
    refine qE.steps 5 hd9 (s' := (if σ.1 4002 ≤ i2 then 37 else 15, [(0, .ref 35), (1, .int i1), (2, .int i2)], [], (σ, y))) rfl ?_
    by_cases c1 : σ.1 4002 ≤ i2
    · rw [if_pos c1] at h
      rw [if_pos c1]
      refine qE.steps 1 hd9 (s' := (38, [(0, .ref 35), (1, .int i1), (2, .int i2)], [.int i1], (σ, y))) rfl ?_
      obtain rfl := Option.some.inj h
      exact qE.ret hd9 rfl rfl
    · rw [if_neg c1] at h
      rw [if_neg c1]
      refine qE.steps 3 hd9 (s' := (18, [(0, .ref 35), (1, .int i1), (2, .int i2)], [.int i2, .ref 35, .int i1], (σ, y))) rfl ?_
      refine qE.call hd9 rfl rfl rfl rfl (t_c_isWaiting_17 (by omega) rfl) ?_
      refine qE.steps 0 hd9 (s' := (21, [(0, .ref 35), (1, .int i1), (2, .int i2)], [.int (c_isWaiting_17 i2 σ), .int i1], (σ, y))) rfl ?_
      refine qE.steps 1 hd9 (s' := (if c_isWaiting_17 i2 σ = 0 then 28 else 24, [(0, .ref 35), (1, .int i1), (2, .int i2)], [.int i1], (σ, y))) rfl ?_
      by_cases c2 : c_isWaiting_17 i2 σ = 0
      · rw [if_pos c2] at h
        rw [if_pos c2]
        refine qE.steps 5 hd9 (s' := (4, [(2, .int (i2 + Int32.ofInt 1)), (1, .int (i1 + (Int32.ofInt 0))), (0, .ref 35)], [], (σ, y))) rfl ?_
        exact qE.wk (ih h) ⟨rfl, rfl, rfl, trivial⟩ rfl
      · rw [if_neg c2] at h
        rw [if_neg c2]
        refine qE.steps 6 hd9 (s' := (4, [(2, .int (i2 + Int32.ofInt 1)), (1, .int (i1 + (Int32.ofInt 1))), (0, .ref 35)], [], (σ, y))) rfl ?_
        exact qE.wk (ih h) ⟨rfl, rfl, rfl, trivial⟩ rfl
set_option maxRecDepth 20000 in
theorem t_c_apartsWaiting_16 {S : Nat × (Nat → Int32)} {d : Nat} {y : qC × Int64 × Nat} {σ : qC} {p : Int32} (hd : 10 ≤ d) (h : c_apartsWaiting_16 σ = some p) : qE S d jm_7_apartsWaiting_16 (0, [(0, .ref 35)], [], (σ, y)) ((.inl (some (.int p)), (σ, y))) := by
  have hd9 : 9 ≤ d := by omega
  unfold c_apartsWaiting_16 at h
  refine qE.steps 4 hd9 (s' := (4, [(2, .int (Int32.ofInt 0)), (1, .int (Int32.ofInt 0)), (0, .ref 35)], [], (σ, y))) rfl ?_
  exact qE.wk (t_c_apartsWaiting_16_l4 hd qF h) ⟨rfl, rfl, rfl, trivial⟩ rfl
def c_variablesMade_19 (σ : qC) : Int32 := σ.1 3505
set_option maxRecDepth 20000 in
theorem t_c_variablesMade_19 {S : Nat × (Nat → Int32)} {d : Nat} {y : qC × Int64 × Nat} {σ : qC} {p : Int32} (hd : 9 ≤ d) (h : c_variablesMade_19 σ = p) : qE S d jm_7_variablesMade_19 (0, [(0, .ref 35)], [], (σ, y)) ((.inl (some (.int p)), (σ, y))) := by
  have hd9 : 9 ≤ d := by omega
  unfold c_variablesMade_19 at h
  refine qE.steps 2 hd9 (s' := (4, [(0, .ref 35)], [.int (σ.1 3505)], (σ, y))) rfl ?_
  subst h
  exact qE.ret hd9 rfl rfl
def c_count_11 (i1 : Int32) (σ : qC) : Option Int32 := if i1 = Int32.ofInt 0 then some (σ.1 2409) else if i1 = Int32.ofInt 1 then some (c_length_12 σ) else if i1 = Int32.ofInt 2 then some (c_size_13 σ) else if i1 = Int32.ofInt 3 then if σ.1 2410 = 0 then some (Int32.ofInt 0) else some (σ.1 2411) else if i1 = Int32.ofInt 4 then if σ.1 2410 = 0 then some (Int32.ofInt 0) else some (c_choicesLeft_14 σ) else if i1 = Int32.ofInt 5 then if σ.1 2410 = 0 then some (Int32.ofInt 0) else (c_apartsWaiting_16 σ).bind (fun p10 => some p10) else if i1 = Int32.ofInt 6 then if σ.1 2410 = 0 then some (Int32.ofInt 0) else some (c_variablesMade_19 σ) else some (Int32.ofInt (-1))
set_option maxRecDepth 20000 in
theorem t_c_count_11 {S : Nat × (Nat → Int32)} {d : Nat} {y : qC × Int64 × Nat} {i1 : Int32} {σ : qC} {p : Int32} (hd : 11 ≤ d) (h : c_count_11 i1 σ = some p) : qE S d jm_0_count_11 (0, [(0, .ref 24), (1, .int i1)], [], (σ, y)) ((.inl (some (.int p)), (σ, y))) := by
  have hd9 : 9 ≤ d := by omega
  unfold c_count_11 at h
  refine qE.steps 1 hd9 (s' := (1, [(0, .ref 24), (1, .int i1)], [.int i1], (σ, y))) rfl ?_
  by_cases c1 : i1 = Int32.ofInt 0
  · rw [if_pos c1] at h
    refine qE.jmp (pc' := 44) (st' := []) hd9 (by rw [c1]; rfl) rfl rfl rfl ?_
    refine qE.steps 2 hd9 (s' := (48, [(0, .ref 24), (1, .int i1)], [.int (σ.1 2409)], (σ, y))) rfl ?_
    obtain rfl := Option.some.inj h
    exact qE.ret hd9 rfl rfl
  rw [if_neg c1] at h
  by_cases c2 : i1 = Int32.ofInt 1
  · rw [if_pos c2] at h
    refine qE.jmp (pc' := 49) (st' := []) hd9 (by rw [c2]; rfl) rfl rfl rfl ?_
    refine qE.steps 2 hd9 (s' := (53, [(0, .ref 24), (1, .int i1)], [.ref 25], (σ, y))) rfl ?_
    refine qE.call hd9 rfl rfl rfl rfl (t_c_length_12 (by omega) rfl) ?_
    refine qE.steps 0 hd9 (s' := (56, [(0, .ref 24), (1, .int i1)], [.int (c_length_12 σ)], (σ, y))) rfl ?_
    obtain rfl := Option.some.inj h
    exact qE.ret hd9 rfl rfl
  rw [if_neg c2] at h
  by_cases c3 : i1 = Int32.ofInt 2
  · rw [if_pos c3] at h
    refine qE.jmp (pc' := 57) (st' := []) hd9 (by rw [c3]; rfl) rfl rfl rfl ?_
    refine qE.steps 2 hd9 (s' := (61, [(0, .ref 24), (1, .int i1)], [.ref 33], (σ, y))) rfl ?_
    refine qE.call hd9 rfl rfl rfl rfl (t_c_size_13 (by omega) rfl) ?_
    refine qE.steps 0 hd9 (s' := (64, [(0, .ref 24), (1, .int i1)], [.int (c_size_13 σ)], (σ, y))) rfl ?_
    obtain rfl := Option.some.inj h
    exact qE.ret hd9 rfl rfl
  rw [if_neg c3] at h
  by_cases c4 : i1 = Int32.ofInt 3
  · rw [if_pos c4] at h
    refine qE.jmp (pc' := 65) (st' := []) hd9 (by rw [c4]; rfl) rfl rfl rfl ?_
    refine qE.steps 3 hd9 (s' := (if σ.1 2410 = 0 then 79 else 72, [(0, .ref 24), (1, .int i1)], [], (σ, y))) rfl ?_
    by_cases c5 : σ.1 2410 = 0
    · rw [if_pos c5] at h
      rw [if_pos c5]
      refine qE.steps 1 hd9 (s' := (80, [(0, .ref 24), (1, .int i1)], [.int (Int32.ofInt 0)], (σ, y))) rfl ?_
      obtain rfl := Option.some.inj h
      exact qE.ret hd9 rfl rfl
    · rw [if_neg c5] at h
      rw [if_neg c5]
      refine qE.steps 3 hd9 (s' := (80, [(0, .ref 24), (1, .int i1)], [.int (σ.1 2411)], (σ, y))) rfl ?_
      obtain rfl := Option.some.inj h
      exact qE.ret hd9 rfl rfl
  rw [if_neg c4] at h
  by_cases c6 : i1 = Int32.ofInt 4
  · rw [if_pos c6] at h
    refine qE.jmp (pc' := 81) (st' := []) hd9 (by rw [c6]; rfl) rfl rfl rfl ?_
    refine qE.steps 3 hd9 (s' := (if σ.1 2410 = 0 then 98 else 88, [(0, .ref 24), (1, .int i1)], [], (σ, y))) rfl ?_
    by_cases c7 : σ.1 2410 = 0
    · rw [if_pos c7] at h
      rw [if_pos c7]
      refine qE.steps 1 hd9 (s' := (99, [(0, .ref 24), (1, .int i1)], [.int (Int32.ofInt 0)], (σ, y))) rfl ?_
      obtain rfl := Option.some.inj h
      exact qE.ret hd9 rfl rfl
    · rw [if_neg c7] at h
      rw [if_neg c7]
      refine qE.steps 2 hd9 (s' := (92, [(0, .ref 24), (1, .int i1)], [.ref 51], (σ, y))) rfl ?_
      refine qE.call hd9 rfl rfl rfl rfl (t_c_choicesLeft_14 (by omega) rfl) ?_
      refine qE.steps 0 hd9 (s' := (95, [(0, .ref 24), (1, .int i1)], [.int (c_choicesLeft_14 σ)], (σ, y))) rfl ?_
      refine qE.steps 1 hd9 (s' := (99, [(0, .ref 24), (1, .int i1)], [.int (c_choicesLeft_14 σ)], (σ, y))) rfl ?_
      obtain rfl := Option.some.inj h
      exact qE.ret hd9 rfl rfl
  rw [if_neg c6] at h
  by_cases c8 : i1 = Int32.ofInt 5
  · rw [if_pos c8] at h
    refine qE.jmp (pc' := 100) (st' := []) hd9 (by rw [c8]; rfl) rfl rfl rfl ?_
    refine qE.steps 3 hd9 (s' := (if σ.1 2410 = 0 then 117 else 107, [(0, .ref 24), (1, .int i1)], [], (σ, y))) rfl ?_
    by_cases c9 : σ.1 2410 = 0
    · rw [if_pos c9] at h
      rw [if_pos c9]
      refine qE.steps 1 hd9 (s' := (118, [(0, .ref 24), (1, .int i1)], [.int (Int32.ofInt 0)], (σ, y))) rfl ?_
      obtain rfl := Option.some.inj h
      exact qE.ret hd9 rfl rfl
    · rw [if_neg c9] at h
      rw [if_neg c9]
      refine qE.steps 2 hd9 (s' := (111, [(0, .ref 24), (1, .int i1)], [.ref 35], (σ, y))) rfl ?_
      obtain ⟨p10, e11, h⟩ := obind h
      refine qE.call hd9 rfl rfl rfl rfl (t_c_apartsWaiting_16 (by omega) e11) ?_
      refine qE.steps 0 hd9 (s' := (114, [(0, .ref 24), (1, .int i1)], [.int p10], (σ, y))) rfl ?_
      refine qE.steps 1 hd9 (s' := (118, [(0, .ref 24), (1, .int i1)], [.int p10], (σ, y))) rfl ?_
      obtain rfl := Option.some.inj h
      exact qE.ret hd9 rfl rfl
  rw [if_neg c8] at h
  by_cases c12 : i1 = Int32.ofInt 6
  · rw [if_pos c12] at h
    refine qE.jmp (pc' := 119) (st' := []) hd9 (by rw [c12]; rfl) rfl rfl rfl ?_
    refine qE.steps 3 hd9 (s' := (if σ.1 2410 = 0 then 136 else 126, [(0, .ref 24), (1, .int i1)], [], (σ, y))) rfl ?_
    by_cases c13 : σ.1 2410 = 0
    · rw [if_pos c13] at h
      rw [if_pos c13]
      refine qE.steps 1 hd9 (s' := (137, [(0, .ref 24), (1, .int i1)], [.int (Int32.ofInt 0)], (σ, y))) rfl ?_
      obtain rfl := Option.some.inj h
      exact qE.ret hd9 rfl rfl
    · rw [if_neg c13] at h
      rw [if_neg c13]
      refine qE.steps 2 hd9 (s' := (130, [(0, .ref 24), (1, .int i1)], [.ref 35], (σ, y))) rfl ?_
      refine qE.call hd9 rfl rfl rfl rfl (t_c_variablesMade_19 (by omega) rfl) ?_
      refine qE.steps 0 hd9 (s' := (133, [(0, .ref 24), (1, .int i1)], [.int (c_variablesMade_19 σ)], (σ, y))) rfl ?_
      refine qE.steps 1 hd9 (s' := (137, [(0, .ref 24), (1, .int i1)], [.int (c_variablesMade_19 σ)], (σ, y))) rfl ?_
      obtain rfl := Option.some.inj h
      exact qE.ret hd9 rfl rfl
  rw [if_neg c12] at h
  refine qE.jmp (pc' := 138) (st' := []) hd9 (jsw_def (fun kk h1 h2 => by rcases (by omega : kk = 0 ∨ kk = 1 ∨ kk = 2 ∨ kk = 3 ∨ kk = 4 ∨ kk = 5 ∨ kk = 6) with rfl | rfl | rfl | rfl | rfl | rfl | rfl <;> assumption) rfl) rfl rfl rfl ?_
  refine qE.steps 1 hd9 (s' := (139, [(0, .ref 24), (1, .int i1)], [.int (Int32.ofInt (-1))], (σ, y))) rfl ?_
  obtain rfl := Option.some.inj h
  exact qE.ret hd9 rfl rfl
def m_thrown_127 (σ : qC) : Int32 := σ.1 6411
set_option maxRecDepth 20000 in
theorem t_m_thrown_127 {S : Nat × (Nat → Int32)} {d : Nat} {x : qC} {y : Int64 × Nat} {σ : qC} {p : Int32} (hd : 9 ≤ d) (h : m_thrown_127 σ = p) : qE S d jm_12_thrown_127 (0, [(0, .ref 64)], [], (x, σ, y)) ((.inl (some (.int p)), (x, σ, y))) := by
  have hd9 : 9 ≤ d := by omega
  unfold m_thrown_127 at h
  refine qE.steps 2 hd9 (s' := (4, [(0, .ref 64)], [.int (σ.1 6411)], (x, σ, y))) rfl ?_
  subst h
  exact qE.ret hd9 rfl rfl
def m_in_129 (i0 : Int32) (i1 : Int32) (i2 : Int32) : Int32 := if i0 < i1 then Int32.ofInt 0 else if i2 < i0 then Int32.ofInt 0 else Int32.ofInt 1
set_option maxRecDepth 20000 in
theorem t_m_in_129 {S : Nat × (Nat → Int32)} {d : Nat} {x : qC} {y : Int64 × Nat} {i0 : Int32} {i1 : Int32} {i2 : Int32} {σ : qC} {p : Int32} (hd : 9 ≤ d) (h : m_in_129 i0 i1 i2 = p) : qE S d jm_12_in_129 (0, [(0, .int i0), (1, .int i1), (2, .int i2)], [], (x, σ, y)) ((.inl (some (.int p)), (x, σ, y))) := by
  have hd9 : 9 ≤ d := by omega
  unfold m_in_129 at h
  refine qE.steps 3 hd9 (s' := (if i0 < i1 then 14 else 5, [(0, .int i0), (1, .int i1), (2, .int i2)], [], (x, σ, y))) rfl ?_
  by_cases c1 : i0 < i1
  · rw [if_pos c1] at h
    rw [if_pos c1]
    refine qE.steps 1 hd9 (s' := (15, [(0, .int i0), (1, .int i1), (2, .int i2)], [.int (Int32.ofInt 0)], (x, σ, y))) rfl ?_
    subst h
    exact qE.ret hd9 rfl rfl
  · rw [if_neg c1] at h
    rw [if_neg c1]
    refine qE.steps 3 hd9 (s' := (if i2 < i0 then 14 else 10, [(0, .int i0), (1, .int i1), (2, .int i2)], [], (x, σ, y))) rfl ?_
    by_cases c2 : i2 < i0
    · rw [if_pos c2] at h
      rw [if_pos c2]
      refine qE.steps 1 hd9 (s' := (15, [(0, .int i0), (1, .int i1), (2, .int i2)], [.int (Int32.ofInt 0)], (x, σ, y))) rfl ?_
      subst h
      exact qE.ret hd9 rfl rfl
    · rw [if_neg c2] at h
      rw [if_neg c2]
      refine qE.steps 2 hd9 (s' := (15, [(0, .int i0), (1, .int i1), (2, .int i2)], [.int (Int32.ofInt 1)], (x, σ, y))) rfl ?_
      subst h
      exact qE.ret hd9 rfl rfl
def m_bad_130 (i1 : Int32) (σ : qC) : Option (Int32 × qC) := if i1 = 0 then qlet (upS σ 6411 (Int32.ofInt 1)) (fun σ2 => some (Int32.ofInt 1, σ2)) else qlet (upS σ 6411 (Int32.ofInt 0)) (fun σ5 => some (Int32.ofInt 0, σ5))
set_option maxRecDepth 20000 in
theorem t_m_bad_130 {S : Nat × (Nat → Int32)} {d : Nat} {x : qC} {y : Int64 × Nat} {i1 : Int32} {σ : qC} {p : (Int32 × qC)} (hd : 9 ≤ d) (h : m_bad_130 i1 σ = some p) : qE S d jm_12_bad_130 (0, [(0, .ref 64), (1, .int i1)], [], (x, σ, y)) ((.inl (some (.int p.1)), (x, p.2, y))) := by
  have hd9 : 9 ≤ d := by omega
  unfold m_bad_130 at h
  refine qE.steps 3 hd9 (s' := (if i1 = 0 then 9 else 5, [(0, .ref 64), (1, .int i1)], [.ref 64], (x, σ, y))) rfl ?_
  by_cases c1 : i1 = 0
  · rw [if_pos c1] at h
    rw [if_pos c1]
    obtain ⟨σ2, e3, h⟩ := qlet_ex h
    refine qE.steps 2 hd9 (s' := (13, [(0, .ref 64), (1, .int i1)], [], (x, σ2, y))) (by subst e3; rfl) ?_
    refine qE.steps 2 hd9 (s' := (if ¬ (i1 = 0) then 21 else 17, [(0, .ref 64), (1, .int i1)], [], (x, σ2, y))) rfl ?_
    rw [if_neg (not_not_intro c1)]
    refine qE.steps 2 hd9 (s' := (22, [(0, .ref 64), (1, .int i1)], [.int (Int32.ofInt 1)], (x, σ2, y))) rfl ?_
    obtain rfl := Option.some.inj h
    exact qE.ret hd9 rfl rfl
  · rw [if_neg c1] at h
    rw [if_neg c1]
    obtain ⟨σ5, e6, h⟩ := qlet_ex h
    refine qE.steps 3 hd9 (s' := (13, [(0, .ref 64), (1, .int i1)], [], (x, σ5, y))) (by subst e6; rfl) ?_
    refine qE.steps 2 hd9 (s' := (if ¬ (i1 = 0) then 21 else 17, [(0, .ref 64), (1, .int i1)], [], (x, σ5, y))) rfl ?_
    rw [if_pos c1]
    refine qE.steps 1 hd9 (s' := (22, [(0, .ref 64), (1, .int i1)], [.int (Int32.ofInt 0)], (x, σ5, y))) rfl ?_
    obtain rfl := Option.some.inj h
    exact qE.ret hd9 rfl rfl
def m_fail_131 (i1 : Int32) (σ : qC) : Option (Int32 × qC) := qlet (upS σ 6411 i1) (fun σ1 => some (Int32.ofInt 0, σ1))
set_option maxRecDepth 20000 in
theorem t_m_fail_131 {S : Nat × (Nat → Int32)} {d : Nat} {x : qC} {y : Int64 × Nat} {i1 : Int32} {σ : qC} {p : (Int32 × qC)} (hd : 9 ≤ d) (h : m_fail_131 i1 σ = some p) : qE S d jm_12_fail_131 (0, [(0, .ref 64), (1, .int i1)], [], (x, σ, y)) ((.inl (some (.int p.1)), (x, p.2, y))) := by
  have hd9 : 9 ≤ d := by omega
  unfold m_fail_131 at h
  obtain ⟨σ1, e2, h⟩ := qlet_ex h
  refine qE.steps 3 hd9 (s' := (5, [(0, .ref 64), (1, .int i1)], [], (x, σ1, y))) (by subst e2; rfl) ?_
  refine qE.steps 1 hd9 (s' := (6, [(0, .ref 64), (1, .int i1)], [.int (Int32.ofInt 0)], (x, σ1, y))) rfl ?_
  obtain rfl := Option.some.inj h
  exact qE.ret hd9 rfl rfl
