/-! BY PROGRAM (wip/whole/gendc.py): each method as a function over the numbers -/
def c_remove_52_l22 : Nat → Int32 → Int32 → qC → Option qC
  | 0, _, _, _ => none
  | n + 1, i2, i3, σ => if σ.1 3302 ≤ i3 + (Int32.ofInt 1) then qlet (upS σ 3302 ((σ.1 3302) - (Int32.ofInt 1))) (fun σ2 => (aput σ2 34 12 (σ2.1 3302) i2).bind (fun σ4 => some σ4)) else (aget (σ.2 34) 12 (i3 + (Int32.ofInt 1))).bind (fun x6 => (aput σ 34 12 i3 x6).bind (fun σ8 => (c_remove_52_l22 n) i2 (i3 + Int32.ofInt 1) σ8))
def c_remove_52 (i1 : Int32) (σ : qC) : Option qC := if i1 < 0 then some σ else if i1 < σ.1 3302 then (aget (σ.2 34) 12 i1).bind (fun x3 => c_remove_52_l22 qF x3 i1 σ) else some σ
theorem t_c_remove_52_l22 {S : Nat × (Nat → Int32)} {d : Nat} {y : qC × Int64 × Nat} (hd : 9 ≤ d) : ∀ (n : Nat) {i2 : Int32} {i3 : Int32} {σ : qC} {p : qC}, c_remove_52_l22 n i2 i3 σ = some p → qE S d jm_2_remove_52 (22, [(0, .ref 33), (2, .int i2), (3, .int i3)], [], (σ, y)) ((.inl none, (p, y))) := by
  have hd9 : 9 ≤ d := by omega
  intro n
  induction n with
  | zero =>
    intros
    rename_i h
    unfold c_remove_52_l22 at h
    cases h
  | succ n ih =>
    intro i2 i3 σ p h
    unfold c_remove_52_l22 at h
    refine qE.steps 6 hd9 (s' := (if σ.1 3302 ≤ i3 + (Int32.ofInt 1) then 52 else 32, [(0, .ref 33), (2, .int i2), (3, .int i3)], [], (σ, y))) rfl ?_
    by_cases c1 : σ.1 3302 ≤ i3 + (Int32.ofInt 1)
    · rw [if_pos c1] at h
      rw [if_pos c1]
      obtain ⟨σ2, e3, h⟩ := qlet_ex h
      refine qE.steps 6 hd9 (s' := (62, [(0, .ref 33), (2, .int i2), (3, .int i3)], [], (σ2, y))) (by subst e3; rfl) ?_
      refine qE.steps 5 hd9 (s' := (71, [(0, .ref 33), (2, .int i2), (3, .int i3)], [.int i2, .int (σ2.1 3302), .ref 34], (σ2, y))) rfl ?_
      obtain ⟨σ4, e5, h⟩ := obind h
      refine qE.iastC hd9 e5 rfl rfl ?_
      obtain rfl := Option.some.inj h
      exact qE.ret hd9 rfl rfl
    · rw [if_neg c1] at h
      rw [if_neg c1]
      refine qE.steps 8 hd9 (s' := (44, [(0, .ref 33), (2, .int i2), (3, .int i3)], [.int (i3 + (Int32.ofInt 1)), .ref 34, .int i3, .ref 34], (σ, y))) rfl ?_
      obtain ⟨x6, e7, h⟩ := obind h
      refine qE.iald hd9 e7 rfl rfl ?_
      obtain ⟨σ8, e9, h⟩ := obind h
      refine qE.iastC hd9 e9 rfl rfl ?_
      refine qE.steps 2 hd9 (s' := (22, [(3, .int (i3 + Int32.ofInt 1)), (0, .ref 33), (2, .int i2)], [], (σ8, y))) rfl ?_
      exact qE.wk (ih h) ⟨rfl, rfl, rfl, trivial⟩ rfl
theorem t_c_remove_52 {S : Nat × (Nat → Int32)} {d : Nat} {y : qC × Int64 × Nat} {i1 : Int32} {σ : qC} {p : qC} (hd : 9 ≤ d) (h : c_remove_52 i1 σ = some p) : qE S d jm_2_remove_52 (0, [(0, .ref 33), (1, .int i1)], [], (σ, y)) ((.inl none, (p, y))) := by
  have hd9 : 9 ≤ d := by omega
  unfold c_remove_52 at h
  refine qE.steps 2 hd9 (s' := (if i1 < 0 then 12 else 4, [(0, .ref 33), (1, .int i1)], [], (σ, y))) rfl ?_
  by_cases c1 : i1 < 0
  · rw [if_pos c1] at h
    rw [if_pos c1]
    obtain rfl := Option.some.inj h
    exact qE.ret hd9 rfl rfl
  · rw [if_neg c1] at h
    rw [if_neg c1]
    refine qE.steps 4 hd9 (s' := (if i1 < σ.1 3302 then 13 else 12, [(0, .ref 33), (1, .int i1)], [], (σ, y))) rfl ?_
    by_cases c2 : i1 < σ.1 3302
    · rw [if_pos c2] at h
      rw [if_pos c2]
      refine qE.steps 3 hd9 (s' := (18, [(0, .ref 33), (1, .int i1)], [.int i1, .ref 34], (σ, y))) rfl ?_
      obtain ⟨x3, e4, h⟩ := obind h
      refine qE.iald hd9 e4 rfl rfl ?_
      refine qE.steps 3 hd9 (s' := (22, [(3, .int i1), (2, .int x3), (0, .ref 33), (1, .int i1)], [], (σ, y))) rfl ?_
      exact qE.wk (t_c_remove_52_l22 hd qF h) ⟨rfl, rfl, rfl, trivial⟩ rfl
    · rw [if_neg c2] at h
      rw [if_neg c2]
      obtain rfl := Option.some.inj h
      exact qE.ret hd9 rfl rfl
def c_drop_51 (i1 : Int32) (σ : qC) : Option ((Int32 ⊕ Nat) × qC) := if i1 < 0 then some (.inr 12, σ) else if i1 < c_size_13 σ then (c_remove_52 i1 σ).bind (fun p3 => qlet (upS p3 2410 (Int32.ofInt 0)) (fun σ5 => some (.inl (Int32.ofInt 0), σ5))) else some (.inr 12, σ)
theorem t_c_drop_51 {S : Nat × (Nat → Int32)} {d : Nat} {y : qC × Int64 × Nat} {i1 : Int32} {σ : qC} {p : ((Int32 ⊕ Nat) × qC)} (hd : 10 ≤ d) (h : c_drop_51 i1 σ = some p) : qE S d jm_0_drop_51 (0, [(0, .ref 24), (1, .int i1)], [], (σ, y)) (qresV p y) := by
  have hd9 : 9 ≤ d := by omega
  unfold c_drop_51 at h
  refine qE.steps 2 hd9 (s' := (if i1 < 0 then 15 else 4, [(0, .ref 24), (1, .int i1)], [], (σ, y))) rfl ?_
  by_cases c1 : i1 < 0
  · rw [if_pos c1] at h
    rw [if_pos c1]
    obtain rfl := Option.some.inj h
    exact qE.thr hd9 rfl rfl rfl
  · rw [if_neg c1] at h
    rw [if_neg c1]
    refine qE.steps 3 hd9 (s' := (9, [(0, .ref 24), (1, .int i1)], [.ref 33, .int i1], (σ, y))) rfl ?_
    refine qE.call hd9 rfl rfl rfl rfl (t_c_size_13 (by omega) rfl) ?_
    refine qE.steps 0 hd9 (s' := (12, [(0, .ref 24), (1, .int i1)], [.int (c_size_13 σ), .int i1], (σ, y))) rfl ?_
    refine qE.steps 1 hd9 (s' := (if i1 < c_size_13 σ then 25 else 15, [(0, .ref 24), (1, .int i1)], [], (σ, y))) rfl ?_
    by_cases c2 : i1 < c_size_13 σ
    · rw [if_pos c2] at h
      rw [if_pos c2]
      refine qE.steps 3 hd9 (s' := (30, [(0, .ref 24), (1, .int i1)], [.int i1, .ref 33], (σ, y))) rfl ?_
      obtain ⟨p3, e4, h⟩ := obind h
      refine qE.call hd9 rfl rfl rfl rfl (t_c_remove_52 (by omega) e4) ?_
      refine qE.steps 0 hd9 (s' := (33, [(0, .ref 24), (1, .int i1)], [], (p3, y))) rfl ?_
      obtain ⟨σ5, e6, h⟩ := qlet_ex h
      refine qE.steps 3 hd9 (s' := (38, [(0, .ref 24), (1, .int i1)], [], (σ5, y))) (by subst e6; rfl) ?_
      obtain rfl := Option.some.inj h
      exact qE.ret hd9 rfl rfl
    · rw [if_neg c2] at h
      rw [if_neg c2]
      obtain rfl := Option.some.inj h
      exact qE.thr hd9 rfl rfl rfl
def c_readQuestion_54 (i1 : Int32) (σ : qC) : Option (Int32 × qC) := (c_begin_28 i1 σ).bind (fun p1 => (c_readGoals_42 p1).bind (fun p3 => (c_rankVariables_47 (p3.2.1 3202) p3.2).bind (fun p5 => if p3.1 = 0 ∨ p3.1 = 1 then some (p3.1, p5) else none)))
theorem t_c_readQuestion_54 {S : Nat × (Nat → Int32)} {d : Nat} {y : qC × Int64 × Nat} {i1 : Int32} {σ : qC} {p : (Int32 × qC)} (hd : 22 ≤ d) (h : c_readQuestion_54 i1 σ = some p) : qE S d jm_5_readQuestion_54 (0, [(0, .ref 32), (1, .int i1)], [], (σ, y)) ((.inl (some (.int p.1)), (p.2, y))) := by
  have hd9 : 9 ≤ d := by omega
  unfold c_readQuestion_54 at h
  refine qE.steps 2 hd9 (s' := (2, [(0, .ref 32), (1, .int i1)], [.int i1, .ref 32], (σ, y))) rfl ?_
  obtain ⟨p1, e2, h⟩ := obind h
  refine qE.call hd9 rfl rfl rfl rfl (t_c_begin_28 (by omega) e2) ?_
  refine qE.steps 0 hd9 (s' := (5, [(0, .ref 32), (1, .int i1)], [], (p1, y))) rfl ?_
  refine qE.steps 1 hd9 (s' := (6, [(0, .ref 32), (1, .int i1)], [.ref 32], (p1, y))) rfl ?_
  obtain ⟨p3, e4, h⟩ := obind h
  refine qE.call hd9 rfl rfl rfl rfl (t_c_readGoals_42 (by omega) e4) ?_
  refine qE.steps 0 hd9 (s' := (9, [(0, .ref 32), (1, .int i1)], [.int p3.1], (p3.2, y))) rfl ?_
  refine qE.steps 5 hd9 (s' := (18, [(2, .int p3.1), (0, .ref 32), (1, .int i1)], [.int (p3.2.1 3202), .ref 27], (p3.2, y))) rfl ?_
  obtain ⟨p5, e6, h⟩ := obind h
  refine qE.call hd9 rfl rfl rfl rfl (t_c_rankVariables_47 (by omega) e6) ?_
  refine qE.steps 0 hd9 (s' := (21, [(2, .int p3.1), (0, .ref 32), (1, .int i1)], [], (p5, y))) rfl ?_
  refine qE.steps 1 hd9 (s' := (22, [(2, .int p3.1), (0, .ref 32), (1, .int i1)], [.int p3.1], (p5, y))) rfl ?_
  by_cases c7 : p3.1 = 0 ∨ p3.1 = 1
  case neg => rw [if_neg c7] at h; cases h
  rw [if_pos c7] at h
  obtain rfl := Option.some.inj h
  exact qE.ret hd9 rfl (by rcases c7 with c7 | c7 <;> (show qat jT0 jm_5_readQuestion_54 (22, [(2, .int p3.1), (0, .ref 32), (1, .int i1)], [.int p3.1], (p5, y)) = some (.inl (some (.int p3.1)))) <;> rw [c7] <;> rfl)
def c_clear_56 (σ : qC) : Option qC := qlet (tshr σ 36 (Int32.ofInt 0)) (fun σ1 => qlet (tshr σ1 38 (Int32.ofInt 0)) (fun σ3 => qlet (tshr σ3 40 (Int32.ofInt 0)) (fun σ5 => qlet (tshr σ5 42 (Int32.ofInt 0)) (fun σ7 => qlet (upS σ7 3505 (Int32.ofInt 0)) (fun σ9 => some σ9)))))
theorem t_c_clear_56 {S : Nat × (Nat → Int32)} {d : Nat} {y : qC × Int64 × Nat} {σ : qC} {p : qC} (hd : 9 ≤ d) (h : c_clear_56 σ = some p) : qE S d jm_7_clear_56 (0, [(0, .ref 35)], [], (σ, y)) ((.inl none, (p, y))) := by
  have hd9 : 9 ≤ d := by omega
  unfold c_clear_56 at h
  obtain ⟨σ1, e2, h⟩ := qlet_ex h
  refine qE.steps 4 hd9 (s' := (8, [(0, .ref 35)], [], (σ1, y))) (by subst e2; rfl) ?_
  obtain ⟨σ3, e4, h⟩ := qlet_ex h
  refine qE.steps 4 hd9 (s' := (16, [(0, .ref 35)], [], (σ3, y))) (by subst e4; rfl) ?_
  obtain ⟨σ5, e6, h⟩ := qlet_ex h
  refine qE.steps 4 hd9 (s' := (24, [(0, .ref 35)], [], (σ5, y))) (by subst e6; rfl) ?_
  obtain ⟨σ7, e8, h⟩ := qlet_ex h
  refine qE.steps 4 hd9 (s' := (32, [(0, .ref 35)], [], (σ7, y))) (by subst e8; rfl) ?_
  obtain ⟨σ9, e10, h⟩ := qlet_ex h
  refine qE.steps 3 hd9 (s' := (37, [(0, .ref 35)], [], (σ9, y))) (by subst e10; rfl) ?_
  obtain rfl := Option.some.inj h
  exact qE.ret hd9 rfl rfl
def c_clear_58 (σ : qC) : Option qC := qlet (upS σ 4406 (Int32.ofInt 0)) (fun σ1 => qlet (tshr σ1 45 (Int32.ofInt 0)) (fun σ3 => qlet (tshr σ3 47 (Int32.ofInt 0)) (fun σ5 => some σ5)))
theorem t_c_clear_58 {S : Nat × (Nat → Int32)} {d : Nat} {y : qC × Int64 × Nat} {σ : qC} {p : qC} (hd : 9 ≤ d) (h : c_clear_58 σ = some p) : qE S d jm_3_clear_58 (0, [(0, .ref 44)], [], (σ, y)) ((.inl none, (p, y))) := by
  have hd9 : 9 ≤ d := by omega
  unfold c_clear_58 at h
  obtain ⟨σ1, e2, h⟩ := qlet_ex h
  refine qE.steps 3 hd9 (s' := (5, [(0, .ref 44)], [], (σ1, y))) (by subst e2; rfl) ?_
  obtain ⟨σ3, e4, h⟩ := qlet_ex h
  refine qE.steps 4 hd9 (s' := (13, [(0, .ref 44)], [], (σ3, y))) (by subst e4; rfl) ?_
  obtain ⟨σ5, e6, h⟩ := qlet_ex h
  refine qE.steps 4 hd9 (s' := (21, [(0, .ref 44)], [], (σ5, y))) (by subst e6; rfl) ?_
  obtain rfl := Option.some.inj h
  exact qE.ret hd9 rfl rfl
def c_variablesOf_60 (i1 : Int32) (σ : qC) : Int32 := c_bitCount_183 (tat σ 30 4 i1 (Int32.ofInt 0))
theorem t_c_variablesOf_60 {S : Nat × (Nat → Int32)} {d : Nat} {y : qC × Int64 × Nat} {i1 : Int32} {σ : qC} {p : Int32} (hd : 10 ≤ d) (h : c_variablesOf_60 i1 σ = p) : qE S d jm_1_variablesOf_60 (0, [(0, .ref 27), (1, .int i1)], [], (σ, y)) ((.inl (some (.int p)), (σ, y))) := by
  have hd9 : 9 ≤ d := by omega
  unfold c_variablesOf_60 at h
  refine qE.steps 5 hd9 (s' := (9, [(0, .ref 27), (1, .int i1)], [.int (tat σ 30 4 i1 (Int32.ofInt 0))], (σ, y))) rfl ?_
  refine qE.call hd9 rfl rfl rfl rfl (t_c_bitCount_183 (by omega) rfl) ?_
  refine qE.steps 0 hd9 (s' := (12, [(0, .ref 27), (1, .int i1)], [.int (c_bitCount_183 (tat σ 30 4 i1 (Int32.ofInt 0)))], (σ, y))) rfl ?_
  subst h
  exact qE.ret hd9 rfl rfl
def c_makeVariables_59_l20 : Nat → Int32 → Int32 → Int32 → qC → Option (Int32 × qC)
  | 0, _, _, _, _ => none
  | n + 1, i2, i3, i4, σ => if i3 ≤ i4 then qlet (upS σ 3505 ((σ.1 3505) + i3)) (fun σ2 => some (i2, σ2)) else (tappO σ 36 4 (Int32.ofInt (-1)) (Int32.ofInt (-1)) (Int32.ofInt (-1)) (Int32.ofInt (-1))).bind (fun σ4 => (c_makeVariables_59_l20 n) i2 i3 (i4 + Int32.ofInt 1) σ4)
def c_makeVariables_59 (i1 : Int32) (σ : qC) : Option (Int32 × qC) := c_makeVariables_59_l20 qF (σ.1 3602) (c_variablesOf_60 i1 σ) (Int32.ofInt 0) σ
theorem t_c_makeVariables_59_l20 {S : Nat × (Nat → Int32)} {d : Nat} {y : qC × Int64 × Nat} (hd : 11 ≤ d) : ∀ (n : Nat) {i2 : Int32} {i3 : Int32} {i4 : Int32} {σ : qC} {p : (Int32 × qC)}, c_makeVariables_59_l20 n i2 i3 i4 σ = some p → qE S d jm_7_makeVariables_59 (20, [(0, .ref 35), (2, .int i2), (3, .int i3), (4, .int i4)], [], (σ, y)) ((.inl (some (.int p.1)), (p.2, y))) := by
  have hd9 : 9 ≤ d := by omega
  intro n
  induction n with
  | zero =>
    intros
    rename_i h
    unfold c_makeVariables_59_l20 at h
    cases h
  | succ n ih =>
    intro i2 i3 i4 σ p h
    unfold c_makeVariables_59_l20 at h
    refine qE.steps 3 hd9 (s' := (if i3 ≤ i4 then 44 else 26, [(0, .ref 35), (2, .int i2), (3, .int i3), (4, .int i4)], [], (σ, y))) rfl ?_
    by_cases c1 : i3 ≤ i4
    · rw [if_pos c1] at h
      rw [if_pos c1]
      obtain ⟨σ2, e3, h⟩ := qlet_ex h
      refine qE.steps 6 hd9 (s' := (54, [(0, .ref 35), (2, .int i2), (3, .int i3), (4, .int i4)], [], (σ2, y))) (by subst e3; rfl) ?_
      refine qE.steps 1 hd9 (s' := (55, [(0, .ref 35), (2, .int i2), (3, .int i3), (4, .int i4)], [.int i2], (σ2, y))) rfl ?_
      obtain rfl := Option.some.inj h
      exact qE.ret hd9 rfl rfl
    · rw [if_neg c1] at h
      rw [if_neg c1]
      refine qE.steps 6 hd9 (s' := (34, [(0, .ref 35), (2, .int i2), (3, .int i3), (4, .int i4)], [.int (Int32.ofInt (-1)), .int (Int32.ofInt (-1)), .int (Int32.ofInt (-1)), .int (Int32.ofInt (-1)), .ref 36], (σ, y))) rfl ?_
      obtain ⟨σ4, e5, h⟩ := obind h
      refine qE.tab hd9 (qtab_app e5 rfl) rfl rfl rfl ?_
      refine qE.steps 0 hd9 (s' := (37, [(0, .ref 35), (2, .int i2), (3, .int i3), (4, .int i4)], [.int (σ.1 3602)], (σ4, y))) rfl ?_
      refine qE.steps 3 hd9 (s' := (20, [(4, .int (i4 + Int32.ofInt 1)), (0, .ref 35), (2, .int i2), (3, .int i3)], [], (σ4, y))) rfl ?_
      exact qE.wk (ih h) ⟨rfl, rfl, rfl, rfl, trivial⟩ rfl
theorem t_c_makeVariables_59 {S : Nat × (Nat → Int32)} {d : Nat} {y : qC × Int64 × Nat} {i1 : Int32} {σ : qC} {p : (Int32 × qC)} (hd : 11 ≤ d) (h : c_makeVariables_59 i1 σ = some p) : qE S d jm_7_makeVariables_59 (0, [(0, .ref 35), (1, .int i1)], [], (σ, y)) ((.inl (some (.int p.1)), (p.2, y))) := by
  have hd9 : 9 ≤ d := by omega
  unfold c_makeVariables_59 at h
  refine qE.steps 7 hd9 (s' := (13, [(2, .int (σ.1 3602)), (0, .ref 35), (1, .int i1)], [.int i1, .ref 27], (σ, y))) rfl ?_
  refine qE.call hd9 rfl rfl rfl rfl (t_c_variablesOf_60 (by omega) rfl) ?_
  refine qE.steps 0 hd9 (s' := (16, [(2, .int (σ.1 3602)), (0, .ref 35), (1, .int i1)], [.int (c_variablesOf_60 i1 σ)], (σ, y))) rfl ?_
  refine qE.steps 3 hd9 (s' := (20, [(4, .int (Int32.ofInt 0)), (3, .int (c_variablesOf_60 i1 σ)), (2, .int (σ.1 3602)), (0, .ref 35), (1, .int i1)], [], (σ, y))) rfl ?_
  exact qE.wk (t_c_makeVariables_59_l20 hd qF h) ⟨rfl, rfl, rfl, rfl, trivial⟩ rfl
def c_firstGoal_62 (i1 : Int32) (σ : qC) : Int32 := tat σ 30 4 i1 (Int32.ofInt 1)
theorem t_c_firstGoal_62 {S : Nat × (Nat → Int32)} {d : Nat} {y : qC × Int64 × Nat} {i1 : Int32} {σ : qC} {p : Int32} (hd : 9 ≤ d) (h : c_firstGoal_62 i1 σ = p) : qE S d jm_1_firstGoal_62 (0, [(0, .ref 27), (1, .int i1)], [], (σ, y)) ((.inl (some (.int p)), (σ, y))) := by
  have hd9 : 9 ≤ d := by omega
  unfold c_firstGoal_62 at h
  refine qE.steps 5 hd9 (s' := (9, [(0, .ref 27), (1, .int i1)], [.int (tat σ 30 4 i1 (Int32.ofInt 1))], (σ, y))) rfl ?_
  subst h
  exact qE.ret hd9 rfl rfl
def c_begin_55 (σ : qC) : Option qC := (c_clear_56 σ).bind (fun p1 => (c_clear_58 p1).bind (fun p3 => qlet (tshr p3 52 (Int32.ofInt 0)) (fun σ5 => qlet (tshr σ5 54 (Int32.ofInt 0)) (fun σ7 => (c_makeVariables_59 (Int32.ofInt 0) σ7).bind (fun p9 => (tappO p9.2 52 4 (c_firstGoal_62 (Int32.ofInt 0) p9.2) p9.1 (Int32.ofInt 0) (Int32.ofInt (-1))).bind (fun σ11 => qlet (upS σ11 5108 (p9.2.1 5202)) (fun σ13 => some σ13)))))))
theorem t_c_begin_55 {S : Nat × (Nat → Int32)} {d : Nat} {y : qC × Int64 × Nat} {σ : qC} {p : qC} (hd : 12 ≤ d) (h : c_begin_55 σ = some p) : qE S d jm_6_begin_55 (0, [(0, .ref 51)], [], (σ, y)) ((.inl none, (p, y))) := by
  have hd9 : 9 ≤ d := by omega
  unfold c_begin_55 at h
  refine qE.steps 2 hd9 (s' := (4, [(0, .ref 51)], [.ref 35], (σ, y))) rfl ?_
  obtain ⟨p1, e2, h⟩ := obind h
  refine qE.call hd9 rfl rfl rfl rfl (t_c_clear_56 (by omega) e2) ?_
  refine qE.steps 0 hd9 (s' := (7, [(0, .ref 51)], [], (p1, y))) rfl ?_
  refine qE.steps 2 hd9 (s' := (11, [(0, .ref 51)], [.ref 44], (p1, y))) rfl ?_
  obtain ⟨p3, e4, h⟩ := obind h
  refine qE.call hd9 rfl rfl rfl rfl (t_c_clear_58 (by omega) e4) ?_
  refine qE.steps 0 hd9 (s' := (14, [(0, .ref 51)], [], (p3, y))) rfl ?_
  obtain ⟨σ5, e6, h⟩ := qlet_ex h
  refine qE.steps 4 hd9 (s' := (22, [(0, .ref 51)], [], (σ5, y))) (by subst e6; rfl) ?_
  obtain ⟨σ7, e8, h⟩ := qlet_ex h
  refine qE.steps 4 hd9 (s' := (30, [(0, .ref 51)], [], (σ7, y))) (by subst e8; rfl) ?_
  refine qE.steps 3 hd9 (s' := (35, [(0, .ref 51)], [.int (Int32.ofInt 0), .ref 35], (σ7, y))) rfl ?_
  obtain ⟨p9, e10, h⟩ := obind h
  refine qE.call hd9 rfl rfl rfl rfl (t_c_makeVariables_59 (by omega) e10) ?_
  refine qE.steps 0 hd9 (s' := (38, [(0, .ref 51)], [.int p9.1], (p9.2, y))) rfl ?_
  refine qE.steps 7 hd9 (s' := (49, [(1, .int p9.1), (0, .ref 51)], [.int (Int32.ofInt 0), .ref 27, .ref 52, .ref 51], (p9.2, y))) rfl ?_
  refine qE.call hd9 rfl rfl rfl rfl (t_c_firstGoal_62 (by omega) rfl) ?_
  refine qE.steps 0 hd9 (s' := (52, [(1, .int p9.1), (0, .ref 51)], [.int (c_firstGoal_62 (Int32.ofInt 0) p9.2), .ref 52, .ref 51], (p9.2, y))) rfl ?_
  refine qE.steps 3 hd9 (s' := (55, [(1, .int p9.1), (0, .ref 51)], [.int (Int32.ofInt (-1)), .int (Int32.ofInt 0), .int p9.1, .int (c_firstGoal_62 (Int32.ofInt 0) p9.2), .ref 52, .ref 51], (p9.2, y))) rfl ?_
  obtain ⟨σ11, e12, h⟩ := obind h
  refine qE.tab hd9 (qtab_app e12 rfl) rfl rfl rfl ?_
  refine qE.steps 0 hd9 (s' := (58, [(1, .int p9.1), (0, .ref 51)], [.int (p9.2.1 5202), .ref 51], (σ11, y))) rfl ?_
  obtain ⟨σ13, e14, h⟩ := qlet_ex h
  refine qE.steps 1 hd9 (s' := (61, [(1, .int p9.1), (0, .ref 51)], [], (σ13, y))) (by subst e14; rfl) ?_
  obtain rfl := Option.some.inj h
  exact qE.ret hd9 rfl rfl
def c_takeStep_65 (σ : qC) : Option (Int32 × qC) := if σ.1 4406 < Int32.ofInt 500 then qlet (upS σ 4406 ((σ.1 4406) + (Int32.ofInt 1))) (fun σ2 => some (Int32.ofInt 1, σ2)) else some (Int32.ofInt 0, σ)
theorem t_c_takeStep_65 {S : Nat × (Nat → Int32)} {d : Nat} {y : qC × Int64 × Nat} {σ : qC} {p : (Int32 × qC)} (hd : 9 ≤ d) (h : c_takeStep_65 σ = some p) : qE S d jm_3_takeStep_65 (0, [(0, .ref 44)], [], (σ, y)) ((.inl (some (.int p.1)), (p.2, y))) := by
  have hd9 : 9 ≤ d := by omega
  unfold c_takeStep_65 at h
  refine qE.steps 4 hd9 (s' := (if σ.1 4406 < Int32.ofInt 500 then 12 else 10, [(0, .ref 44)], [], (σ, y))) rfl ?_
  by_cases c1 : σ.1 4406 < Int32.ofInt 500
  · rw [if_pos c1] at h
    rw [if_pos c1]
    obtain ⟨σ2, e3, h⟩ := qlet_ex h
    refine qE.steps 6 hd9 (s' := (22, [(0, .ref 44)], [], (σ2, y))) (by subst e3; rfl) ?_
    refine qE.steps 1 hd9 (s' := (23, [(0, .ref 44)], [.int (Int32.ofInt 1)], (σ2, y))) rfl ?_
    obtain rfl := Option.some.inj h
    exact qE.ret hd9 rfl rfl
  · rw [if_neg c1] at h
    rw [if_neg c1]
    refine qE.steps 1 hd9 (s' := (11, [(0, .ref 44)], [.int (Int32.ofInt 0)], (σ, y))) rfl ?_
    obtain rfl := Option.some.inj h
    exact qE.ret hd9 rfl rfl
def c_follower_66 (i1 : Int32) (σ : qC) : Int32 := tat σ 28 9 i1 (Int32.ofInt 7)
theorem t_c_follower_66 {S : Nat × (Nat → Int32)} {d : Nat} {y : qC × Int64 × Nat} {i1 : Int32} {σ : qC} {p : Int32} (hd : 9 ≤ d) (h : c_follower_66 i1 σ = p) : qE S d jm_1_follower_66 (0, [(0, .ref 27), (1, .int i1)], [], (σ, y)) ((.inl (some (.int p)), (σ, y))) := by
  have hd9 : 9 ≤ d := by omega
  unfold c_follower_66 at h
  refine qE.steps 5 hd9 (s' := (10, [(0, .ref 27), (1, .int i1)], [.int (tat σ 28 9 i1 (Int32.ofInt 7))], (σ, y))) rfl ?_
  subst h
  exact qE.ret hd9 rfl rfl
def c_kind_67 (i1 : Int32) (σ : qC) : Int32 := tat σ 28 9 i1 (Int32.ofInt 5)
theorem t_c_kind_67 {S : Nat × (Nat → Int32)} {d : Nat} {y : qC × Int64 × Nat} {i1 : Int32} {σ : qC} {p : Int32} (hd : 9 ≤ d) (h : c_kind_67 i1 σ = p) : qE S d jm_1_kind_67 (0, [(0, .ref 27), (1, .int i1)], [], (σ, y)) ((.inl (some (.int p)), (σ, y))) := by
  have hd9 : 9 ≤ d := by omega
  unfold c_kind_67 at h
  refine qE.steps 5 hd9 (s' := (9, [(0, .ref 27), (1, .int i1)], [.int (tat σ 28 9 i1 (Int32.ofInt 5))], (σ, y))) rfl ?_
  subst h
  exact qE.ret hd9 rfl rfl
def c_rank_73 (i1 : Int32) (σ : qC) : Int32 := tat σ 28 9 i1 (Int32.ofInt 8)
theorem t_c_rank_73 {S : Nat × (Nat → Int32)} {d : Nat} {y : qC × Int64 × Nat} {i1 : Int32} {σ : qC} {p : Int32} (hd : 9 ≤ d) (h : c_rank_73 i1 σ = p) : qE S d jm_1_rank_73 (0, [(0, .ref 27), (1, .int i1)], [], (σ, y)) ((.inl (some (.int p)), (σ, y))) := by
  have hd9 : 9 ≤ d := by omega
  unfold c_rank_73 at h
  refine qE.steps 5 hd9 (s' := (10, [(0, .ref 27), (1, .int i1)], [.int (tat σ 28 9 i1 (Int32.ofInt 8))], (σ, y))) rfl ?_
  subst h
  exact qE.ret hd9 rfl rfl
def c_find_72_56_l34 : Nat → Int32 → Int32 → qC → Option qC
  | 0, _, _, _ => none
  | n + 1, i4, i5, σ => if i5 < 0 then some σ else if i4 = Int32.ofInt (-1) then some σ else if tat σ 36 4 ((σ.1 5601) + i4) (Int32.ofInt 0) = Int32.ofInt (-1) then qlet (upS σ 5602 ((σ.1 5601) + i4)) (fun σ4 => some σ4) else qlet (upS σ 5600 (tat σ 36 4 ((σ.1 5601) + i4) (Int32.ofInt 0))) (fun σ6 => qlet (upS σ6 5601 (tat σ6 36 4 ((σ.1 5601) + i4) (Int32.ofInt 1))) (fun σ8 => qlet (c_rank_73 (tat σ 36 4 ((σ.1 5601) + i4) (Int32.ofInt 0)) σ8) (fun x10 => (c_find_72_56_l34 n) x10 (i5 + Int32.ofInt (-1)) σ8)))
def c_find_72_56 (i1 : Int32) (i2 : Int32) (σ : qC) : Option qC := qlet (upS σ 5600 i1) (fun σ1 => qlet (upS σ1 5601 i2) (fun σ3 => qlet (upS σ3 5602 (Int32.ofInt (-1))) (fun σ5 => c_find_72_56_l34 qF (c_rank_73 i1 σ5) (σ5.1 3602) σ5)))
theorem t_c_find_72_56_l34 {S : Nat × (Nat → Int32)} {d : Nat} {y : qC × Int64 × Nat} (hd : 10 ≤ d) : ∀ (n : Nat) {i4 : Int32} {i5 : Int32} {σ : qC} {p : qC}, c_find_72_56_l34 n i4 i5 σ = some p → qE S d jm_7_find_72 (34, [(0, .ref 35), (3, .ref 56), (4, .int i4), (5, .int i5)], [], (σ, y)) ((.inl none, (p, y))) := by
  have hd9 : 9 ≤ d := by omega
  intro n
  induction n with
  | zero =>
    intros
    rename_i h
    unfold c_find_72_56_l34 at h
    cases h
  | succ n ih =>
    intro i4 i5 σ p h
    unfold c_find_72_56_l34 at h
    refine qE.steps 2 hd9 (s' := (if i5 < 0 then 116 else 39, [(0, .ref 35), (3, .ref 56), (4, .int i4), (5, .int i5)], [], (σ, y))) rfl ?_
    by_cases c1 : i5 < 0
    · rw [if_pos c1] at h
      rw [if_pos c1]
      obtain rfl := Option.some.inj h
      exact qE.ret hd9 rfl rfl
    · rw [if_neg c1] at h
      rw [if_neg c1]
      refine qE.steps 3 hd9 (s' := (if i4 = Int32.ofInt (-1) then 116 else 45, [(0, .ref 35), (3, .ref 56), (4, .int i4), (5, .int i5)], [], (σ, y))) rfl ?_
      by_cases c2 : i4 = Int32.ofInt (-1)
      · rw [if_pos c2] at h
        rw [if_pos c2]
        obtain rfl := Option.some.inj h
        exact qE.ret hd9 rfl rfl
      · rw [if_neg c2] at h
        rw [if_neg c2]
        refine qE.steps 14 hd9 (s' := (if ¬ (tat σ 36 4 ((σ.1 5601) + i4) (Int32.ofInt 0) = Int32.ofInt (-1)) then 79 else 72, [(7, .int (tat σ 36 4 ((σ.1 5601) + i4) (Int32.ofInt 0))), (6, .int ((σ.1 5601) + i4)), (0, .ref 35), (3, .ref 56), (4, .int i4), (5, .int i5)], [], (σ, y))) rfl ?_
        by_cases c3 : tat σ 36 4 ((σ.1 5601) + i4) (Int32.ofInt 0) = Int32.ofInt (-1)
        · rw [if_pos c3] at h
          rw [if_neg (not_not_intro c3)]
          obtain ⟨σ4, e5, h⟩ := qlet_ex h
          refine qE.steps 3 hd9 (s' := (78, [(7, .int (tat σ 36 4 ((σ.1 5601) + i4) (Int32.ofInt 0))), (6, .int ((σ.1 5601) + i4)), (0, .ref 35), (3, .ref 56), (4, .int i4), (5, .int i5)], [], (σ4, y))) (by subst e5; rfl) ?_
          obtain rfl := Option.some.inj h
          exact qE.ret hd9 rfl rfl
        · rw [if_neg c3] at h
          rw [if_pos c3]
          obtain ⟨σ6, e7, h⟩ := qlet_ex h
          refine qE.steps 3 hd9 (s' := (85, [(7, .int (tat σ 36 4 ((σ.1 5601) + i4) (Int32.ofInt 0))), (6, .int ((σ.1 5601) + i4)), (0, .ref 35), (3, .ref 56), (4, .int i4), (5, .int i5)], [], (σ6, y))) (by subst e7; rfl) ?_
          obtain ⟨σ8, e9, h⟩ := qlet_ex h
          refine qE.steps 7 hd9 (s' := (99, [(7, .int (tat σ 36 4 ((σ.1 5601) + i4) (Int32.ofInt 0))), (6, .int ((σ.1 5601) + i4)), (0, .ref 35), (3, .ref 56), (4, .int i4), (5, .int i5)], [], (σ8, y))) (by subst e9; rfl) ?_
          refine qE.steps 3 hd9 (s' := (105, [(7, .int (tat σ 36 4 ((σ.1 5601) + i4) (Int32.ofInt 0))), (6, .int ((σ.1 5601) + i4)), (0, .ref 35), (3, .ref 56), (4, .int i4), (5, .int i5)], [.int (tat σ 36 4 ((σ.1 5601) + i4) (Int32.ofInt 0)), .ref 27], (σ8, y))) rfl ?_
          refine qE.call hd9 rfl rfl rfl rfl (t_c_rank_73 (by omega) rfl) ?_
          refine qE.steps 0 hd9 (s' := (108, [(7, .int (tat σ 36 4 ((σ.1 5601) + i4) (Int32.ofInt 0))), (6, .int ((σ.1 5601) + i4)), (0, .ref 35), (3, .ref 56), (4, .int i4), (5, .int i5)], [.int (c_rank_73 (tat σ 36 4 ((σ.1 5601) + i4) (Int32.ofInt 0)) σ8)], (σ8, y))) rfl ?_
          obtain ⟨x10, e11, h⟩ := qlet_ex h
          refine qE.steps 1 hd9 (s' := (110, [(4, .int x10), (7, .int (tat σ 36 4 ((σ.1 5601) + i4) (Int32.ofInt 0))), (6, .int ((σ.1 5601) + i4)), (0, .ref 35), (3, .ref 56), (5, .int i5)], [], (σ8, y))) (by subst e11; rfl) ?_
          refine qE.steps 2 hd9 (s' := (34, [(5, .int (i5 + Int32.ofInt (-1))), (4, .int x10), (7, .int (tat σ 36 4 ((σ.1 5601) + i4) (Int32.ofInt 0))), (6, .int ((σ.1 5601) + i4)), (0, .ref 35), (3, .ref 56)], [], (σ8, y))) rfl ?_
          exact qE.wk (ih h) ⟨rfl, rfl, rfl, rfl, trivial⟩ rfl
theorem t_c_find_72_56 {S : Nat × (Nat → Int32)} {d : Nat} {y : qC × Int64 × Nat} {i1 : Int32} {i2 : Int32} {σ : qC} {p : qC} (hd : 10 ≤ d) (h : c_find_72_56 i1 i2 σ = some p) : qE S d jm_7_find_72 (0, [(0, .ref 35), (1, .int i1), (2, .int i2), (3, .ref 56)], [], (σ, y)) ((.inl none, (p, y))) := by
  have hd9 : 9 ≤ d := by omega
  unfold c_find_72_56 at h
  obtain ⟨σ1, e2, h⟩ := qlet_ex h
  refine qE.steps 3 hd9 (s' := (5, [(0, .ref 35), (1, .int i1), (2, .int i2), (3, .ref 56)], [], (σ1, y))) (by subst e2; rfl) ?_
  obtain ⟨σ3, e4, h⟩ := qlet_ex h
  refine qE.steps 3 hd9 (s' := (10, [(0, .ref 35), (1, .int i1), (2, .int i2), (3, .ref 56)], [], (σ3, y))) (by subst e4; rfl) ?_
  obtain ⟨σ5, e6, h⟩ := qlet_ex h
  refine qE.steps 3 hd9 (s' := (15, [(0, .ref 35), (1, .int i1), (2, .int i2), (3, .ref 56)], [], (σ5, y))) (by subst e6; rfl) ?_
  refine qE.steps 3 hd9 (s' := (20, [(0, .ref 35), (1, .int i1), (2, .int i2), (3, .ref 56)], [.int i1, .ref 27], (σ5, y))) rfl ?_
  refine qE.call hd9 rfl rfl rfl rfl (t_c_rank_73 (by omega) rfl) ?_
  refine qE.steps 0 hd9 (s' := (23, [(0, .ref 35), (1, .int i1), (2, .int i2), (3, .ref 56)], [.int (c_rank_73 i1 σ5)], (σ5, y))) rfl ?_
  refine qE.steps 5 hd9 (s' := (34, [(5, .int (σ5.1 3602)), (4, .int (c_rank_73 i1 σ5)), (0, .ref 35), (1, .int i1), (2, .int i2), (3, .ref 56)], [], (σ5, y))) rfl ?_
  exact qE.wk (t_c_find_72_56_l34 hd qF h) ⟨rfl, rfl, rfl, rfl, trivial⟩ rfl
def c_right_68 (i1 : Int32) (σ : qC) : Int32 := tat σ 28 9 i1 (Int32.ofInt 6)
theorem t_c_right_68 {S : Nat × (Nat → Int32)} {d : Nat} {y : qC × Int64 × Nat} {i1 : Int32} {σ : qC} {p : Int32} (hd : 9 ≤ d) (h : c_right_68 i1 σ = p) : qE S d jm_1_right_68 (0, [(0, .ref 27), (1, .int i1)], [], (σ, y)) ((.inl (some (.int p)), (σ, y))) := by
  have hd9 : 9 ≤ d := by omega
  unfold c_right_68 at h
  refine qE.steps 5 hd9 (s' := (10, [(0, .ref 27), (1, .int i1)], [.int (tat σ 28 9 i1 (Int32.ofInt 6))], (σ, y))) rfl ?_
  subst h
  exact qE.ret hd9 rfl rfl
def c_find_72_57_l34 : Nat → Int32 → Int32 → qC → Option qC
  | 0, _, _, _ => none
  | n + 1, i4, i5, σ => if i5 < 0 then some σ else if i4 = Int32.ofInt (-1) then some σ else if tat σ 36 4 ((σ.1 5701) + i4) (Int32.ofInt 0) = Int32.ofInt (-1) then qlet (upS σ 5702 ((σ.1 5701) + i4)) (fun σ4 => some σ4) else qlet (upS σ 5700 (tat σ 36 4 ((σ.1 5701) + i4) (Int32.ofInt 0))) (fun σ6 => qlet (upS σ6 5701 (tat σ6 36 4 ((σ.1 5701) + i4) (Int32.ofInt 1))) (fun σ8 => qlet (c_rank_73 (tat σ 36 4 ((σ.1 5701) + i4) (Int32.ofInt 0)) σ8) (fun x10 => (c_find_72_57_l34 n) x10 (i5 + Int32.ofInt (-1)) σ8)))
def c_find_72_57 (i1 : Int32) (i2 : Int32) (σ : qC) : Option qC := qlet (upS σ 5700 i1) (fun σ1 => qlet (upS σ1 5701 i2) (fun σ3 => qlet (upS σ3 5702 (Int32.ofInt (-1))) (fun σ5 => c_find_72_57_l34 qF (c_rank_73 i1 σ5) (σ5.1 3602) σ5)))
theorem t_c_find_72_57_l34 {S : Nat × (Nat → Int32)} {d : Nat} {y : qC × Int64 × Nat} (hd : 10 ≤ d) : ∀ (n : Nat) {i4 : Int32} {i5 : Int32} {σ : qC} {p : qC}, c_find_72_57_l34 n i4 i5 σ = some p → qE S d jm_7_find_72 (34, [(0, .ref 35), (3, .ref 57), (4, .int i4), (5, .int i5)], [], (σ, y)) ((.inl none, (p, y))) := by
  have hd9 : 9 ≤ d := by omega
  intro n
  induction n with
  | zero =>
    intros
    rename_i h
    unfold c_find_72_57_l34 at h
    cases h
  | succ n ih =>
    intro i4 i5 σ p h
    unfold c_find_72_57_l34 at h
    refine qE.steps 2 hd9 (s' := (if i5 < 0 then 116 else 39, [(0, .ref 35), (3, .ref 57), (4, .int i4), (5, .int i5)], [], (σ, y))) rfl ?_
    by_cases c1 : i5 < 0
    · rw [if_pos c1] at h
      rw [if_pos c1]
      obtain rfl := Option.some.inj h
      exact qE.ret hd9 rfl rfl
    · rw [if_neg c1] at h
      rw [if_neg c1]
      refine qE.steps 3 hd9 (s' := (if i4 = Int32.ofInt (-1) then 116 else 45, [(0, .ref 35), (3, .ref 57), (4, .int i4), (5, .int i5)], [], (σ, y))) rfl ?_
      by_cases c2 : i4 = Int32.ofInt (-1)
      · rw [if_pos c2] at h
        rw [if_pos c2]
        obtain rfl := Option.some.inj h
        exact qE.ret hd9 rfl rfl
      · rw [if_neg c2] at h
        rw [if_neg c2]
        refine qE.steps 14 hd9 (s' := (if ¬ (tat σ 36 4 ((σ.1 5701) + i4) (Int32.ofInt 0) = Int32.ofInt (-1)) then 79 else 72, [(7, .int (tat σ 36 4 ((σ.1 5701) + i4) (Int32.ofInt 0))), (6, .int ((σ.1 5701) + i4)), (0, .ref 35), (3, .ref 57), (4, .int i4), (5, .int i5)], [], (σ, y))) rfl ?_
        by_cases c3 : tat σ 36 4 ((σ.1 5701) + i4) (Int32.ofInt 0) = Int32.ofInt (-1)
        · rw [if_pos c3] at h
          rw [if_neg (not_not_intro c3)]
          obtain ⟨σ4, e5, h⟩ := qlet_ex h
          refine qE.steps 3 hd9 (s' := (78, [(7, .int (tat σ 36 4 ((σ.1 5701) + i4) (Int32.ofInt 0))), (6, .int ((σ.1 5701) + i4)), (0, .ref 35), (3, .ref 57), (4, .int i4), (5, .int i5)], [], (σ4, y))) (by subst e5; rfl) ?_
          obtain rfl := Option.some.inj h
          exact qE.ret hd9 rfl rfl
        · rw [if_neg c3] at h
          rw [if_pos c3]
          obtain ⟨σ6, e7, h⟩ := qlet_ex h
          refine qE.steps 3 hd9 (s' := (85, [(7, .int (tat σ 36 4 ((σ.1 5701) + i4) (Int32.ofInt 0))), (6, .int ((σ.1 5701) + i4)), (0, .ref 35), (3, .ref 57), (4, .int i4), (5, .int i5)], [], (σ6, y))) (by subst e7; rfl) ?_
          obtain ⟨σ8, e9, h⟩ := qlet_ex h
          refine qE.steps 7 hd9 (s' := (99, [(7, .int (tat σ 36 4 ((σ.1 5701) + i4) (Int32.ofInt 0))), (6, .int ((σ.1 5701) + i4)), (0, .ref 35), (3, .ref 57), (4, .int i4), (5, .int i5)], [], (σ8, y))) (by subst e9; rfl) ?_
          refine qE.steps 3 hd9 (s' := (105, [(7, .int (tat σ 36 4 ((σ.1 5701) + i4) (Int32.ofInt 0))), (6, .int ((σ.1 5701) + i4)), (0, .ref 35), (3, .ref 57), (4, .int i4), (5, .int i5)], [.int (tat σ 36 4 ((σ.1 5701) + i4) (Int32.ofInt 0)), .ref 27], (σ8, y))) rfl ?_
          refine qE.call hd9 rfl rfl rfl rfl (t_c_rank_73 (by omega) rfl) ?_
          refine qE.steps 0 hd9 (s' := (108, [(7, .int (tat σ 36 4 ((σ.1 5701) + i4) (Int32.ofInt 0))), (6, .int ((σ.1 5701) + i4)), (0, .ref 35), (3, .ref 57), (4, .int i4), (5, .int i5)], [.int (c_rank_73 (tat σ 36 4 ((σ.1 5701) + i4) (Int32.ofInt 0)) σ8)], (σ8, y))) rfl ?_
          obtain ⟨x10, e11, h⟩ := qlet_ex h
          refine qE.steps 1 hd9 (s' := (110, [(4, .int x10), (7, .int (tat σ 36 4 ((σ.1 5701) + i4) (Int32.ofInt 0))), (6, .int ((σ.1 5701) + i4)), (0, .ref 35), (3, .ref 57), (5, .int i5)], [], (σ8, y))) (by subst e11; rfl) ?_
          refine qE.steps 2 hd9 (s' := (34, [(5, .int (i5 + Int32.ofInt (-1))), (4, .int x10), (7, .int (tat σ 36 4 ((σ.1 5701) + i4) (Int32.ofInt 0))), (6, .int ((σ.1 5701) + i4)), (0, .ref 35), (3, .ref 57)], [], (σ8, y))) rfl ?_
          exact qE.wk (ih h) ⟨rfl, rfl, rfl, rfl, trivial⟩ rfl
theorem t_c_find_72_57 {S : Nat × (Nat → Int32)} {d : Nat} {y : qC × Int64 × Nat} {i1 : Int32} {i2 : Int32} {σ : qC} {p : qC} (hd : 10 ≤ d) (h : c_find_72_57 i1 i2 σ = some p) : qE S d jm_7_find_72 (0, [(0, .ref 35), (1, .int i1), (2, .int i2), (3, .ref 57)], [], (σ, y)) ((.inl none, (p, y))) := by
  have hd9 : 9 ≤ d := by omega
  unfold c_find_72_57 at h
  obtain ⟨σ1, e2, h⟩ := qlet_ex h
  refine qE.steps 3 hd9 (s' := (5, [(0, .ref 35), (1, .int i1), (2, .int i2), (3, .ref 57)], [], (σ1, y))) (by subst e2; rfl) ?_
  obtain ⟨σ3, e4, h⟩ := qlet_ex h
  refine qE.steps 3 hd9 (s' := (10, [(0, .ref 35), (1, .int i1), (2, .int i2), (3, .ref 57)], [], (σ3, y))) (by subst e4; rfl) ?_
  obtain ⟨σ5, e6, h⟩ := qlet_ex h
  refine qE.steps 3 hd9 (s' := (15, [(0, .ref 35), (1, .int i1), (2, .int i2), (3, .ref 57)], [], (σ5, y))) (by subst e6; rfl) ?_
  refine qE.steps 3 hd9 (s' := (20, [(0, .ref 35), (1, .int i1), (2, .int i2), (3, .ref 57)], [.int i1, .ref 27], (σ5, y))) rfl ?_
  refine qE.call hd9 rfl rfl rfl rfl (t_c_rank_73 (by omega) rfl) ?_
  refine qE.steps 0 hd9 (s' := (23, [(0, .ref 35), (1, .int i1), (2, .int i2), (3, .ref 57)], [.int (c_rank_73 i1 σ5)], (σ5, y))) rfl ?_
  refine qE.steps 5 hd9 (s' := (34, [(5, .int (σ5.1 3602)), (4, .int (c_rank_73 i1 σ5)), (0, .ref 35), (1, .int i1), (2, .int i2), (3, .ref 57)], [], (σ5, y))) rfl ?_
  exact qE.wk (t_c_find_72_57_l34 hd qF h) ⟨rfl, rfl, rfl, rfl, trivial⟩ rfl
def c_doLess_71 (i1 : Int32) (i2 : Int32) (σ : qC) : Option (Nat × qC) := (c_find_72_56 i1 i2 σ).bind (fun p1 => (c_find_72_57 (c_right_68 i1 p1) i2 p1).bind (fun p3 => if c_isDigit_36 (c_sign_48 (p3.1 5600) p3) = 0 then some (6, p3) else if c_isDigit_36 (c_sign_48 (p3.1 5700) p3) = 0 then some (6, p3) else if c_sign_48 (p3.1 5700) p3 ≤ c_sign_48 (p3.1 5600) p3 then some (7, p3) else some (1, p3)))
theorem t_c_doLess_71 {S : Nat × (Nat → Int32)} {d : Nat} {y : qC × Int64 × Nat} {i1 : Int32} {i2 : Int32} {σ : qC} {p : (Nat × qC)} (hd : 11 ≤ d) (h : c_doLess_71 i1 i2 σ = some p) : qE S d jm_6_doLess_71 (0, [(0, .ref 51), (1, .int i1), (2, .int i2)], [], (σ, y)) ((.inl (some (.ref p.1)), (p.2, y))) := by
  have hd9 : 9 ≤ d := by omega
  unfold c_doLess_71 at h
  refine qE.steps 6 hd9 (s' := (10, [(0, .ref 51), (1, .int i1), (2, .int i2)], [.ref 56, .int i2, .int i1, .ref 35], (σ, y))) rfl ?_
  obtain ⟨p1, e2, h⟩ := obind h
  refine qE.call hd9 rfl rfl rfl rfl (t_c_find_72_56 (by omega) e2) ?_
  refine qE.steps 0 hd9 (s' := (13, [(0, .ref 51), (1, .int i1), (2, .int i2)], [], (p1, y))) rfl ?_
  refine qE.steps 5 hd9 (s' := (22, [(0, .ref 51), (1, .int i1), (2, .int i2)], [.int i1, .ref 27, .ref 35], (p1, y))) rfl ?_
  refine qE.call hd9 rfl rfl rfl rfl (t_c_right_68 (by omega) rfl) ?_
  refine qE.steps 0 hd9 (s' := (25, [(0, .ref 51), (1, .int i1), (2, .int i2)], [.int (c_right_68 i1 p1), .ref 35], (p1, y))) rfl ?_
  refine qE.steps 3 hd9 (s' := (30, [(0, .ref 51), (1, .int i1), (2, .int i2)], [.ref 57, .int i2, .int (c_right_68 i1 p1), .ref 35], (p1, y))) rfl ?_
  obtain ⟨p3, e4, h⟩ := obind h
  refine qE.call hd9 rfl rfl rfl rfl (t_c_find_72_57 (by omega) e4) ?_
  refine qE.steps 0 hd9 (s' := (33, [(0, .ref 51), (1, .int i1), (2, .int i2)], [], (p3, y))) rfl ?_
  refine qE.steps 5 hd9 (s' := (44, [(0, .ref 51), (1, .int i1), (2, .int i2)], [.int (p3.1 5600), .ref 27], (p3, y))) rfl ?_
  refine qE.call hd9 rfl rfl rfl rfl (t_c_sign_48 (by omega) rfl) ?_
  refine qE.steps 0 hd9 (s' := (47, [(0, .ref 51), (1, .int i1), (2, .int i2)], [.int (c_sign_48 (p3.1 5600) p3)], (p3, y))) rfl ?_
  refine qE.steps 6 hd9 (s' := (59, [(3, .int (c_sign_48 (p3.1 5600) p3)), (0, .ref 51), (1, .int i1), (2, .int i2)], [.int (p3.1 5700), .ref 27], (p3, y))) rfl ?_
  refine qE.call hd9 rfl rfl rfl rfl (t_c_sign_48 (by omega) rfl) ?_
  refine qE.steps 0 hd9 (s' := (62, [(3, .int (c_sign_48 (p3.1 5600) p3)), (0, .ref 51), (1, .int i1), (2, .int i2)], [.int (c_sign_48 (p3.1 5700) p3)], (p3, y))) rfl ?_
  refine qE.steps 2 hd9 (s' := (65, [(4, .int (c_sign_48 (p3.1 5700) p3)), (3, .int (c_sign_48 (p3.1 5600) p3)), (0, .ref 51), (1, .int i1), (2, .int i2)], [.int (c_sign_48 (p3.1 5600) p3)], (p3, y))) rfl ?_
  refine qE.call hd9 rfl rfl rfl rfl (t_c_isDigit_36 (by omega) rfl) ?_
  refine qE.steps 0 hd9 (s' := (68, [(4, .int (c_sign_48 (p3.1 5700) p3)), (3, .int (c_sign_48 (p3.1 5600) p3)), (0, .ref 51), (1, .int i1), (2, .int i2)], [.int (c_isDigit_36 (c_sign_48 (p3.1 5600) p3))], (p3, y))) rfl ?_
  refine qE.steps 1 hd9 (s' := (if c_isDigit_36 (c_sign_48 (p3.1 5600) p3) = 0 then 79 else 71, [(4, .int (c_sign_48 (p3.1 5700) p3)), (3, .int (c_sign_48 (p3.1 5600) p3)), (0, .ref 51), (1, .int i1), (2, .int i2)], [], (p3, y))) rfl ?_
  by_cases c5 : c_isDigit_36 (c_sign_48 (p3.1 5600) p3) = 0
  · rw [if_pos c5] at h
    rw [if_pos c5]
    refine qE.steps 1 hd9 (s' := (82, [(4, .int (c_sign_48 (p3.1 5700) p3)), (3, .int (c_sign_48 (p3.1 5600) p3)), (0, .ref 51), (1, .int i1), (2, .int i2)], [.ref 6], (p3, y))) rfl ?_
    obtain rfl := Option.some.inj h
    exact qE.ret hd9 rfl rfl
  · rw [if_neg c5] at h
    rw [if_neg c5]
    refine qE.steps 1 hd9 (s' := (73, [(4, .int (c_sign_48 (p3.1 5700) p3)), (3, .int (c_sign_48 (p3.1 5600) p3)), (0, .ref 51), (1, .int i1), (2, .int i2)], [.int (c_sign_48 (p3.1 5700) p3)], (p3, y))) rfl ?_
    refine qE.call hd9 rfl rfl rfl rfl (t_c_isDigit_36 (by omega) rfl) ?_
    refine qE.steps 0 hd9 (s' := (76, [(4, .int (c_sign_48 (p3.1 5700) p3)), (3, .int (c_sign_48 (p3.1 5600) p3)), (0, .ref 51), (1, .int i1), (2, .int i2)], [.int (c_isDigit_36 (c_sign_48 (p3.1 5700) p3))], (p3, y))) rfl ?_
    refine qE.steps 1 hd9 (s' := (if ¬ (c_isDigit_36 (c_sign_48 (p3.1 5700) p3) = 0) then 83 else 79, [(4, .int (c_sign_48 (p3.1 5700) p3)), (3, .int (c_sign_48 (p3.1 5600) p3)), (0, .ref 51), (1, .int i1), (2, .int i2)], [], (p3, y))) rfl ?_
    by_cases c6 : c_isDigit_36 (c_sign_48 (p3.1 5700) p3) = 0
    · rw [if_pos c6] at h
      rw [if_neg (not_not_intro c6)]
      refine qE.steps 1 hd9 (s' := (82, [(4, .int (c_sign_48 (p3.1 5700) p3)), (3, .int (c_sign_48 (p3.1 5600) p3)), (0, .ref 51), (1, .int i1), (2, .int i2)], [.ref 6], (p3, y))) rfl ?_
      obtain rfl := Option.some.inj h
      exact qE.ret hd9 rfl rfl
    · rw [if_neg c6] at h
      rw [if_pos c6]
      refine qE.steps 3 hd9 (s' := (if c_sign_48 (p3.1 5700) p3 ≤ c_sign_48 (p3.1 5600) p3 then 95 else 89, [(4, .int (c_sign_48 (p3.1 5700) p3)), (3, .int (c_sign_48 (p3.1 5600) p3)), (0, .ref 51), (1, .int i1), (2, .int i2)], [], (p3, y))) rfl ?_
      by_cases c7 : c_sign_48 (p3.1 5700) p3 ≤ c_sign_48 (p3.1 5600) p3
      · rw [if_pos c7] at h
        rw [if_pos c7]
        refine qE.steps 1 hd9 (s' := (98, [(4, .int (c_sign_48 (p3.1 5700) p3)), (3, .int (c_sign_48 (p3.1 5600) p3)), (0, .ref 51), (1, .int i1), (2, .int i2)], [.ref 7], (p3, y))) rfl ?_
        obtain rfl := Option.some.inj h
        exact qE.ret hd9 rfl rfl
      · rw [if_neg c7] at h
        rw [if_neg c7]
        refine qE.steps 2 hd9 (s' := (98, [(4, .int (c_sign_48 (p3.1 5700) p3)), (3, .int (c_sign_48 (p3.1 5600) p3)), (0, .ref 51), (1, .int i1), (2, .int i2)], [.ref 1], (p3, y))) rfl ?_
        obtain rfl := Option.some.inj h
        exact qE.ret hd9 rfl rfl
def c_pushPair_69 (i1 : Int32) (i2 : Int32) (i3 : Int32) (i4 : Int32) (σ : qC) : Option qC := (tappO σ 45 4 i1 i2 i3 i4).bind (fun σ1 => some σ1)
theorem t_c_pushPair_69 {S : Nat × (Nat → Int32)} {d : Nat} {y : qC × Int64 × Nat} {i1 : Int32} {i2 : Int32} {i3 : Int32} {i4 : Int32} {σ : qC} {p : qC} (hd : 9 ≤ d) (h : c_pushPair_69 i1 i2 i3 i4 σ = some p) : qE S d jm_3_pushPair_69 (0, [(0, .ref 44), (1, .int i1), (2, .int i2), (3, .int i3), (4, .int i4)], [], (σ, y)) ((.inl none, (p, y))) := by
  have hd9 : 9 ≤ d := by omega
  unfold c_pushPair_69 at h
  refine qE.steps 6 hd9 (s' := (9, [(0, .ref 44), (1, .int i1), (2, .int i2), (3, .int i3), (4, .int i4)], [.int i4, .int i3, .int i2, .int i1, .ref 45], (σ, y))) rfl ?_
  obtain ⟨σ1, e2, h⟩ := obind h
  refine qE.tab hd9 (qtab_app e2 rfl) rfl rfl rfl ?_
  refine qE.steps 0 hd9 (s' := (12, [(0, .ref 44), (1, .int i1), (2, .int i2), (3, .int i3), (4, .int i4)], [.int (σ.1 4502)], (σ1, y))) rfl ?_
  refine qE.steps 1 hd9 (s' := (13, [(0, .ref 44), (1, .int i1), (2, .int i2), (3, .int i3), (4, .int i4)], [], (σ1, y))) rfl ?_
  obtain rfl := Option.some.inj h
  exact qE.ret hd9 rfl rfl
def c_putInFront_75 (i1 : Int32) (i2 : Int32) (σ : qC) : Option qC := (tappO σ 52 4 i1 i2 (Int32.ofInt 0) (σ.1 5108)).bind (fun σ1 => qlet (upS σ1 5108 (σ.1 5202)) (fun σ3 => some σ3))
theorem t_c_putInFront_75 {S : Nat × (Nat → Int32)} {d : Nat} {y : qC × Int64 × Nat} {i1 : Int32} {i2 : Int32} {σ : qC} {p : qC} (hd : 9 ≤ d) (h : c_putInFront_75 i1 i2 σ = some p) : qE S d jm_6_putInFront_75 (0, [(0, .ref 51), (1, .int i1), (2, .int i2)], [], (σ, y)) ((.inl none, (p, y))) := by
  have hd9 : 9 ≤ d := by omega
  unfold c_putInFront_75 at h
  refine qE.steps 8 hd9 (s' := (12, [(0, .ref 51), (1, .int i1), (2, .int i2)], [.int (σ.1 5108), .int (Int32.ofInt 0), .int i2, .int i1, .ref 52, .ref 51], (σ, y))) rfl ?_
  obtain ⟨σ1, e2, h⟩ := obind h
  refine qE.tab hd9 (qtab_app e2 rfl) rfl rfl rfl ?_
  refine qE.steps 0 hd9 (s' := (15, [(0, .ref 51), (1, .int i1), (2, .int i2)], [.int (σ.1 5202), .ref 51], (σ1, y))) rfl ?_
  obtain ⟨σ3, e4, h⟩ := qlet_ex h
  refine qE.steps 1 hd9 (s' := (18, [(0, .ref 51), (1, .int i1), (2, .int i2)], [], (σ3, y))) (by subst e4; rfl) ?_
  obtain rfl := Option.some.inj h
  exact qE.ret hd9 rfl rfl
def c_lastSleeper_78 (i1 : Int32) (σ : qC) : Int32 := tat σ 36 4 i1 (Int32.ofInt 3)
theorem t_c_lastSleeper_78 {S : Nat × (Nat → Int32)} {d : Nat} {y : qC × Int64 × Nat} {i1 : Int32} {σ : qC} {p : Int32} (hd : 9 ≤ d) (h : c_lastSleeper_78 i1 σ = p) : qE S d jm_7_lastSleeper_78 (0, [(0, .ref 35), (1, .int i1)], [], (σ, y)) ((.inl (some (.int p)), (σ, y))) := by
  have hd9 : 9 ≤ d := by omega
  unfold c_lastSleeper_78 at h
  refine qE.steps 5 hd9 (s' := (9, [(0, .ref 35), (1, .int i1)], [.int (tat σ 36 4 i1 (Int32.ofInt 3))], (σ, y))) rfl ?_
  subst h
  exact qE.ret hd9 rfl rfl
