/-! BY PROGRAM (wip/whole/gendc.py): each method as a function over the numbers -/
def c_join_77 (i1 : Int32) (i2 : Int32) (i3 : Int32) (σ : qC) : Option qC := if i2 = Int32.ofInt (-1) then some σ else if c_lastSleeper_78 i1 σ = Int32.ofInt (-1) then (tputO σ 36 4 i1 (Int32.ofInt 2) i2).bind (fun σ3 => (tputO σ3 36 4 i1 (Int32.ofInt 3) i3).bind (fun σ5 => (tappO σ5 42 4 (Int32.ofInt 1) i1 (c_lastSleeper_78 i1 σ) (Int32.ofInt (-1))).bind (fun σ7 => some σ7))) else (tputO σ 38 4 (c_lastSleeper_78 i1 σ) (Int32.ofInt 2) i2).bind (fun σ9 => (tputO σ9 36 4 i1 (Int32.ofInt 3) i3).bind (fun σ11 => (tappO σ11 42 4 (Int32.ofInt 1) i1 (c_lastSleeper_78 i1 σ) (Int32.ofInt (-1))).bind (fun σ13 => some σ13)))
theorem t_c_join_77 {S : Nat × (Nat → Int32)} {d : Nat} {y : qC × Int64 × Nat} {i1 : Int32} {i2 : Int32} {i3 : Int32} {σ : qC} {p : qC} (hd : 10 ≤ d) (h : c_join_77 i1 i2 i3 σ = some p) : qE S d jm_7_join_77 (0, [(0, .ref 35), (1, .int i1), (2, .int i2), (3, .int i3)], [], (σ, y)) ((.inl none, (p, y))) := by
  have hd9 : 9 ≤ d := by omega
  unfold c_join_77 at h
  refine qE.steps 3 hd9 (s' := (if ¬ (i2 = Int32.ofInt (-1)) then 6 else 5, [(0, .ref 35), (1, .int i1), (2, .int i2), (3, .int i3)], [], (σ, y))) rfl ?_
  by_cases c1 : i2 = Int32.ofInt (-1)
  · rw [if_pos c1] at h
    rw [if_neg (not_not_intro c1)]
    obtain rfl := Option.some.inj h
    exact qE.ret hd9 rfl rfl
  · rw [if_neg c1] at h
    rw [if_pos c1]
    refine qE.steps 2 hd9 (s' := (8, [(0, .ref 35), (1, .int i1), (2, .int i2), (3, .int i3)], [.int i1, .ref 35], (σ, y))) rfl ?_
    refine qE.call hd9 rfl rfl rfl rfl (t_c_lastSleeper_78 (by omega) rfl) ?_
    refine qE.steps 0 hd9 (s' := (11, [(0, .ref 35), (1, .int i1), (2, .int i2), (3, .int i3)], [.int (c_lastSleeper_78 i1 σ)], (σ, y))) rfl ?_
    refine qE.steps 4 hd9 (s' := (if ¬ (c_lastSleeper_78 i1 σ = Int32.ofInt (-1)) then 32 else 19, [(4, .int (c_lastSleeper_78 i1 σ)), (0, .ref 35), (1, .int i1), (2, .int i2), (3, .int i3)], [], (σ, y))) rfl ?_
    by_cases c2 : c_lastSleeper_78 i1 σ = Int32.ofInt (-1)
    · rw [if_pos c2] at h
      rw [if_neg (not_not_intro c2)]
      refine qE.steps 5 hd9 (s' := (26, [(4, .int (c_lastSleeper_78 i1 σ)), (0, .ref 35), (1, .int i1), (2, .int i2), (3, .int i3)], [.int i2, .int (Int32.ofInt 2), .int i1, .ref 36], (σ, y))) rfl ?_
      obtain ⟨σ3, e4, h⟩ := obind h
      refine qE.tab hd9 (qtab_put e4 rfl) rfl rfl rfl ?_
      refine qE.steps 6 hd9 (s' := (50, [(4, .int (c_lastSleeper_78 i1 σ)), (0, .ref 35), (1, .int i1), (2, .int i2), (3, .int i3)], [.int i3, .int (Int32.ofInt 3), .int i1, .ref 36], (σ3, y))) rfl ?_
      obtain ⟨σ5, e6, h⟩ := obind h
      refine qE.tab hd9 (qtab_put e6 rfl) rfl rfl rfl ?_
      refine qE.steps 6 hd9 (s' := (62, [(4, .int (c_lastSleeper_78 i1 σ)), (0, .ref 35), (1, .int i1), (2, .int i2), (3, .int i3)], [.int (Int32.ofInt (-1)), .int (c_lastSleeper_78 i1 σ), .int i1, .int (Int32.ofInt 1), .ref 42], (σ5, y))) rfl ?_
      obtain ⟨σ7, e8, h⟩ := obind h
      refine qE.tab hd9 (qtab_app e8 rfl) rfl rfl rfl ?_
      refine qE.steps 0 hd9 (s' := (65, [(4, .int (c_lastSleeper_78 i1 σ)), (0, .ref 35), (1, .int i1), (2, .int i2), (3, .int i3)], [.int (σ5.1 4202)], (σ7, y))) rfl ?_
      refine qE.steps 1 hd9 (s' := (66, [(4, .int (c_lastSleeper_78 i1 σ)), (0, .ref 35), (1, .int i1), (2, .int i2), (3, .int i3)], [], (σ7, y))) rfl ?_
      obtain rfl := Option.some.inj h
      exact qE.ret hd9 rfl rfl
    · rw [if_neg c2] at h
      rw [if_pos c2]
      refine qE.steps 5 hd9 (s' := (40, [(4, .int (c_lastSleeper_78 i1 σ)), (0, .ref 35), (1, .int i1), (2, .int i2), (3, .int i3)], [.int i2, .int (Int32.ofInt 2), .int (c_lastSleeper_78 i1 σ), .ref 38], (σ, y))) rfl ?_
      obtain ⟨σ9, e10, h⟩ := obind h
      refine qE.tab hd9 (qtab_put e10 rfl) rfl rfl rfl ?_
      refine qE.steps 5 hd9 (s' := (50, [(4, .int (c_lastSleeper_78 i1 σ)), (0, .ref 35), (1, .int i1), (2, .int i2), (3, .int i3)], [.int i3, .int (Int32.ofInt 3), .int i1, .ref 36], (σ9, y))) rfl ?_
      obtain ⟨σ11, e12, h⟩ := obind h
      refine qE.tab hd9 (qtab_put e12 rfl) rfl rfl rfl ?_
      refine qE.steps 6 hd9 (s' := (62, [(4, .int (c_lastSleeper_78 i1 σ)), (0, .ref 35), (1, .int i1), (2, .int i2), (3, .int i3)], [.int (Int32.ofInt (-1)), .int (c_lastSleeper_78 i1 σ), .int i1, .int (Int32.ofInt 1), .ref 42], (σ11, y))) rfl ?_
      obtain ⟨σ13, e14, h⟩ := obind h
      refine qE.tab hd9 (qtab_app e14 rfl) rfl rfl rfl ?_
      refine qE.steps 0 hd9 (s' := (65, [(4, .int (c_lastSleeper_78 i1 σ)), (0, .ref 35), (1, .int i1), (2, .int i2), (3, .int i3)], [.int (σ11.1 4202)], (σ13, y))) rfl ?_
      refine qE.steps 1 hd9 (s' := (66, [(4, .int (c_lastSleeper_78 i1 σ)), (0, .ref 35), (1, .int i1), (2, .int i2), (3, .int i3)], [], (σ13, y))) rfl ?_
      obtain rfl := Option.some.inj h
      exact qE.ret hd9 rfl rfl
def c_putToSleep_76 (i1 : Int32) (i2 : Int32) (i3 : Int32) (σ : qC) : Option qC := (tappO σ 38 4 i1 i2 (Int32.ofInt (-1)) (Int32.ofInt (-1))).bind (fun σ1 => (c_join_77 i3 (σ.1 3802) (σ.1 3802) σ1).bind (fun p3 => some p3))
theorem t_c_putToSleep_76 {S : Nat × (Nat → Int32)} {d : Nat} {y : qC × Int64 × Nat} {i1 : Int32} {i2 : Int32} {i3 : Int32} {σ : qC} {p : qC} (hd : 11 ≤ d) (h : c_putToSleep_76 i1 i2 i3 σ = some p) : qE S d jm_7_putToSleep_76 (0, [(0, .ref 35), (1, .int i1), (2, .int i2), (3, .int i3)], [], (σ, y)) ((.inl none, (p, y))) := by
  have hd9 : 9 ≤ d := by omega
  unfold c_putToSleep_76 at h
  refine qE.steps 6 hd9 (s' := (8, [(0, .ref 35), (1, .int i1), (2, .int i2), (3, .int i3)], [.int (Int32.ofInt (-1)), .int (Int32.ofInt (-1)), .int i2, .int i1, .ref 38], (σ, y))) rfl ?_
  obtain ⟨σ1, e2, h⟩ := obind h
  refine qE.tab hd9 (qtab_app e2 rfl) rfl rfl rfl ?_
  refine qE.steps 0 hd9 (s' := (11, [(0, .ref 35), (1, .int i1), (2, .int i2), (3, .int i3)], [.int (σ.1 3802)], (σ1, y))) rfl ?_
  refine qE.steps 5 hd9 (s' := (19, [(4, .int (σ.1 3802)), (0, .ref 35), (1, .int i1), (2, .int i2), (3, .int i3)], [.int (σ.1 3802), .int (σ.1 3802), .int i3, .ref 35], (σ1, y))) rfl ?_
  obtain ⟨p3, e4, h⟩ := obind h
  refine qE.call hd9 rfl rfl rfl rfl (t_c_join_77 (by omega) e4) ?_
  refine qE.steps 0 hd9 (s' := (22, [(4, .int (σ.1 3802)), (0, .ref 35), (1, .int i1), (2, .int i2), (3, .int i3)], [], (p3, y))) rfl ?_
  obtain rfl := Option.some.inj h
  exact qE.ret hd9 rfl rfl
def c_doSleep_74 (i1 : Int32) (i2 : Int32) (σ : qC) : Option (Nat × qC) := (c_find_72_56 i1 i2 σ).bind (fun p1 => if p1.1 5602 = Int32.ofInt (-1) then (c_putInFront_75 (c_right_68 i1 p1) i2 p1).bind (fun p4 => some (1, p4)) else (c_putToSleep_76 (c_right_68 i1 p1) i2 (p1.1 5602) p1).bind (fun p6 => some (1, p6)))
theorem t_c_doSleep_74 {S : Nat × (Nat → Int32)} {d : Nat} {y : qC × Int64 × Nat} {i1 : Int32} {i2 : Int32} {σ : qC} {p : (Nat × qC)} (hd : 12 ≤ d) (h : c_doSleep_74 i1 i2 σ = some p) : qE S d jm_6_doSleep_74 (0, [(0, .ref 51), (1, .int i1), (2, .int i2)], [], (σ, y)) ((.inl (some (.ref p.1)), (p.2, y))) := by
  have hd9 : 9 ≤ d := by omega
  unfold c_doSleep_74 at h
  refine qE.steps 6 hd9 (s' := (10, [(0, .ref 51), (1, .int i1), (2, .int i2)], [.ref 56, .int i2, .int i1, .ref 35], (σ, y))) rfl ?_
  obtain ⟨p1, e2, h⟩ := obind h
  refine qE.call hd9 rfl rfl rfl rfl (t_c_find_72_56 (by omega) e2) ?_
  refine qE.steps 0 hd9 (s' := (13, [(0, .ref 51), (1, .int i1), (2, .int i2)], [], (p1, y))) rfl ?_
  refine qE.steps 5 hd9 (s' := (if ¬ (p1.1 5602 = Int32.ofInt (-1)) then 40 else 24, [(0, .ref 51), (1, .int i1), (2, .int i2)], [], (p1, y))) rfl ?_
  by_cases c3 : p1.1 5602 = Int32.ofInt (-1)
  · rw [if_pos c3] at h
    rw [if_neg (not_not_intro c3)]
    refine qE.steps 4 hd9 (s' := (30, [(0, .ref 51), (1, .int i1), (2, .int i2)], [.int i1, .ref 27, .ref 51], (p1, y))) rfl ?_
    refine qE.call hd9 rfl rfl rfl rfl (t_c_right_68 (by omega) rfl) ?_
    refine qE.steps 0 hd9 (s' := (33, [(0, .ref 51), (1, .int i1), (2, .int i2)], [.int (c_right_68 i1 p1), .ref 51], (p1, y))) rfl ?_
    refine qE.steps 1 hd9 (s' := (34, [(0, .ref 51), (1, .int i1), (2, .int i2)], [.int i2, .int (c_right_68 i1 p1), .ref 51], (p1, y))) rfl ?_
    obtain ⟨p4, e5, h⟩ := obind h
    refine qE.call hd9 rfl rfl rfl rfl (t_c_putInFront_75 (by omega) e5) ?_
    refine qE.steps 0 hd9 (s' := (37, [(0, .ref 51), (1, .int i1), (2, .int i2)], [], (p4, y))) rfl ?_
    refine qE.steps 2 hd9 (s' := (66, [(0, .ref 51), (1, .int i1), (2, .int i2)], [.ref 1], (p4, y))) rfl ?_
    obtain rfl := Option.some.inj h
    exact qE.ret hd9 rfl rfl
  · rw [if_neg c3] at h
    rw [if_pos c3]
    refine qE.steps 5 hd9 (s' := (49, [(0, .ref 51), (1, .int i1), (2, .int i2)], [.int i1, .ref 27, .ref 35], (p1, y))) rfl ?_
    refine qE.call hd9 rfl rfl rfl rfl (t_c_right_68 (by omega) rfl) ?_
    refine qE.steps 0 hd9 (s' := (52, [(0, .ref 51), (1, .int i1), (2, .int i2)], [.int (c_right_68 i1 p1), .ref 35], (p1, y))) rfl ?_
    refine qE.steps 4 hd9 (s' := (60, [(0, .ref 51), (1, .int i1), (2, .int i2)], [.int (p1.1 5602), .int i2, .int (c_right_68 i1 p1), .ref 35], (p1, y))) rfl ?_
    obtain ⟨p6, e7, h⟩ := obind h
    refine qE.call hd9 rfl rfl rfl rfl (t_c_putToSleep_76 (by omega) e7) ?_
    refine qE.steps 0 hd9 (s' := (63, [(0, .ref 51), (1, .int i1), (2, .int i2)], [], (p6, y))) rfl ?_
    refine qE.steps 1 hd9 (s' := (66, [(0, .ref 51), (1, .int i1), (2, .int i2)], [.ref 1], (p6, y))) rfl ?_
    obtain rfl := Option.some.inj h
    exact qE.ret hd9 rfl rfl
def c_letWait_70 (i1 : Int32) (i2 : Int32) (σ : qC) : Option qC := (tappO σ 40 4 i1 i2 (Int32.ofInt 1) (Int32.ofInt (-1))).bind (fun σ1 => some σ1)
theorem t_c_letWait_70 {S : Nat × (Nat → Int32)} {d : Nat} {y : qC × Int64 × Nat} {i1 : Int32} {i2 : Int32} {σ : qC} {p : qC} (hd : 9 ≤ d) (h : c_letWait_70 i1 i2 σ = some p) : qE S d jm_7_letWait_70 (0, [(0, .ref 35), (1, .int i1), (2, .int i2)], [], (σ, y)) ((.inl none, (p, y))) := by
  have hd9 : 9 ≤ d := by omega
  unfold c_letWait_70 at h
  refine qE.steps 6 hd9 (s' := (8, [(0, .ref 35), (1, .int i1), (2, .int i2)], [.int (Int32.ofInt (-1)), .int (Int32.ofInt 1), .int i2, .int i1, .ref 40], (σ, y))) rfl ?_
  obtain ⟨σ1, e2, h⟩ := obind h
  refine qE.tab hd9 (qtab_app e2 rfl) rfl rfl rfl ?_
  refine qE.steps 0 hd9 (s' := (11, [(0, .ref 35), (1, .int i1), (2, .int i2)], [.int (σ.1 4002)], (σ1, y))) rfl ?_
  refine qE.steps 1 hd9 (s' := (12, [(0, .ref 35), (1, .int i1), (2, .int i2)], [], (σ1, y))) rfl ?_
  obtain rfl := Option.some.inj h
  exact qE.ret hd9 rfl rfl
def c_min_182 (i0 : Int32) (i1 : Int32) : Int32 := if i1 < i0 then i1 else i0
theorem t_c_min_182 {S : Nat × (Nat → Int32)} {d : Nat} {y : qG} {i0 : Int32} {i1 : Int32} {p : Int32} (hd : 9 ≤ d) (h : c_min_182 i0 i1 = p) : qE S d jm_14_min_182 (0, [(0, .int i0), (1, .int i1)], [], y) ((.inl (some (.int p)), y)) := by
  have hd9 : 9 ≤ d := by omega
  unfold c_min_182 at h
  refine qE.steps 3 hd9 (s' := (if i1 < i0 then 9 else 5, [(0, .int i0), (1, .int i1)], [], y)) rfl ?_
  by_cases c1 : i1 < i0
  · rw [if_pos c1] at h
    rw [if_pos c1]
    refine qE.steps 1 hd9 (s' := (10, [(0, .int i0), (1, .int i1)], [.int i1], y)) rfl ?_
    subst h
    exact qE.ret hd9 rfl rfl
  · rw [if_neg c1] at h
    rw [if_neg c1]
    refine qE.steps 2 hd9 (s' := (10, [(0, .int i0), (1, .int i1)], [.int i0], y)) rfl ?_
    subst h
    exact qE.ret hd9 rfl rfl
def c_arity_82 (i1 : Int32) (σ : qC) : Int32 := c_min_182 (tat σ 28 9 i1 (Int32.ofInt 1)) (Int32.ofInt 3)
theorem t_c_arity_82 {S : Nat × (Nat → Int32)} {d : Nat} {y : qC × Int64 × Nat} {i1 : Int32} {σ : qC} {p : Int32} (hd : 10 ≤ d) (h : c_arity_82 i1 σ = p) : qE S d jm_1_arity_82 (0, [(0, .ref 27), (1, .int i1)], [], (σ, y)) ((.inl (some (.int p)), (σ, y))) := by
  have hd9 : 9 ≤ d := by omega
  unfold c_arity_82 at h
  refine qE.steps 6 hd9 (s' := (10, [(0, .ref 27), (1, .int i1)], [.int (Int32.ofInt 3), .int (tat σ 28 9 i1 (Int32.ofInt 1))], (σ, y))) rfl ?_
  refine qE.call hd9 rfl rfl rfl rfl (t_c_min_182 (by omega) rfl) ?_
  refine qE.steps 0 hd9 (s' := (13, [(0, .ref 27), (1, .int i1)], [.int (c_min_182 (tat σ 28 9 i1 (Int32.ofInt 1)) (Int32.ofInt 3))], (σ, y))) rfl ?_
  subst h
  exact qE.ret hd9 rfl rfl
def c_alike_81 (i1 : Int32) (i2 : Int32) (σ : qC) : Int32 := if c_sign_48 i1 σ = c_sign_48 i2 σ then if c_arity_82 i1 σ = c_arity_82 i2 σ then Int32.ofInt 1 else Int32.ofInt 0 else Int32.ofInt 0
theorem t_c_alike_81 {S : Nat × (Nat → Int32)} {d : Nat} {y : qC × Int64 × Nat} {i1 : Int32} {i2 : Int32} {σ : qC} {p : Int32} (hd : 11 ≤ d) (h : c_alike_81 i1 i2 σ = p) : qE S d jm_1_alike_81 (0, [(0, .ref 27), (1, .int i1), (2, .int i2)], [], (σ, y)) ((.inl (some (.int p)), (σ, y))) := by
  have hd9 : 9 ≤ d := by omega
  unfold c_alike_81 at h
  refine qE.steps 2 hd9 (s' := (2, [(0, .ref 27), (1, .int i1), (2, .int i2)], [.int i1, .ref 27], (σ, y))) rfl ?_
  refine qE.call hd9 rfl rfl rfl rfl (t_c_sign_48 (by omega) rfl) ?_
  refine qE.steps 0 hd9 (s' := (5, [(0, .ref 27), (1, .int i1), (2, .int i2)], [.int (c_sign_48 i1 σ)], (σ, y))) rfl ?_
  refine qE.steps 2 hd9 (s' := (7, [(0, .ref 27), (1, .int i1), (2, .int i2)], [.int i2, .ref 27, .int (c_sign_48 i1 σ)], (σ, y))) rfl ?_
  refine qE.call hd9 rfl rfl rfl rfl (t_c_sign_48 (by omega) rfl) ?_
  refine qE.steps 0 hd9 (s' := (10, [(0, .ref 27), (1, .int i1), (2, .int i2)], [.int (c_sign_48 i2 σ), .int (c_sign_48 i1 σ)], (σ, y))) rfl ?_
  refine qE.steps 1 hd9 (s' := (if ¬ (c_sign_48 i1 σ = c_sign_48 i2 σ) then 30 else 13, [(0, .ref 27), (1, .int i1), (2, .int i2)], [], (σ, y))) rfl ?_
  by_cases c1 : c_sign_48 i1 σ = c_sign_48 i2 σ
  · rw [if_pos c1] at h
    rw [if_neg (not_not_intro c1)]
    refine qE.steps 2 hd9 (s' := (15, [(0, .ref 27), (1, .int i1), (2, .int i2)], [.int i1, .ref 27], (σ, y))) rfl ?_
    refine qE.call hd9 rfl rfl rfl rfl (t_c_arity_82 (by omega) rfl) ?_
    refine qE.steps 0 hd9 (s' := (18, [(0, .ref 27), (1, .int i1), (2, .int i2)], [.int (c_arity_82 i1 σ)], (σ, y))) rfl ?_
    refine qE.steps 2 hd9 (s' := (20, [(0, .ref 27), (1, .int i1), (2, .int i2)], [.int i2, .ref 27, .int (c_arity_82 i1 σ)], (σ, y))) rfl ?_
    refine qE.call hd9 rfl rfl rfl rfl (t_c_arity_82 (by omega) rfl) ?_
    refine qE.steps 0 hd9 (s' := (23, [(0, .ref 27), (1, .int i1), (2, .int i2)], [.int (c_arity_82 i2 σ), .int (c_arity_82 i1 σ)], (σ, y))) rfl ?_
    refine qE.steps 1 hd9 (s' := (if ¬ (c_arity_82 i1 σ = c_arity_82 i2 σ) then 30 else 26, [(0, .ref 27), (1, .int i1), (2, .int i2)], [], (σ, y))) rfl ?_
    by_cases c2 : c_arity_82 i1 σ = c_arity_82 i2 σ
    · rw [if_pos c2] at h
      rw [if_neg (not_not_intro c2)]
      refine qE.steps 2 hd9 (s' := (31, [(0, .ref 27), (1, .int i1), (2, .int i2)], [.int (Int32.ofInt 1)], (σ, y))) rfl ?_
      subst h
      exact qE.ret hd9 rfl rfl
    · rw [if_neg c2] at h
      rw [if_pos c2]
      refine qE.steps 1 hd9 (s' := (31, [(0, .ref 27), (1, .int i1), (2, .int i2)], [.int (Int32.ofInt 0)], (σ, y))) rfl ?_
      subst h
      exact qE.ret hd9 rfl rfl
  · rw [if_neg c1] at h
    rw [if_pos c1]
    refine qE.steps 1 hd9 (s' := (31, [(0, .ref 27), (1, .int i1), (2, .int i2)], [.int (Int32.ofInt 0)], (σ, y))) rfl ?_
    subst h
    exact qE.ret hd9 rfl rfl
def c_max_181 (i0 : Int32) (i1 : Int32) : Int32 := if i0 < i1 then i1 else i0
theorem t_c_max_181 {S : Nat × (Nat → Int32)} {d : Nat} {y : qG} {i0 : Int32} {i1 : Int32} {p : Int32} (hd : 9 ≤ d) (h : c_max_181 i0 i1 = p) : qE S d jm_14_max_181 (0, [(0, .int i0), (1, .int i1)], [], y) ((.inl (some (.int p)), y)) := by
  have hd9 : 9 ≤ d := by omega
  unfold c_max_181 at h
  refine qE.steps 3 hd9 (s' := (if i0 < i1 then 9 else 5, [(0, .int i0), (1, .int i1)], [], y)) rfl ?_
  by_cases c1 : i0 < i1
  · rw [if_pos c1] at h
    rw [if_pos c1]
    refine qE.steps 1 hd9 (s' := (10, [(0, .int i0), (1, .int i1)], [.int i1], y)) rfl ?_
    subst h
    exact qE.ret hd9 rfl rfl
  · rw [if_neg c1] at h
    rw [if_neg c1]
    refine qE.steps 2 hd9 (s' := (10, [(0, .int i0), (1, .int i1)], [.int i0], y)) rfl ?_
    subst h
    exact qE.ret hd9 rfl rfl
def c_find_80_l6 : Nat → Int32 → Int32 → qC → Option Int32
  | 0, _, _, _ => none
  | n + 1, i2, i3, σ => if σ.1 3302 ≤ i3 then some (Int32.ofInt (-1)) else if c_alike_81 (c_firstNode_31 (c_page_26 i3 σ)) i2 σ = 0 then (c_find_80_l6 n) i2 (i3 + Int32.ofInt 1) σ else some i3
def c_find_80 (i1 : Int32) (i2 : Int32) (σ : qC) : Option Int32 := c_find_80_l6 qF i2 (c_max_181 i1 (Int32.ofInt 0)) σ
theorem t_c_find_80_l6 {S : Nat × (Nat → Int32)} {d : Nat} {y : qC × Int64 × Nat} (hd : 12 ≤ d) : ∀ (n : Nat) {i2 : Int32} {i3 : Int32} {σ : qC} {p : Int32}, c_find_80_l6 n i2 i3 σ = some p → qE S d jm_2_find_80 (6, [(0, .ref 33), (2, .int i2), (3, .int i3)], [], (σ, y)) ((.inl (some (.int p)), (σ, y))) := by
  have hd9 : 9 ≤ d := by omega
  intro n
  induction n with
  | zero =>
    intros
    rename_i h
    unfold c_find_80_l6 at h
    cases h
  | succ n ih =>
    intro i2 i3 σ p h
    unfold c_find_80_l6 at h
    refine qE.steps 4 hd9 (s' := (if σ.1 3302 ≤ i3 then 41 else 14, [(0, .ref 33), (2, .int i2), (3, .int i3)], [], (σ, y))) rfl ?_
    by_cases c1 : σ.1 3302 ≤ i3
    · rw [if_pos c1] at h
      rw [if_pos c1]
      refine qE.steps 1 hd9 (s' := (42, [(0, .ref 33), (2, .int i2), (3, .int i3)], [.int (Int32.ofInt (-1))], (σ, y))) rfl ?_
      obtain rfl := Option.some.inj h
      exact qE.ret hd9 rfl rfl
    · rw [if_neg c1] at h
      rw [if_neg c1]
      refine qE.steps 4 hd9 (s' := (20, [(0, .ref 33), (2, .int i2), (3, .int i3)], [.int i3, .ref 33, .ref 27], (σ, y))) rfl ?_
      refine qE.call hd9 rfl rfl rfl rfl (t_c_page_26 (by omega) rfl) ?_
      refine qE.steps 0 hd9 (s' := (23, [(0, .ref 33), (2, .int i2), (3, .int i3)], [.int (c_page_26 i3 σ), .ref 27], (σ, y))) rfl ?_
      refine qE.call hd9 rfl rfl rfl rfl (t_c_firstNode_31 (by omega) rfl) ?_
      refine qE.steps 0 hd9 (s' := (26, [(0, .ref 33), (2, .int i2), (3, .int i3)], [.int (c_firstNode_31 (c_page_26 i3 σ)), .ref 27], (σ, y))) rfl ?_
      refine qE.steps 1 hd9 (s' := (27, [(0, .ref 33), (2, .int i2), (3, .int i3)], [.int i2, .int (c_firstNode_31 (c_page_26 i3 σ)), .ref 27], (σ, y))) rfl ?_
      refine qE.call hd9 rfl rfl rfl rfl (t_c_alike_81 (by omega) rfl) ?_
      refine qE.steps 0 hd9 (s' := (30, [(0, .ref 33), (2, .int i2), (3, .int i3)], [.int (c_alike_81 (c_firstNode_31 (c_page_26 i3 σ)) i2 σ)], (σ, y))) rfl ?_
      refine qE.steps 1 hd9 (s' := (if c_alike_81 (c_firstNode_31 (c_page_26 i3 σ)) i2 σ = 0 then 35 else 33, [(0, .ref 33), (2, .int i2), (3, .int i3)], [], (σ, y))) rfl ?_
      by_cases c2 : c_alike_81 (c_firstNode_31 (c_page_26 i3 σ)) i2 σ = 0
      · rw [if_pos c2] at h
        rw [if_pos c2]
        refine qE.steps 2 hd9 (s' := (6, [(3, .int (i3 + Int32.ofInt 1)), (0, .ref 33), (2, .int i2)], [], (σ, y))) rfl ?_
        exact qE.wk (ih h) ⟨rfl, rfl, rfl, trivial⟩ rfl
      · rw [if_neg c2] at h
        rw [if_neg c2]
        refine qE.steps 1 hd9 (s' := (34, [(0, .ref 33), (2, .int i2), (3, .int i3)], [.int i3], (σ, y))) rfl ?_
        obtain rfl := Option.some.inj h
        exact qE.ret hd9 rfl rfl
theorem t_c_find_80 {S : Nat × (Nat → Int32)} {d : Nat} {y : qC × Int64 × Nat} {i1 : Int32} {i2 : Int32} {σ : qC} {p : Int32} (hd : 12 ≤ d) (h : c_find_80 i1 i2 σ = some p) : qE S d jm_2_find_80 (0, [(0, .ref 33), (1, .int i1), (2, .int i2)], [], (σ, y)) ((.inl (some (.int p)), (σ, y))) := by
  have hd9 : 9 ≤ d := by omega
  unfold c_find_80 at h
  refine qE.steps 2 hd9 (s' := (2, [(0, .ref 33), (1, .int i1), (2, .int i2)], [.int (Int32.ofInt 0), .int i1], (σ, y))) rfl ?_
  refine qE.call hd9 rfl rfl rfl rfl (t_c_max_181 (by omega) rfl) ?_
  refine qE.steps 0 hd9 (s' := (5, [(0, .ref 33), (1, .int i1), (2, .int i2)], [.int (c_max_181 i1 (Int32.ofInt 0))], (σ, y))) rfl ?_
  refine qE.steps 1 hd9 (s' := (6, [(3, .int (c_max_181 i1 (Int32.ofInt 0))), (0, .ref 33), (1, .int i1), (2, .int i2)], [], (σ, y))) rfl ?_
  exact qE.wk (t_c_find_80_l6 hd qF h) ⟨rfl, rfl, rfl, trivial⟩ rfl
def c_argument_90 (i1 : Int32) (i2 : Int32) (σ : qC) : Int32 := tat σ 28 9 i1 ((Int32.ofInt 2) + i2)
theorem t_c_argument_90 {S : Nat × (Nat → Int32)} {d : Nat} {y : qC × Int64 × Nat} {i1 : Int32} {i2 : Int32} {σ : qC} {p : Int32} (hd : 9 ≤ d) (h : c_argument_90 i1 i2 σ = p) : qE S d jm_1_argument_90 (0, [(0, .ref 27), (1, .int i1), (2, .int i2)], [], (σ, y)) ((.inl (some (.int p)), (σ, y))) := by
  have hd9 : 9 ≤ d := by omega
  unfold c_argument_90 at h
  refine qE.steps 7 hd9 (s' := (11, [(0, .ref 27), (1, .int i1), (2, .int i2)], [.int (tat σ 28 9 i1 ((Int32.ofInt 2) + i2))], (σ, y))) rfl ?_
  subst h
  exact qE.ret hd9 rfl rfl
def c_pushArguments_89_l12 : Nat → Int32 → Int32 → Int32 → Int32 → Int32 → qC → Option qC
  | 0, _, _, _, _, _, _ => none
  | n + 1, i1, i2, i3, i4, i5, σ => if i5 < 0 then some σ else (tappO σ 45 4 (c_argument_90 i1 i5 σ) i2 (c_argument_90 i3 i5 σ) i4).bind (fun σ2 => (c_pushArguments_89_l12 n) i1 i2 i3 i4 (i5 + Int32.ofInt (-1)) σ2)
def c_pushArguments_89 (i1 : Int32) (i2 : Int32) (i3 : Int32) (i4 : Int32) (σ : qC) : Option qC := c_pushArguments_89_l12 qF i1 i2 i3 i4 ((c_arity_82 i1 σ) - (Int32.ofInt 1)) σ
theorem t_c_pushArguments_89_l12 {S : Nat × (Nat → Int32)} {d : Nat} {y : qC × Int64 × Nat} (hd : 11 ≤ d) : ∀ (n : Nat) {i1 : Int32} {i2 : Int32} {i3 : Int32} {i4 : Int32} {i5 : Int32} {σ : qC} {p : qC}, c_pushArguments_89_l12 n i1 i2 i3 i4 i5 σ = some p → qE S d jm_3_pushArguments_89 (12, [(0, .ref 44), (1, .int i1), (2, .int i2), (3, .int i3), (4, .int i4), (5, .int i5)], [], (σ, y)) ((.inl none, (p, y))) := by
  have hd9 : 9 ≤ d := by omega
  intro n
  induction n with
  | zero =>
    intros
    rename_i h
    unfold c_pushArguments_89_l12 at h
    cases h
  | succ n ih =>
    intro i1 i2 i3 i4 i5 σ p h
    unfold c_pushArguments_89_l12 at h
    refine qE.steps 2 hd9 (s' := (if i5 < 0 then 54 else 17, [(0, .ref 44), (1, .int i1), (2, .int i2), (3, .int i3), (4, .int i4), (5, .int i5)], [], (σ, y))) rfl ?_
    by_cases c1 : i5 < 0
    · rw [if_pos c1] at h
      rw [if_pos c1]
      obtain rfl := Option.some.inj h
      exact qE.ret hd9 rfl rfl
    · rw [if_neg c1] at h
      rw [if_neg c1]
      refine qE.steps 6 hd9 (s' := (28, [(0, .ref 44), (1, .int i1), (2, .int i2), (3, .int i3), (4, .int i4), (5, .int i5)], [.int i5, .int i1, .ref 27, .ref 45], (σ, y))) rfl ?_
      refine qE.call hd9 rfl rfl rfl rfl (t_c_argument_90 (by omega) rfl) ?_
      refine qE.steps 0 hd9 (s' := (31, [(0, .ref 44), (1, .int i1), (2, .int i2), (3, .int i3), (4, .int i4), (5, .int i5)], [.int (c_argument_90 i1 i5 σ), .ref 45], (σ, y))) rfl ?_
      refine qE.steps 5 hd9 (s' := (39, [(0, .ref 44), (1, .int i1), (2, .int i2), (3, .int i3), (4, .int i4), (5, .int i5)], [.int i5, .int i3, .ref 27, .int i2, .int (c_argument_90 i1 i5 σ), .ref 45], (σ, y))) rfl ?_
      refine qE.call hd9 rfl rfl rfl rfl (t_c_argument_90 (by omega) rfl) ?_
      refine qE.steps 0 hd9 (s' := (42, [(0, .ref 44), (1, .int i1), (2, .int i2), (3, .int i3), (4, .int i4), (5, .int i5)], [.int (c_argument_90 i3 i5 σ), .int i2, .int (c_argument_90 i1 i5 σ), .ref 45], (σ, y))) rfl ?_
      refine qE.steps 1 hd9 (s' := (44, [(0, .ref 44), (1, .int i1), (2, .int i2), (3, .int i3), (4, .int i4), (5, .int i5)], [.int i4, .int (c_argument_90 i3 i5 σ), .int i2, .int (c_argument_90 i1 i5 σ), .ref 45], (σ, y))) rfl ?_
      obtain ⟨σ2, e3, h⟩ := obind h
      refine qE.tab hd9 (qtab_app e3 rfl) rfl rfl rfl ?_
      refine qE.steps 0 hd9 (s' := (47, [(0, .ref 44), (1, .int i1), (2, .int i2), (3, .int i3), (4, .int i4), (5, .int i5)], [.int (σ.1 4502)], (σ2, y))) rfl ?_
      refine qE.steps 3 hd9 (s' := (12, [(5, .int (i5 + Int32.ofInt (-1))), (0, .ref 44), (1, .int i1), (2, .int i2), (3, .int i3), (4, .int i4)], [], (σ2, y))) rfl ?_
      exact qE.wk (ih h) ⟨rfl, rfl, rfl, rfl, rfl, rfl, trivial⟩ rfl
theorem t_c_pushArguments_89 {S : Nat × (Nat → Int32)} {d : Nat} {y : qC × Int64 × Nat} {i1 : Int32} {i2 : Int32} {i3 : Int32} {i4 : Int32} {σ : qC} {p : qC} (hd : 11 ≤ d) (h : c_pushArguments_89 i1 i2 i3 i4 σ = some p) : qE S d jm_3_pushArguments_89 (0, [(0, .ref 44), (1, .int i1), (2, .int i2), (3, .int i3), (4, .int i4)], [], (σ, y)) ((.inl none, (p, y))) := by
  have hd9 : 9 ≤ d := by omega
  unfold c_pushArguments_89 at h
  refine qE.steps 3 hd9 (s' := (5, [(0, .ref 44), (1, .int i1), (2, .int i2), (3, .int i3), (4, .int i4)], [.int i1, .ref 27], (σ, y))) rfl ?_
  refine qE.call hd9 rfl rfl rfl rfl (t_c_arity_82 (by omega) rfl) ?_
  refine qE.steps 0 hd9 (s' := (8, [(0, .ref 44), (1, .int i1), (2, .int i2), (3, .int i3), (4, .int i4)], [.int (c_arity_82 i1 σ)], (σ, y))) rfl ?_
  refine qE.steps 3 hd9 (s' := (12, [(5, .int ((c_arity_82 i1 σ) - (Int32.ofInt 1))), (0, .ref 44), (1, .int i1), (2, .int i2), (3, .int i3), (4, .int i4)], [], (σ, y))) rfl ?_
  exact qE.wk (t_c_pushArguments_89_l12 hd qF h) ⟨rfl, rfl, rfl, rfl, rfl, rfl, trivial⟩ rfl
def c_take_88 (i1 : Int32) (i2 : Int32) (i3 : Int32) (i4 : Int32) (σ : qC) : Option qC := (c_makeVariables_59 (c_page_26 i1 σ) σ).bind (fun p1 => if c_firstGoal_62 (c_page_26 i1 σ) p1.2 = Int32.ofInt (-1) then (c_pushArguments_89 (c_firstNode_31 (c_page_26 i1 σ)) p1.1 i2 i3 p1.2).bind (fun p4 => some p4) else (tappO p1.2 52 4 (c_firstGoal_62 (c_page_26 i1 σ) p1.2) p1.1 i4 (p1.2.1 5108)).bind (fun σ6 => qlet (upS σ6 5108 (p1.2.1 5202)) (fun σ8 => (c_pushArguments_89 (c_firstNode_31 (c_page_26 i1 σ)) p1.1 i2 i3 σ8).bind (fun p10 => some p10))))
theorem t_c_take_88 {S : Nat × (Nat → Int32)} {d : Nat} {y : qC × Int64 × Nat} {i1 : Int32} {i2 : Int32} {i3 : Int32} {i4 : Int32} {σ : qC} {p : qC} (hd : 12 ≤ d) (h : c_take_88 i1 i2 i3 i4 σ = some p) : qE S d jm_6_take_88 (0, [(0, .ref 51), (1, .int i1), (2, .int i2), (3, .int i3), (4, .int i4)], [], (σ, y)) ((.inl none, (p, y))) := by
  have hd9 : 9 ≤ d := by omega
  unfold c_take_88 at h
  refine qE.steps 3 hd9 (s' := (5, [(0, .ref 51), (1, .int i1), (2, .int i2), (3, .int i3), (4, .int i4)], [.int i1, .ref 33], (σ, y))) rfl ?_
  refine qE.call hd9 rfl rfl rfl rfl (t_c_page_26 (by omega) rfl) ?_
  refine qE.steps 0 hd9 (s' := (8, [(0, .ref 51), (1, .int i1), (2, .int i2), (3, .int i3), (4, .int i4)], [.int (c_page_26 i1 σ)], (σ, y))) rfl ?_
  refine qE.steps 4 hd9 (s' := (16, [(5, .int (c_page_26 i1 σ)), (0, .ref 51), (1, .int i1), (2, .int i2), (3, .int i3), (4, .int i4)], [.int (c_page_26 i1 σ), .ref 35], (σ, y))) rfl ?_
  obtain ⟨p1, e2, h⟩ := obind h
  refine qE.call hd9 rfl rfl rfl rfl (t_c_makeVariables_59 (by omega) e2) ?_
  refine qE.steps 0 hd9 (s' := (19, [(5, .int (c_page_26 i1 σ)), (0, .ref 51), (1, .int i1), (2, .int i2), (3, .int i3), (4, .int i4)], [.int p1.1], (p1.2, y))) rfl ?_
  refine qE.steps 4 hd9 (s' := (27, [(6, .int p1.1), (5, .int (c_page_26 i1 σ)), (0, .ref 51), (1, .int i1), (2, .int i2), (3, .int i3), (4, .int i4)], [.int (c_page_26 i1 σ), .ref 27], (p1.2, y))) rfl ?_
  refine qE.call hd9 rfl rfl rfl rfl (t_c_firstGoal_62 (by omega) rfl) ?_
  refine qE.steps 0 hd9 (s' := (30, [(6, .int p1.1), (5, .int (c_page_26 i1 σ)), (0, .ref 51), (1, .int i1), (2, .int i2), (3, .int i3), (4, .int i4)], [.int (c_firstGoal_62 (c_page_26 i1 σ) p1.2)], (p1.2, y))) rfl ?_
  refine qE.steps 4 hd9 (s' := (if c_firstGoal_62 (c_page_26 i1 σ) p1.2 = Int32.ofInt (-1) then 59 else 38, [(7, .int (c_firstGoal_62 (c_page_26 i1 σ) p1.2)), (6, .int p1.1), (5, .int (c_page_26 i1 σ)), (0, .ref 51), (1, .int i1), (2, .int i2), (3, .int i3), (4, .int i4)], [], (p1.2, y))) rfl ?_
  by_cases c3 : c_firstGoal_62 (c_page_26 i1 σ) p1.2 = Int32.ofInt (-1)
  · rw [if_pos c3] at h
    rw [if_pos c3]
    refine qE.steps 3 hd9 (s' := (65, [(7, .int (c_firstGoal_62 (c_page_26 i1 σ) p1.2)), (6, .int p1.1), (5, .int (c_page_26 i1 σ)), (0, .ref 51), (1, .int i1), (2, .int i2), (3, .int i3), (4, .int i4)], [.int (c_page_26 i1 σ), .ref 44], (p1.2, y))) rfl ?_
    refine qE.call hd9 rfl rfl rfl rfl (t_c_firstNode_31 (by omega) rfl) ?_
    refine qE.steps 0 hd9 (s' := (68, [(7, .int (c_firstGoal_62 (c_page_26 i1 σ) p1.2)), (6, .int p1.1), (5, .int (c_page_26 i1 σ)), (0, .ref 51), (1, .int i1), (2, .int i2), (3, .int i3), (4, .int i4)], [.int (c_firstNode_31 (c_page_26 i1 σ)), .ref 44], (p1.2, y))) rfl ?_
    refine qE.steps 3 hd9 (s' := (72, [(7, .int (c_firstGoal_62 (c_page_26 i1 σ) p1.2)), (6, .int p1.1), (5, .int (c_page_26 i1 σ)), (0, .ref 51), (1, .int i1), (2, .int i2), (3, .int i3), (4, .int i4)], [.int i3, .int i2, .int p1.1, .int (c_firstNode_31 (c_page_26 i1 σ)), .ref 44], (p1.2, y))) rfl ?_
    obtain ⟨p4, e5, h⟩ := obind h
    refine qE.call hd9 rfl rfl rfl rfl (t_c_pushArguments_89 (by omega) e5) ?_
    refine qE.steps 0 hd9 (s' := (75, [(7, .int (c_firstGoal_62 (c_page_26 i1 σ) p1.2)), (6, .int p1.1), (5, .int (c_page_26 i1 σ)), (0, .ref 51), (1, .int i1), (2, .int i2), (3, .int i3), (4, .int i4)], [], (p4, y))) rfl ?_
    obtain rfl := Option.some.inj h
    exact qE.ret hd9 rfl rfl
  · rw [if_neg c3] at h
    rw [if_neg c3]
    refine qE.steps 8 hd9 (s' := (53, [(7, .int (c_firstGoal_62 (c_page_26 i1 σ) p1.2)), (6, .int p1.1), (5, .int (c_page_26 i1 σ)), (0, .ref 51), (1, .int i1), (2, .int i2), (3, .int i3), (4, .int i4)], [.int (p1.2.1 5108), .int i4, .int p1.1, .int (c_firstGoal_62 (c_page_26 i1 σ) p1.2), .ref 52, .ref 51], (p1.2, y))) rfl ?_
    obtain ⟨σ6, e7, h⟩ := obind h
    refine qE.tab hd9 (qtab_app e7 rfl) rfl rfl rfl ?_
    refine qE.steps 0 hd9 (s' := (56, [(7, .int (c_firstGoal_62 (c_page_26 i1 σ) p1.2)), (6, .int p1.1), (5, .int (c_page_26 i1 σ)), (0, .ref 51), (1, .int i1), (2, .int i2), (3, .int i3), (4, .int i4)], [.int (p1.2.1 5202), .ref 51], (σ6, y))) rfl ?_
    obtain ⟨σ8, e9, h⟩ := qlet_ex h
    refine qE.steps 1 hd9 (s' := (59, [(7, .int (c_firstGoal_62 (c_page_26 i1 σ) p1.2)), (6, .int p1.1), (5, .int (c_page_26 i1 σ)), (0, .ref 51), (1, .int i1), (2, .int i2), (3, .int i3), (4, .int i4)], [], (σ8, y))) (by subst e9; rfl) ?_
    refine qE.steps 3 hd9 (s' := (65, [(7, .int (c_firstGoal_62 (c_page_26 i1 σ) p1.2)), (6, .int p1.1), (5, .int (c_page_26 i1 σ)), (0, .ref 51), (1, .int i1), (2, .int i2), (3, .int i3), (4, .int i4)], [.int (c_page_26 i1 σ), .ref 44], (σ8, y))) rfl ?_
    refine qE.call hd9 rfl rfl rfl rfl (t_c_firstNode_31 (by omega) rfl) ?_
    refine qE.steps 0 hd9 (s' := (68, [(7, .int (c_firstGoal_62 (c_page_26 i1 σ) p1.2)), (6, .int p1.1), (5, .int (c_page_26 i1 σ)), (0, .ref 51), (1, .int i1), (2, .int i2), (3, .int i3), (4, .int i4)], [.int (c_firstNode_31 (c_page_26 i1 σ)), .ref 44], (σ8, y))) rfl ?_
    refine qE.steps 3 hd9 (s' := (72, [(7, .int (c_firstGoal_62 (c_page_26 i1 σ) p1.2)), (6, .int p1.1), (5, .int (c_page_26 i1 σ)), (0, .ref 51), (1, .int i1), (2, .int i2), (3, .int i3), (4, .int i4)], [.int i3, .int i2, .int p1.1, .int (c_firstNode_31 (c_page_26 i1 σ)), .ref 44], (σ8, y))) rfl ?_
    obtain ⟨p10, e11, h⟩ := obind h
    refine qE.call hd9 rfl rfl rfl rfl (t_c_pushArguments_89 (by omega) e11) ?_
    refine qE.steps 0 hd9 (s' := (75, [(7, .int (c_firstGoal_62 (c_page_26 i1 σ) p1.2)), (6, .int p1.1), (5, .int (c_page_26 i1 σ)), (0, .ref 51), (1, .int i1), (2, .int i2), (3, .int i3), (4, .int i4)], [], (p10, y))) rfl ?_
    obtain rfl := Option.some.inj h
    exact qE.ret hd9 rfl rfl
def c_changes_84 (σ : qC) : Int32 := σ.1 4202
theorem t_c_changes_84 {S : Nat × (Nat → Int32)} {d : Nat} {y : qC × Int64 × Nat} {σ : qC} {p : Int32} (hd : 9 ≤ d) (h : c_changes_84 σ = p) : qE S d jm_7_changes_84 (0, [(0, .ref 35)], [], (σ, y)) ((.inl (some (.int p)), (σ, y))) := by
  have hd9 : 9 ≤ d := by omega
  unfold c_changes_84 at h
  refine qE.steps 3 hd9 (s' := (7, [(0, .ref 35)], [.int (σ.1 4202)], (σ, y))) rfl ?_
  subst h
  exact qE.ret hd9 rfl rfl
def c_variables_85 (σ : qC) : Int32 := σ.1 3602
theorem t_c_variables_85 {S : Nat × (Nat → Int32)} {d : Nat} {y : qC × Int64 × Nat} {σ : qC} {p : Int32} (hd : 9 ≤ d) (h : c_variables_85 σ = p) : qE S d jm_7_variables_85 (0, [(0, .ref 35)], [], (σ, y)) ((.inl (some (.int p)), (σ, y))) := by
  have hd9 : 9 ≤ d := by omega
  unfold c_variables_85 at h
  refine qE.steps 3 hd9 (s' := (7, [(0, .ref 35)], [.int (σ.1 3602)], (σ, y))) rfl ?_
  subst h
  exact qE.ret hd9 rfl rfl
def c_sleepers_86 (σ : qC) : Int32 := σ.1 3802
theorem t_c_sleepers_86 {S : Nat × (Nat → Int32)} {d : Nat} {y : qC × Int64 × Nat} {σ : qC} {p : Int32} (hd : 9 ≤ d) (h : c_sleepers_86 σ = p) : qE S d jm_7_sleepers_86 (0, [(0, .ref 35)], [], (σ, y)) ((.inl (some (.int p)), (σ, y))) := by
  have hd9 : 9 ≤ d := by omega
  unfold c_sleepers_86 at h
  refine qE.steps 3 hd9 (s' := (7, [(0, .ref 35)], [.int (σ.1 3802)], (σ, y))) rfl ?_
  subst h
  exact qE.ret hd9 rfl rfl
def c_aparts_87 (σ : qC) : Int32 := σ.1 4002
theorem t_c_aparts_87 {S : Nat × (Nat → Int32)} {d : Nat} {y : qC × Int64 × Nat} {σ : qC} {p : Int32} (hd : 9 ≤ d) (h : c_aparts_87 σ = p) : qE S d jm_7_aparts_87 (0, [(0, .ref 35)], [], (σ, y)) ((.inl (some (.int p)), (σ, y))) := by
  have hd9 : 9 ≤ d := by omega
  unfold c_aparts_87 at h
  refine qE.steps 3 hd9 (s' := (7, [(0, .ref 35)], [.int (σ.1 4002)], (σ, y))) rfl ?_
  subst h
  exact qE.ret hd9 rfl rfl
def c_leaveChoice_83 (i1 : Int32) (i2 : Int32) (i3 : Int32) (σ : qC) : Option qC := (tappO σ 54 9 i1 i2 i3 (σ.1 5108)).bind (fun σ1 => (tputO σ1 54 9 (σ.1 5402) (Int32.ofInt 4) (c_changes_84 σ1)).bind (fun σ3 => (tputO σ3 54 9 (σ.1 5402) (Int32.ofInt 5) (c_variables_85 σ3)).bind (fun σ5 => (tputO σ5 54 9 (σ.1 5402) (Int32.ofInt 6) (c_sleepers_86 σ5)).bind (fun σ7 => (tputO σ7 54 9 (σ.1 5402) (Int32.ofInt 7) (c_aparts_87 σ7)).bind (fun σ9 => (tputO σ9 54 9 (σ.1 5402) (Int32.ofInt 8) (σ9.1 5202)).bind (fun σ11 => some σ11))))))
theorem t_c_leaveChoice_83 {S : Nat × (Nat → Int32)} {d : Nat} {y : qC × Int64 × Nat} {i1 : Int32} {i2 : Int32} {i3 : Int32} {σ : qC} {p : qC} (hd : 10 ≤ d) (h : c_leaveChoice_83 i1 i2 i3 σ = some p) : qE S d jm_6_leaveChoice_83 (0, [(0, .ref 51), (1, .int i1), (2, .int i2), (3, .int i3)], [], (σ, y)) ((.inl none, (p, y))) := by
  have hd9 : 9 ≤ d := by omega
  unfold c_leaveChoice_83 at h
  refine qE.steps 7 hd9 (s' := (11, [(0, .ref 51), (1, .int i1), (2, .int i2), (3, .int i3)], [.int (σ.1 5108), .int i3, .int i2, .int i1, .ref 54], (σ, y))) rfl ?_
  obtain ⟨σ1, e2, h⟩ := obind h
  refine qE.tab hd9 (qtab_app e2 rfl) rfl rfl rfl ?_
  refine qE.steps 0 hd9 (s' := (14, [(0, .ref 51), (1, .int i1), (2, .int i2), (3, .int i3)], [.int (σ.1 5402)], (σ1, y))) rfl ?_
  refine qE.steps 7 hd9 (s' := (27, [(4, .int (σ.1 5402)), (0, .ref 51), (1, .int i1), (2, .int i2), (3, .int i3)], [.ref 35, .int (Int32.ofInt 4), .int (σ.1 5402), .ref 54], (σ1, y))) rfl ?_
  refine qE.call hd9 rfl rfl rfl rfl (t_c_changes_84 (by omega) rfl) ?_
  refine qE.steps 0 hd9 (s' := (30, [(4, .int (σ.1 5402)), (0, .ref 51), (1, .int i1), (2, .int i2), (3, .int i3)], [.int (c_changes_84 σ1), .int (Int32.ofInt 4), .int (σ.1 5402), .ref 54], (σ1, y))) rfl ?_
  obtain ⟨σ3, e4, h⟩ := obind h
  refine qE.tab hd9 (qtab_put e4 rfl) rfl rfl rfl ?_
  refine qE.steps 6 hd9 (s' := (44, [(4, .int (σ.1 5402)), (0, .ref 51), (1, .int i1), (2, .int i2), (3, .int i3)], [.ref 35, .int (Int32.ofInt 5), .int (σ.1 5402), .ref 54], (σ3, y))) rfl ?_
  refine qE.call hd9 rfl rfl rfl rfl (t_c_variables_85 (by omega) rfl) ?_
  refine qE.steps 0 hd9 (s' := (47, [(4, .int (σ.1 5402)), (0, .ref 51), (1, .int i1), (2, .int i2), (3, .int i3)], [.int (c_variables_85 σ3), .int (Int32.ofInt 5), .int (σ.1 5402), .ref 54], (σ3, y))) rfl ?_
  obtain ⟨σ5, e6, h⟩ := obind h
  refine qE.tab hd9 (qtab_put e6 rfl) rfl rfl rfl ?_
  refine qE.steps 6 hd9 (s' := (62, [(4, .int (σ.1 5402)), (0, .ref 51), (1, .int i1), (2, .int i2), (3, .int i3)], [.ref 35, .int (Int32.ofInt 6), .int (σ.1 5402), .ref 54], (σ5, y))) rfl ?_
  refine qE.call hd9 rfl rfl rfl rfl (t_c_sleepers_86 (by omega) rfl) ?_
  refine qE.steps 0 hd9 (s' := (65, [(4, .int (σ.1 5402)), (0, .ref 51), (1, .int i1), (2, .int i2), (3, .int i3)], [.int (c_sleepers_86 σ5), .int (Int32.ofInt 6), .int (σ.1 5402), .ref 54], (σ5, y))) rfl ?_
  obtain ⟨σ7, e8, h⟩ := obind h
  refine qE.tab hd9 (qtab_put e8 rfl) rfl rfl rfl ?_
  refine qE.steps 6 hd9 (s' := (80, [(4, .int (σ.1 5402)), (0, .ref 51), (1, .int i1), (2, .int i2), (3, .int i3)], [.ref 35, .int (Int32.ofInt 7), .int (σ.1 5402), .ref 54], (σ7, y))) rfl ?_
  refine qE.call hd9 rfl rfl rfl rfl (t_c_aparts_87 (by omega) rfl) ?_
  refine qE.steps 0 hd9 (s' := (83, [(4, .int (σ.1 5402)), (0, .ref 51), (1, .int i1), (2, .int i2), (3, .int i3)], [.int (c_aparts_87 σ7), .int (Int32.ofInt 7), .int (σ.1 5402), .ref 54], (σ7, y))) rfl ?_
  obtain ⟨σ9, e10, h⟩ := obind h
  refine qE.tab hd9 (qtab_put e10 rfl) rfl rfl rfl ?_
  refine qE.steps 7 hd9 (s' := (101, [(4, .int (σ.1 5402)), (0, .ref 51), (1, .int i1), (2, .int i2), (3, .int i3)], [.int (σ9.1 5202), .int (Int32.ofInt 8), .int (σ.1 5402), .ref 54], (σ9, y))) rfl ?_
  obtain ⟨σ11, e12, h⟩ := obind h
  refine qE.tab hd9 (qtab_put e12 rfl) rfl rfl rfl ?_
  obtain rfl := Option.some.inj h
  exact qE.ret hd9 rfl rfl
def c_doCall_79 (i1 : Int32) (i2 : Int32) (σ : qC) : Option (Nat × qC) := (c_find_80 (Int32.ofInt 0) i1 σ).bind (fun p1 => if p1 = Int32.ofInt (-1) then some (7, σ) else (c_find_80 (p1 + (Int32.ofInt 1)) i1 σ).bind (fun p4 => if p4 = Int32.ofInt (-1) then (c_take_88 p1 i1 i2 (σ.1 5402) σ).bind (fun p7 => some (4, p7)) else (c_leaveChoice_83 i1 i2 p4 σ).bind (fun p9 => (c_take_88 p1 i1 i2 (σ.1 5402) p9).bind (fun p11 => some (4, p11)))))
theorem t_c_doCall_79 {S : Nat × (Nat → Int32)} {d : Nat} {y : qC × Int64 × Nat} {i1 : Int32} {i2 : Int32} {σ : qC} {p : (Nat × qC)} (hd : 13 ≤ d) (h : c_doCall_79 i1 i2 σ = some p) : qE S d jm_6_doCall_79 (0, [(0, .ref 51), (1, .int i1), (2, .int i2)], [], (σ, y)) ((.inl (some (.ref p.1)), (p.2, y))) := by
  have hd9 : 9 ≤ d := by omega
  unfold c_doCall_79 at h
  refine qE.steps 4 hd9 (s' := (6, [(0, .ref 51), (1, .int i1), (2, .int i2)], [.int i1, .int (Int32.ofInt 0), .ref 33], (σ, y))) rfl ?_
  obtain ⟨p1, e2, h⟩ := obind h
  refine qE.call hd9 rfl rfl rfl rfl (t_c_find_80 (by omega) e2) ?_
  refine qE.steps 0 hd9 (s' := (9, [(0, .ref 51), (1, .int i1), (2, .int i2)], [.int p1], (σ, y))) rfl ?_
  refine qE.steps 4 hd9 (s' := (if ¬ (p1 = Int32.ofInt (-1)) then 19 else 15, [(3, .int p1), (0, .ref 51), (1, .int i1), (2, .int i2)], [], (σ, y))) rfl ?_
  by_cases c3 : p1 = Int32.ofInt (-1)
  · rw [if_pos c3] at h
    rw [if_neg (not_not_intro c3)]
    refine qE.steps 1 hd9 (s' := (18, [(3, .int p1), (0, .ref 51), (1, .int i1), (2, .int i2)], [.ref 7], (σ, y))) rfl ?_
    obtain rfl := Option.some.inj h
    exact qE.ret hd9 rfl rfl
  · rw [if_neg c3] at h
    rw [if_pos c3]
    refine qE.steps 10 hd9 (s' := (36, [(4, .int (σ.1 5402)), (3, .int p1), (0, .ref 51), (1, .int i1), (2, .int i2)], [.int i1, .int (p1 + (Int32.ofInt 1)), .ref 33], (σ, y))) rfl ?_
    obtain ⟨p4, e5, h⟩ := obind h
    refine qE.call hd9 rfl rfl rfl rfl (t_c_find_80 (by omega) e5) ?_
    refine qE.steps 0 hd9 (s' := (39, [(4, .int (σ.1 5402)), (3, .int p1), (0, .ref 51), (1, .int i1), (2, .int i2)], [.int p4], (σ, y))) rfl ?_
    refine qE.steps 4 hd9 (s' := (if p4 = Int32.ofInt (-1) then 55 else 47, [(5, .int p4), (4, .int (σ.1 5402)), (3, .int p1), (0, .ref 51), (1, .int i1), (2, .int i2)], [], (σ, y))) rfl ?_
    by_cases c6 : p4 = Int32.ofInt (-1)
    · rw [if_pos c6] at h
      rw [if_pos c6]
      refine qE.steps 5 hd9 (s' := (61, [(5, .int p4), (4, .int (σ.1 5402)), (3, .int p1), (0, .ref 51), (1, .int i1), (2, .int i2)], [.int (σ.1 5402), .int i2, .int i1, .int p1, .ref 51], (σ, y))) rfl ?_
      obtain ⟨p7, e8, h⟩ := obind h
      refine qE.call hd9 rfl rfl rfl rfl (t_c_take_88 (by omega) e8) ?_
      refine qE.steps 0 hd9 (s' := (64, [(5, .int p4), (4, .int (σ.1 5402)), (3, .int p1), (0, .ref 51), (1, .int i1), (2, .int i2)], [], (p7, y))) rfl ?_
      refine qE.steps 1 hd9 (s' := (67, [(5, .int p4), (4, .int (σ.1 5402)), (3, .int p1), (0, .ref 51), (1, .int i1), (2, .int i2)], [.ref 4], (p7, y))) rfl ?_
      obtain rfl := Option.some.inj h
      exact qE.ret hd9 rfl rfl
    · rw [if_neg c6] at h
      rw [if_neg c6]
      refine qE.steps 4 hd9 (s' := (52, [(5, .int p4), (4, .int (σ.1 5402)), (3, .int p1), (0, .ref 51), (1, .int i1), (2, .int i2)], [.int p4, .int i2, .int i1, .ref 51], (σ, y))) rfl ?_
      obtain ⟨p9, e10, h⟩ := obind h
      refine qE.call hd9 rfl rfl rfl rfl (t_c_leaveChoice_83 (by omega) e10) ?_
      refine qE.steps 0 hd9 (s' := (55, [(5, .int p4), (4, .int (σ.1 5402)), (3, .int p1), (0, .ref 51), (1, .int i1), (2, .int i2)], [], (p9, y))) rfl ?_
      refine qE.steps 5 hd9 (s' := (61, [(5, .int p4), (4, .int (σ.1 5402)), (3, .int p1), (0, .ref 51), (1, .int i1), (2, .int i2)], [.int (σ.1 5402), .int i2, .int i1, .int p1, .ref 51], (p9, y))) rfl ?_
      obtain ⟨p11, e12, h⟩ := obind h
      refine qE.call hd9 rfl rfl rfl rfl (t_c_take_88 (by omega) e12) ?_
      refine qE.steps 0 hd9 (s' := (64, [(5, .int p4), (4, .int (σ.1 5402)), (3, .int p1), (0, .ref 51), (1, .int i1), (2, .int i2)], [], (p11, y))) rfl ?_
      refine qE.steps 1 hd9 (s' := (67, [(5, .int p4), (4, .int (σ.1 5402)), (3, .int p1), (0, .ref 51), (1, .int i1), (2, .int i2)], [.ref 4], (p11, y))) rfl ?_
      obtain rfl := Option.some.inj h
      exact qE.ret hd9 rfl rfl
