/-! BY PROGRAM (wip/whole/gendc.py): each method as a function over the numbers -/
def m_buildGoals_142_j188 (K5 : Int32 → Int32 → Int32 → Int32 → qC → Option (Int32 × qC)) (i1 : Int32) (i2 : Int32) (i3 : Int32) (i5 : Int32) (σ : qC) : Option (Int32 × qC) := K5 i1 i2 i3 i5 σ
def m_buildGoals_142_j158 (K5 : Int32 → Int32 → Int32 → Int32 → qC → Option (Int32 × qC)) (i1 : Int32) (i2 : Int32) (i3 : Int32) (i4 : Int32) (i5 : Int32) (σ : qC) : Option (Int32 × qC) := qlet (upS σ 6412 ((σ.1 6412) + (Int32.ofInt 1))) (fun σ1 => if i4 < 0 then m_buildGoals_142_j188 K5 i1 i2 i5 i5 σ1 else (aput σ1 82 14000 i4 i5).bind (fun σ4 => m_buildGoals_142_j188 K5 i1 i2 i3 i5 σ4))
def m_buildGoals_142_j132 (K5 : Int32 → Int32 → Int32 → Int32 → qC → Option (Int32 × qC)) (i1 : Int32) (i2 : Int32) (i3 : Int32) (i4 : Int32) (i6 : Int32) (i8 : Int32) (σ : qC) : Option (Int32 × qC) := if i8 = Int32.ofInt 1 then (m_goal_144 i8 i6 (Int32.ofInt 0) i1 i2 σ).bind (fun p2 => m_buildGoals_142_j158 K5 i1 i2 i3 i4 p2.1 p2.2) else (m_build_145 σ).bind (fun p4 => (m_goal_144 i8 i6 p4.1 i1 i2 p4.2).bind (fun p6 => m_buildGoals_142_j158 K5 i1 i2 i3 i4 p6.1 p6.2))
def m_buildGoals_142_l5 : Nat → Int32 → Int32 → Int32 → Int32 → qC → Option (Int32 × qC)
  | 0, _, _, _, _, _ => none
  | n + 1, i1, i2, i3, i4, σ => if σ.1 6413 ≤ σ.1 6412 then if 0 ≤ i3 then some (i3, σ) else some (i2, σ) else (m_at_143 (σ.1 6412) σ).bind (fun p3 => if p3 = Int32.ofInt 33 then qlet (upS σ 6412 ((σ.1 6412) + (Int32.ofInt 1))) (fun σ6 => (m_goal_144 (Int32.ofInt 0) (Int32.ofInt 0) (Int32.ofInt 0) i1 i2 σ6).bind (fun p8 => m_buildGoals_142_j158 (m_buildGoals_142_l5 n) i1 i2 i3 i4 p8.1 p8.2)) else (m_build_145 σ).bind (fun p10 => (m_at_143 (p10.2.1 6412) p10.2).bind (fun p12 => if p12 = Int32.ofInt 61 then qlet (upS p10.2 6412 ((p10.2.1 6412) + (Int32.ofInt 1))) (fun σ15 => m_buildGoals_142_j132 (m_buildGoals_142_l5 n) i1 i2 i3 i4 p10.1 (Int32.ofInt 2) σ15) else if p12 = Int32.ofInt 126 then qlet (upS p10.2 6412 ((p10.2.1 6412) + (Int32.ofInt 1))) (fun σ18 => m_buildGoals_142_j132 (m_buildGoals_142_l5 n) i1 i2 i3 i4 p10.1 (Int32.ofInt 3) σ18) else if p12 = Int32.ofInt 60 then qlet (upS p10.2 6412 ((p10.2.1 6412) + (Int32.ofInt 1))) (fun σ21 => m_buildGoals_142_j132 (m_buildGoals_142_l5 n) i1 i2 i3 i4 p10.1 (Int32.ofInt 4) σ21) else if p12 = Int32.ofInt 63 then qlet (upS p10.2 6412 ((p10.2.1 6412) + (Int32.ofInt 1))) (fun σ24 => m_buildGoals_142_j132 (m_buildGoals_142_l5 n) i1 i2 i3 i4 p10.1 (Int32.ofInt 5) σ24) else m_buildGoals_142_j132 (m_buildGoals_142_l5 n) i1 i2 i3 i4 p10.1 (Int32.ofInt 1) p10.2)))
def m_buildGoals_142 (i1 : Int32) (i2 : Int32) (σ : qC) : Option (Int32 × qC) := m_buildGoals_142_l5 qF i1 i2 (Int32.ofInt (-1)) (Int32.ofInt (-1)) σ
theorem t_m_buildGoals_142_j188 {S : Nat × (Nat → Int32)} {d : Nat} {x : qC} {y : Int64 × Nat} (hd : 11 ≤ d) {K5 : Int32 → Int32 → Int32 → Int32 → qC → Option (Int32 × qC)} (hK5 : ∀ {i1 : Int32} {i2 : Int32} {i3 : Int32} {i4 : Int32} {σ : qC} {p : (Int32 × qC)}, K5 i1 i2 i3 i4 σ = some p → qE S d jm_12_buildGoals_142 (5, [(0, .ref 64), (1, .int i1), (2, .int i2), (3, .int i3), (4, .int i4)], [], (x, σ, y)) ((.inl (some (.int p.1)), (x, p.2, y)))) {i1 : Int32} {i2 : Int32} {i3 : Int32} {i5 : Int32} {σ : qC} {p : (Int32 × qC)} (h : m_buildGoals_142_j188 K5 i1 i2 i3 i5 σ = some p) : qE S d jm_12_buildGoals_142 (188, [(0, .ref 64), (1, .int i1), (2, .int i2), (3, .int i3), (5, .int i5)], [], (x, σ, y)) ((.inl (some (.int p.1)), (x, p.2, y))) := by
  have hd9 : 9 ≤ d := by omega
  unfold m_buildGoals_142_j188 at h
  refine qE.steps 3 hd9 (s' := (5, [(4, .int i5), (0, .ref 64), (1, .int i1), (2, .int i2), (3, .int i3), (5, .int i5)], [], (x, σ, y))) rfl ?_
  exact qE.wk (hK5 h) ⟨rfl, rfl, rfl, rfl, rfl, trivial⟩ rfl
theorem t_m_buildGoals_142_j158 {S : Nat × (Nat → Int32)} {d : Nat} {x : qC} {y : Int64 × Nat} (hd : 11 ≤ d) {K5 : Int32 → Int32 → Int32 → Int32 → qC → Option (Int32 × qC)} (hK5 : ∀ {i1 : Int32} {i2 : Int32} {i3 : Int32} {i4 : Int32} {σ : qC} {p : (Int32 × qC)}, K5 i1 i2 i3 i4 σ = some p → qE S d jm_12_buildGoals_142 (5, [(0, .ref 64), (1, .int i1), (2, .int i2), (3, .int i3), (4, .int i4)], [], (x, σ, y)) ((.inl (some (.int p.1)), (x, p.2, y)))) {i1 : Int32} {i2 : Int32} {i3 : Int32} {i4 : Int32} {i5 : Int32} {σ : qC} {p : (Int32 × qC)} (h : m_buildGoals_142_j158 K5 i1 i2 i3 i4 i5 σ = some p) : qE S d jm_12_buildGoals_142 (158, [(0, .ref 64), (1, .int i1), (2, .int i2), (3, .int i3), (4, .int i4), (5, .int i5)], [], (x, σ, y)) ((.inl (some (.int p.1)), (x, p.2, y))) := by
  have hd9 : 9 ≤ d := by omega
  unfold m_buildGoals_142_j158 at h
  obtain ⟨σ1, e2, h⟩ := qlet_ex h
  refine qE.steps 6 hd9 (s' := (168, [(0, .ref 64), (1, .int i1), (2, .int i2), (3, .int i3), (4, .int i4), (5, .int i5)], [], (x, σ1, y))) (by subst e2; rfl) ?_
  refine qE.steps 2 hd9 (s' := (if i4 < 0 then 185 else 173, [(0, .ref 64), (1, .int i1), (2, .int i2), (3, .int i3), (4, .int i4), (5, .int i5)], [], (x, σ1, y))) rfl ?_
  by_cases c3 : i4 < 0
  · rw [if_pos c3] at h
    rw [if_pos c3]
    refine qE.steps 2 hd9 (s' := (188, [(3, .int i5), (0, .ref 64), (1, .int i1), (2, .int i2), (4, .int i4), (5, .int i5)], [], (x, σ1, y))) rfl ?_
    exact qE.wk (t_m_buildGoals_142_j188 hd hK5 h) ⟨rfl, rfl, rfl, rfl, rfl, trivial⟩ rfl
  · rw [if_neg c3] at h
    rw [if_neg c3]
    refine qE.steps 4 hd9 (s' := (181, [(0, .ref 64), (1, .int i1), (2, .int i2), (3, .int i3), (4, .int i4), (5, .int i5)], [.int i5, .int i4, .ref 82], (x, σ1, y))) rfl ?_
    obtain ⟨σ4, e5, h⟩ := obind h
    refine qE.iastM hd9 e5 rfl rfl ?_
    refine qE.steps 1 hd9 (s' := (188, [(0, .ref 64), (1, .int i1), (2, .int i2), (3, .int i3), (4, .int i4), (5, .int i5)], [], (x, σ4, y))) rfl ?_
    exact qE.wk (t_m_buildGoals_142_j188 hd hK5 h) ⟨rfl, rfl, rfl, rfl, rfl, trivial⟩ rfl
theorem t_m_buildGoals_142_j132 {S : Nat × (Nat → Int32)} {d : Nat} {x : qC} {y : Int64 × Nat} (hd : 11 ≤ d) {K5 : Int32 → Int32 → Int32 → Int32 → qC → Option (Int32 × qC)} (hK5 : ∀ {i1 : Int32} {i2 : Int32} {i3 : Int32} {i4 : Int32} {σ : qC} {p : (Int32 × qC)}, K5 i1 i2 i3 i4 σ = some p → qE S d jm_12_buildGoals_142 (5, [(0, .ref 64), (1, .int i1), (2, .int i2), (3, .int i3), (4, .int i4)], [], (x, σ, y)) ((.inl (some (.int p.1)), (x, p.2, y)))) {i1 : Int32} {i2 : Int32} {i3 : Int32} {i4 : Int32} {i6 : Int32} {i8 : Int32} {σ : qC} {p : (Int32 × qC)} (h : m_buildGoals_142_j132 K5 i1 i2 i3 i4 i6 i8 σ = some p) : qE S d jm_12_buildGoals_142 (132, [(0, .ref 64), (1, .int i1), (2, .int i2), (3, .int i3), (4, .int i4), (6, .int i6), (8, .int i8)], [], (x, σ, y)) ((.inl (some (.int p.1)), (x, p.2, y))) := by
  have hd9 : 9 ≤ d := by omega
  unfold m_buildGoals_142_j132 at h
  refine qE.steps 6 hd9 (s' := (if ¬ (i8 = Int32.ofInt 1) then 147 else 143, [(0, .ref 64), (1, .int i1), (2, .int i2), (3, .int i3), (4, .int i4), (6, .int i6), (8, .int i8)], [.int i6, .int i8, .ref 64], (x, σ, y))) rfl ?_
  by_cases c1 : i8 = Int32.ofInt 1
  · rw [if_pos c1] at h
    rw [if_neg (not_not_intro c1)]
    refine qE.steps 4 hd9 (s' := (153, [(0, .ref 64), (1, .int i1), (2, .int i2), (3, .int i3), (4, .int i4), (6, .int i6), (8, .int i8)], [.int i2, .int i1, .int (Int32.ofInt 0), .int i6, .int i8, .ref 64], (x, σ, y))) rfl ?_
    obtain ⟨p2, e3, h⟩ := obind h
    refine qE.call hd9 rfl rfl rfl rfl (t_m_goal_144 (by omega) e3) ?_
    refine qE.steps 0 hd9 (s' := (156, [(0, .ref 64), (1, .int i1), (2, .int i2), (3, .int i3), (4, .int i4), (6, .int i6), (8, .int i8)], [.int p2.1], (x, p2.2, y))) rfl ?_
    refine qE.steps 1 hd9 (s' := (158, [(5, .int p2.1), (0, .ref 64), (1, .int i1), (2, .int i2), (3, .int i3), (4, .int i4), (6, .int i6), (8, .int i8)], [], (x, p2.2, y))) rfl ?_
    exact qE.wk (t_m_buildGoals_142_j158 hd hK5 h) ⟨rfl, rfl, rfl, rfl, rfl, rfl, trivial⟩ rfl
  · rw [if_neg c1] at h
    rw [if_pos c1]
    refine qE.steps 1 hd9 (s' := (148, [(0, .ref 64), (1, .int i1), (2, .int i2), (3, .int i3), (4, .int i4), (6, .int i6), (8, .int i8)], [.ref 64, .int i6, .int i8, .ref 64], (x, σ, y))) rfl ?_
    obtain ⟨p4, e5, h⟩ := obind h
    refine qE.call hd9 rfl rfl rfl rfl (t_m_build_145 (by omega) e5) ?_
    refine qE.steps 0 hd9 (s' := (151, [(0, .ref 64), (1, .int i1), (2, .int i2), (3, .int i3), (4, .int i4), (6, .int i6), (8, .int i8)], [.int p4.1, .int i6, .int i8, .ref 64], (x, p4.2, y))) rfl ?_
    refine qE.steps 2 hd9 (s' := (153, [(0, .ref 64), (1, .int i1), (2, .int i2), (3, .int i3), (4, .int i4), (6, .int i6), (8, .int i8)], [.int i2, .int i1, .int p4.1, .int i6, .int i8, .ref 64], (x, p4.2, y))) rfl ?_
    obtain ⟨p6, e7, h⟩ := obind h
    refine qE.call hd9 rfl rfl rfl rfl (t_m_goal_144 (by omega) e7) ?_
    refine qE.steps 0 hd9 (s' := (156, [(0, .ref 64), (1, .int i1), (2, .int i2), (3, .int i3), (4, .int i4), (6, .int i6), (8, .int i8)], [.int p6.1], (x, p6.2, y))) rfl ?_
    refine qE.steps 1 hd9 (s' := (158, [(5, .int p6.1), (0, .ref 64), (1, .int i1), (2, .int i2), (3, .int i3), (4, .int i4), (6, .int i6), (8, .int i8)], [], (x, p6.2, y))) rfl ?_
    exact qE.wk (t_m_buildGoals_142_j158 hd hK5 h) ⟨rfl, rfl, rfl, rfl, rfl, rfl, trivial⟩ rfl
theorem t_m_buildGoals_142_l5 {S : Nat × (Nat → Int32)} {d : Nat} {x : qC} {y : Int64 × Nat} (hd : 11 ≤ d) : ∀ (n : Nat) {i1 : Int32} {i2 : Int32} {i3 : Int32} {i4 : Int32} {σ : qC} {p : (Int32 × qC)}, m_buildGoals_142_l5 n i1 i2 i3 i4 σ = some p → qE S d jm_12_buildGoals_142 (5, [(0, .ref 64), (1, .int i1), (2, .int i2), (3, .int i3), (4, .int i4)], [], (x, σ, y)) ((.inl (some (.int p.1)), (x, p.2, y))) := by
  have hd9 : 9 ≤ d := by omega
  intro n
  induction n with
  | zero =>
    intros
    rename_i h
    unfold m_buildGoals_142_l5 at h
    cases h
  | succ n ih =>
    intro i1 i2 i3 i4 σ p h
    unfold m_buildGoals_142_l5 at h
    refine qE.steps 5 hd9 (s' := (if σ.1 6413 ≤ σ.1 6412 then 195 else 16, [(0, .ref 64), (1, .int i1), (2, .int i2), (3, .int i3), (4, .int i4)], [], (x, σ, y))) rfl ?_
    by_cases c1 : σ.1 6413 ≤ σ.1 6412
    · rw [if_pos c1] at h
      rw [if_pos c1]
      refine qE.steps 2 hd9 (s' := (if 0 ≤ i3 then 203 else 199, [(0, .ref 64), (1, .int i1), (2, .int i2), (3, .int i3), (4, .int i4)], [], (x, σ, y))) rfl ?_
      by_cases c2 : 0 ≤ i3
      · rw [if_pos c2] at h
        rw [if_pos c2]
        refine qE.steps 1 hd9 (s' := (204, [(0, .ref 64), (1, .int i1), (2, .int i2), (3, .int i3), (4, .int i4)], [.int i3], (x, σ, y))) rfl ?_
        obtain rfl := Option.some.inj h
        exact qE.ret hd9 rfl rfl
      · rw [if_neg c2] at h
        rw [if_neg c2]
        refine qE.steps 2 hd9 (s' := (204, [(0, .ref 64), (1, .int i1), (2, .int i2), (3, .int i3), (4, .int i4)], [.int i2], (x, σ, y))) rfl ?_
        obtain rfl := Option.some.inj h
        exact qE.ret hd9 rfl rfl
    · rw [if_neg c1] at h
      rw [if_neg c1]
      refine qE.steps 3 hd9 (s' := (21, [(0, .ref 64), (1, .int i1), (2, .int i2), (3, .int i3), (4, .int i4)], [.int (σ.1 6412), .ref 64], (x, σ, y))) rfl ?_
      obtain ⟨p3, e4, h⟩ := obind h
      refine qE.call hd9 rfl rfl rfl rfl (t_m_at_143 (by omega) e4) ?_
      refine qE.steps 0 hd9 (s' := (24, [(0, .ref 64), (1, .int i1), (2, .int i2), (3, .int i3), (4, .int i4)], [.int p3], (x, σ, y))) rfl ?_
      refine qE.steps 2 hd9 (s' := (if ¬ (p3 = Int32.ofInt 33) then 53 else 29, [(0, .ref 64), (1, .int i1), (2, .int i2), (3, .int i3), (4, .int i4)], [], (x, σ, y))) rfl ?_
      by_cases c5 : p3 = Int32.ofInt 33
      · rw [if_pos c5] at h
        rw [if_neg (not_not_intro c5)]
        obtain ⟨σ6, e7, h⟩ := qlet_ex h
        refine qE.steps 6 hd9 (s' := (39, [(0, .ref 64), (1, .int i1), (2, .int i2), (3, .int i3), (4, .int i4)], [], (x, σ6, y))) (by subst e7; rfl) ?_
        refine qE.steps 6 hd9 (s' := (45, [(0, .ref 64), (1, .int i1), (2, .int i2), (3, .int i3), (4, .int i4)], [.int i2, .int i1, .int (Int32.ofInt 0), .int (Int32.ofInt 0), .int (Int32.ofInt 0), .ref 64], (x, σ6, y))) rfl ?_
        obtain ⟨p8, e9, h⟩ := obind h
        refine qE.call hd9 rfl rfl rfl rfl (t_m_goal_144 (by omega) e9) ?_
        refine qE.steps 0 hd9 (s' := (48, [(0, .ref 64), (1, .int i1), (2, .int i2), (3, .int i3), (4, .int i4)], [.int p8.1], (x, p8.2, y))) rfl ?_
        refine qE.steps 2 hd9 (s' := (158, [(5, .int p8.1), (0, .ref 64), (1, .int i1), (2, .int i2), (3, .int i3), (4, .int i4)], [], (x, p8.2, y))) rfl ?_
        exact qE.wk (t_m_buildGoals_142_j158 hd ih h) ⟨rfl, rfl, rfl, rfl, rfl, rfl, trivial⟩ rfl
      · rw [if_neg c5] at h
        rw [if_pos c5]
        refine qE.steps 1 hd9 (s' := (54, [(0, .ref 64), (1, .int i1), (2, .int i2), (3, .int i3), (4, .int i4)], [.ref 64], (x, σ, y))) rfl ?_
        obtain ⟨p10, e11, h⟩ := obind h
        refine qE.call hd9 rfl rfl rfl rfl (t_m_build_145 (by omega) e11) ?_
        refine qE.steps 0 hd9 (s' := (57, [(0, .ref 64), (1, .int i1), (2, .int i2), (3, .int i3), (4, .int i4)], [.int p10.1], (x, p10.2, y))) rfl ?_
        refine qE.steps 4 hd9 (s' := (64, [(6, .int p10.1), (0, .ref 64), (1, .int i1), (2, .int i2), (3, .int i3), (4, .int i4)], [.int (p10.2.1 6412), .ref 64], (x, p10.2, y))) rfl ?_
        obtain ⟨p12, e13, h⟩ := obind h
        refine qE.call hd9 rfl rfl rfl rfl (t_m_at_143 (by omega) e13) ?_
        refine qE.steps 0 hd9 (s' := (67, [(6, .int p10.1), (0, .ref 64), (1, .int i1), (2, .int i2), (3, .int i3), (4, .int i4)], [.int p12], (x, p10.2, y))) rfl ?_
        refine qE.steps 4 hd9 (s' := (if ¬ (p12 = Int32.ofInt 61) then 80 else 76, [(7, .int p12), (6, .int p10.1), (0, .ref 64), (1, .int i1), (2, .int i2), (3, .int i3), (4, .int i4)], [], (x, p10.2, y))) rfl ?_
        by_cases c14 : p12 = Int32.ofInt 61
        · rw [if_pos c14] at h
          rw [if_neg (not_not_intro c14)]
          obtain ⟨σ15, e16, h⟩ := qlet_ex h
          refine qE.steps 12 hd9 (s' := (132, [(8, .int (Int32.ofInt 2)), (7, .int p12), (6, .int p10.1), (0, .ref 64), (1, .int i1), (2, .int i2), (3, .int i3), (4, .int i4)], [], (x, σ15, y))) (by subst e16; rfl) ?_
          exact qE.wk (t_m_buildGoals_142_j132 hd ih h) ⟨rfl, rfl, rfl, rfl, rfl, rfl, rfl, trivial⟩ rfl
        · rw [if_neg c14] at h
          rw [if_pos c14]
          refine qE.steps 3 hd9 (s' := (if ¬ (p12 = Int32.ofInt 126) then 91 else 87, [(7, .int p12), (6, .int p10.1), (0, .ref 64), (1, .int i1), (2, .int i2), (3, .int i3), (4, .int i4)], [], (x, p10.2, y))) rfl ?_
          by_cases c17 : p12 = Int32.ofInt 126
          · rw [if_pos c17] at h
            rw [if_neg (not_not_intro c17)]
            obtain ⟨σ18, e19, h⟩ := qlet_ex h
            refine qE.steps 12 hd9 (s' := (132, [(8, .int (Int32.ofInt 3)), (7, .int p12), (6, .int p10.1), (0, .ref 64), (1, .int i1), (2, .int i2), (3, .int i3), (4, .int i4)], [], (x, σ18, y))) (by subst e19; rfl) ?_
            exact qE.wk (t_m_buildGoals_142_j132 hd ih h) ⟨rfl, rfl, rfl, rfl, rfl, rfl, rfl, trivial⟩ rfl
          · rw [if_neg c17] at h
            rw [if_pos c17]
            refine qE.steps 3 hd9 (s' := (if ¬ (p12 = Int32.ofInt 60) then 102 else 98, [(7, .int p12), (6, .int p10.1), (0, .ref 64), (1, .int i1), (2, .int i2), (3, .int i3), (4, .int i4)], [], (x, p10.2, y))) rfl ?_
            by_cases c20 : p12 = Int32.ofInt 60
            · rw [if_pos c20] at h
              rw [if_neg (not_not_intro c20)]
              obtain ⟨σ21, e22, h⟩ := qlet_ex h
              refine qE.steps 12 hd9 (s' := (132, [(8, .int (Int32.ofInt 4)), (7, .int p12), (6, .int p10.1), (0, .ref 64), (1, .int i1), (2, .int i2), (3, .int i3), (4, .int i4)], [], (x, σ21, y))) (by subst e22; rfl) ?_
              exact qE.wk (t_m_buildGoals_142_j132 hd ih h) ⟨rfl, rfl, rfl, rfl, rfl, rfl, rfl, trivial⟩ rfl
            · rw [if_neg c20] at h
              rw [if_pos c20]
              refine qE.steps 3 hd9 (s' := (if ¬ (p12 = Int32.ofInt 63) then 113 else 109, [(7, .int p12), (6, .int p10.1), (0, .ref 64), (1, .int i1), (2, .int i2), (3, .int i3), (4, .int i4)], [], (x, p10.2, y))) rfl ?_
              by_cases c23 : p12 = Int32.ofInt 63
              · rw [if_pos c23] at h
                rw [if_neg (not_not_intro c23)]
                obtain ⟨σ24, e25, h⟩ := qlet_ex h
                refine qE.steps 12 hd9 (s' := (132, [(8, .int (Int32.ofInt 5)), (7, .int p12), (6, .int p10.1), (0, .ref 64), (1, .int i1), (2, .int i2), (3, .int i3), (4, .int i4)], [], (x, σ24, y))) (by subst e25; rfl) ?_
                exact qE.wk (t_m_buildGoals_142_j132 hd ih h) ⟨rfl, rfl, rfl, rfl, rfl, rfl, rfl, trivial⟩ rfl
              · rw [if_neg c23] at h
                rw [if_pos c23]
                refine qE.steps 5 hd9 (s' := (132, [(8, .int (Int32.ofInt 1)), (7, .int p12), (6, .int p10.1), (0, .ref 64), (1, .int i1), (2, .int i2), (3, .int i3), (4, .int i4)], [], (x, p10.2, y))) rfl ?_
                exact qE.wk (t_m_buildGoals_142_j132 hd ih h) ⟨rfl, rfl, rfl, rfl, rfl, rfl, rfl, trivial⟩ rfl
theorem t_m_buildGoals_142 {S : Nat × (Nat → Int32)} {d : Nat} {x : qC} {y : Int64 × Nat} {i1 : Int32} {i2 : Int32} {σ : qC} {p : (Int32 × qC)} (hd : 11 ≤ d) (h : m_buildGoals_142 i1 i2 σ = some p) : qE S d jm_12_buildGoals_142 (0, [(0, .ref 64), (1, .int i1), (2, .int i2)], [], (x, σ, y)) ((.inl (some (.int p.1)), (x, p.2, y))) := by
  have hd9 : 9 ≤ d := by omega
  unfold m_buildGoals_142 at h
  refine qE.steps 4 hd9 (s' := (5, [(4, .int (Int32.ofInt (-1))), (3, .int (Int32.ofInt (-1))), (0, .ref 64), (1, .int i1), (2, .int i2)], [], (x, σ, y))) rfl ?_
  exact qE.wk (t_m_buildGoals_142_l5 hd qF h) ⟨rfl, rfl, rfl, rfl, rfl, trivial⟩ rfl
def m_step_157 (σ : qC) : Option (Int32 × qC) := if σ.1 6430 = Int32.ofInt 500 then qlet (upS σ 6411 (Int32.ofInt 3)) (fun σ2 => if σ2.1 6411 = 0 then some (Int32.ofInt 1, σ2) else some (Int32.ofInt 0, σ2)) else qlet (upS σ 6430 ((σ.1 6430) + (Int32.ofInt 1))) (fun σ5 => if σ5.1 6411 = 0 then some (Int32.ofInt 1, σ5) else some (Int32.ofInt 0, σ5))
theorem t_m_step_157 {S : Nat × (Nat → Int32)} {d : Nat} {x : qC} {y : Int64 × Nat} {σ : qC} {p : (Int32 × qC)} (hd : 9 ≤ d) (h : m_step_157 σ = some p) : qE S d jm_12_step_157 (0, [(0, .ref 64)], [], (x, σ, y)) ((.inl (some (.int p.1)), (x, p.2, y))) := by
  have hd9 : 9 ≤ d := by omega
  unfold m_step_157 at h
  refine qE.steps 4 hd9 (s' := (if ¬ (σ.1 6430 = Int32.ofInt 500) then 18 else 10, [(0, .ref 64)], [], (x, σ, y))) rfl ?_
  by_cases c1 : σ.1 6430 = Int32.ofInt 500
  · rw [if_pos c1] at h
    rw [if_neg (not_not_intro c1)]
    obtain ⟨σ2, e3, h⟩ := qlet_ex h
    refine qE.steps 3 hd9 (s' := (15, [(0, .ref 64)], [], (x, σ2, y))) (by subst e3; rfl) ?_
    refine qE.steps 4 hd9 (s' := (if ¬ (σ2.1 6411 = 0) then 39 else 35, [(0, .ref 64)], [], (x, σ2, y))) rfl ?_
    by_cases c4 : σ2.1 6411 = 0
    · rw [if_pos c4] at h
      rw [if_neg (not_not_intro c4)]
      refine qE.steps 2 hd9 (s' := (40, [(0, .ref 64)], [.int (Int32.ofInt 1)], (x, σ2, y))) rfl ?_
      obtain rfl := Option.some.inj h
      exact qE.ret hd9 rfl rfl
    · rw [if_neg c4] at h
      rw [if_pos c4]
      refine qE.steps 1 hd9 (s' := (40, [(0, .ref 64)], [.int (Int32.ofInt 0)], (x, σ2, y))) rfl ?_
      obtain rfl := Option.some.inj h
      exact qE.ret hd9 rfl rfl
  · rw [if_neg c1] at h
    rw [if_pos c1]
    obtain ⟨σ5, e6, h⟩ := qlet_ex h
    refine qE.steps 6 hd9 (s' := (28, [(0, .ref 64)], [], (x, σ5, y))) (by subst e6; rfl) ?_
    refine qE.steps 3 hd9 (s' := (if ¬ (σ5.1 6411 = 0) then 39 else 35, [(0, .ref 64)], [], (x, σ5, y))) rfl ?_
    by_cases c7 : σ5.1 6411 = 0
    · rw [if_pos c7] at h
      rw [if_neg (not_not_intro c7)]
      refine qE.steps 2 hd9 (s' := (40, [(0, .ref 64)], [.int (Int32.ofInt 1)], (x, σ5, y))) rfl ?_
      obtain rfl := Option.some.inj h
      exact qE.ret hd9 rfl rfl
    · rw [if_neg c7] at h
      rw [if_pos c7]
      refine qE.steps 1 hd9 (s' := (40, [(0, .ref 64)], [.int (Int32.ofInt 0)], (x, σ5, y))) rfl ?_
      obtain rfl := Option.some.inj h
      exact qE.ret hd9 rfl rfl
def m_fits_151_j116 (K28 : Int32 → Int32 → Int32 → Int32 → Int32 → qC → Option Int32) (i1 : Int32) (i2 : Int32) (i3 : Int32) (i4 : Int32) (i5 : Int32) (σ : qC) : Option Int32 := if i3 = 0 then (aget (σ.2 73) 24000 i2).bind (fun x2 => if i4 = x2 then some (Int32.ofInt 1) else some (Int32.ofInt 0)) else K28 i1 i2 i3 i4 (i5 + Int32.ofInt 1) σ
def m_fits_151_j103 (K28 : Int32 → Int32 → Int32 → Int32 → Int32 → qC → Option Int32) (i1 : Int32) (i2 : Int32) (i3 : Int32) (i4 : Int32) (i5 : Int32) (i6 : Int32) (σ : qC) : Option Int32 := if i6 = Int32.ofInt 41 then m_fits_151_j116 K28 i1 i2 (i3 + Int32.ofInt (-1)) (i4 + Int32.ofInt 1) i5 σ else m_fits_151_j116 K28 i1 i2 i3 (i4 + Int32.ofInt 1) i5 σ
def m_fits_151_j91 (K28 : Int32 → Int32 → Int32 → Int32 → Int32 → qC → Option Int32) (i1 : Int32) (i2 : Int32) (i3 : Int32) (i4 : Int32) (i5 : Int32) (i6 : Int32) (σ : qC) : Option Int32 := if i6 = Int32.ofInt 44 then if i3 = Int32.ofInt 1 then m_fits_151_j103 K28 i1 i2 i3 i4 i5 i6 σ else if i6 = Int32.ofInt 41 then m_fits_151_j116 K28 i1 i2 (i3 + Int32.ofInt (-1)) i4 i5 σ else m_fits_151_j116 K28 i1 i2 i3 i4 i5 σ else if i6 = Int32.ofInt 41 then m_fits_151_j116 K28 i1 i2 (i3 + Int32.ofInt (-1)) i4 i5 σ else m_fits_151_j116 K28 i1 i2 i3 i4 i5 σ
def m_fits_151_j79 (K28 : Int32 → Int32 → Int32 → Int32 → Int32 → qC → Option Int32) (i1 : Int32) (i2 : Int32) (i3 : Int32) (i4 : Int32) (i5 : Int32) (i6 : Int32) (σ : qC) : Option Int32 := if i6 = Int32.ofInt 40 then if i3 = Int32.ofInt 1 then m_fits_151_j103 K28 i1 i2 i3 i4 i5 i6 σ else m_fits_151_j91 K28 i1 i2 i3 i4 i5 i6 σ else m_fits_151_j91 K28 i1 i2 i3 i4 i5 i6 σ
def m_fits_151_j69 (K28 : Int32 → Int32 → Int32 → Int32 → Int32 → qC → Option Int32) (i1 : Int32) (i2 : Int32) (i3 : Int32) (i4 : Int32) (i5 : Int32) (i6 : Int32) (σ : qC) : Option Int32 := if i6 = Int32.ofInt 40 then m_fits_151_j79 K28 i1 i2 (i3 + Int32.ofInt 1) i4 i5 i6 σ else m_fits_151_j79 K28 i1 i2 i3 i4 i5 i6 σ
def m_fits_151_l28 : Nat → Int32 → Int32 → Int32 → Int32 → Int32 → qC → Option Int32
  | 0, _, _, _, _, _, _ => none
  | n + 1, i1, i2, i3, i4, i5, σ => (aget (σ.2 67) 12 i1).bind (fun x1 => if x1 ≤ i5 then (aget (σ.2 73) 24000 i2).bind (fun x4 => if i4 = x4 then some (Int32.ofInt 1) else some (Int32.ofInt 0)) else (aget (σ.2 66) 624 ((i1 * (Int32.ofInt 48)) + i5)).bind (fun x7 => if i5 = Int32.ofInt 1 then if x7 = Int32.ofInt 40 then m_fits_151_j69 (m_fits_151_l28 n) i1 i2 i3 i4 i5 x7 σ else (aget (σ.2 73) 24000 i2).bind (fun x11 => if i4 = x11 then some (Int32.ofInt 1) else some (Int32.ofInt 0)) else m_fits_151_j69 (m_fits_151_l28 n) i1 i2 i3 i4 i5 x7 σ))
def m_fits_151 (i1 : Int32) (i2 : Int32) (σ : qC) : Option Int32 := (aget (σ.2 66) 624 (i1 * (Int32.ofInt 48))).bind (fun x1 => (aget (σ.2 72) 24000 i2).bind (fun x3 => if x1 = x3 then m_fits_151_l28 qF i1 i2 (Int32.ofInt 0) (Int32.ofInt 0) (Int32.ofInt 1) σ else some (Int32.ofInt 0)))
theorem t_m_fits_151_j116 {S : Nat × (Nat → Int32)} {d : Nat} {x : qC} {y : Int64 × Nat} (hd : 9 ≤ d) {K28 : Int32 → Int32 → Int32 → Int32 → Int32 → qC → Option Int32} (hK28 : ∀ {i1 : Int32} {i2 : Int32} {i3 : Int32} {i4 : Int32} {i5 : Int32} {σ : qC} {p : Int32}, K28 i1 i2 i3 i4 i5 σ = some p → qE S d jm_12_fits_151 (28, [(0, .ref 64), (1, .int i1), (2, .int i2), (3, .int i3), (4, .int i4), (5, .int i5)], [], (x, σ, y)) ((.inl (some (.int p)), (x, σ, y)))) {i1 : Int32} {i2 : Int32} {i3 : Int32} {i4 : Int32} {i5 : Int32} {σ : qC} {p : Int32} (h : m_fits_151_j116 K28 i1 i2 i3 i4 i5 σ = some p) : qE S d jm_12_fits_151 (116, [(0, .ref 64), (1, .int i1), (2, .int i2), (3, .int i3), (4, .int i4), (5, .int i5)], [], (x, σ, y)) ((.inl (some (.int p)), (x, σ, y))) := by
  have hd9 : 9 ≤ d := by omega
  unfold m_fits_151_j116 at h
  refine qE.steps 2 hd9 (s' := (if ¬ (i3 = 0) then 123 else 120, [(0, .ref 64), (1, .int i1), (2, .int i2), (3, .int i3), (4, .int i4), (5, .int i5)], [], (x, σ, y))) rfl ?_
  by_cases c1 : i3 = 0
  · rw [if_pos c1] at h
    rw [if_neg (not_not_intro c1)]
    refine qE.steps 5 hd9 (s' := (136, [(0, .ref 64), (1, .int i1), (2, .int i2), (3, .int i3), (4, .int i4), (5, .int i5)], [.int i2, .ref 73, .int i4], (x, σ, y))) rfl ?_
    obtain ⟨x2, e3, h⟩ := obind h
    refine qE.iald hd9 e3 rfl rfl ?_
    refine qE.steps 1 hd9 (s' := (if ¬ (i4 = x2) then 144 else 140, [(0, .ref 64), (1, .int i1), (2, .int i2), (3, .int i3), (4, .int i4), (5, .int i5)], [], (x, σ, y))) rfl ?_
    by_cases c4 : i4 = x2
    · rw [if_pos c4] at h
      rw [if_neg (not_not_intro c4)]
      refine qE.steps 2 hd9 (s' := (145, [(0, .ref 64), (1, .int i1), (2, .int i2), (3, .int i3), (4, .int i4), (5, .int i5)], [.int (Int32.ofInt 1)], (x, σ, y))) rfl ?_
      obtain rfl := Option.some.inj h
      exact qE.ret hd9 rfl rfl
    · rw [if_neg c4] at h
      rw [if_pos c4]
      refine qE.steps 1 hd9 (s' := (145, [(0, .ref 64), (1, .int i1), (2, .int i2), (3, .int i3), (4, .int i4), (5, .int i5)], [.int (Int32.ofInt 0)], (x, σ, y))) rfl ?_
      obtain rfl := Option.some.inj h
      exact qE.ret hd9 rfl rfl
  · rw [if_neg c1] at h
    rw [if_pos c1]
    refine qE.steps 2 hd9 (s' := (28, [(5, .int (i5 + Int32.ofInt 1)), (0, .ref 64), (1, .int i1), (2, .int i2), (3, .int i3), (4, .int i4)], [], (x, σ, y))) rfl ?_
    exact qE.wk (hK28 h) ⟨rfl, rfl, rfl, rfl, rfl, rfl, trivial⟩ rfl
theorem t_m_fits_151_j103 {S : Nat × (Nat → Int32)} {d : Nat} {x : qC} {y : Int64 × Nat} (hd : 9 ≤ d) {K28 : Int32 → Int32 → Int32 → Int32 → Int32 → qC → Option Int32} (hK28 : ∀ {i1 : Int32} {i2 : Int32} {i3 : Int32} {i4 : Int32} {i5 : Int32} {σ : qC} {p : Int32}, K28 i1 i2 i3 i4 i5 σ = some p → qE S d jm_12_fits_151 (28, [(0, .ref 64), (1, .int i1), (2, .int i2), (3, .int i3), (4, .int i4), (5, .int i5)], [], (x, σ, y)) ((.inl (some (.int p)), (x, σ, y)))) {i1 : Int32} {i2 : Int32} {i3 : Int32} {i4 : Int32} {i5 : Int32} {i6 : Int32} {σ : qC} {p : Int32} (h : m_fits_151_j103 K28 i1 i2 i3 i4 i5 i6 σ = some p) : qE S d jm_12_fits_151 (103, [(0, .ref 64), (1, .int i1), (2, .int i2), (3, .int i3), (4, .int i4), (5, .int i5), (6, .int i6)], [], (x, σ, y)) ((.inl (some (.int p)), (x, σ, y))) := by
  have hd9 : 9 ≤ d := by omega
  unfold m_fits_151_j103 at h
  refine qE.steps 4 hd9 (s' := (if ¬ (i6 = Int32.ofInt 41) then 116 else 113, [(4, .int (i4 + Int32.ofInt 1)), (0, .ref 64), (1, .int i1), (2, .int i2), (3, .int i3), (5, .int i5), (6, .int i6)], [], (x, σ, y))) rfl ?_
  by_cases c1 : i6 = Int32.ofInt 41
  · rw [if_pos c1] at h
    rw [if_neg (not_not_intro c1)]
    refine qE.steps 1 hd9 (s' := (116, [(3, .int (i3 + Int32.ofInt (-1))), (4, .int (i4 + Int32.ofInt 1)), (0, .ref 64), (1, .int i1), (2, .int i2), (5, .int i5), (6, .int i6)], [], (x, σ, y))) rfl ?_
    exact qE.wk (t_m_fits_151_j116 hd hK28 h) ⟨rfl, rfl, rfl, rfl, rfl, rfl, trivial⟩ rfl
  · rw [if_neg c1] at h
    rw [if_pos c1]
    exact qE.wk (t_m_fits_151_j116 hd hK28 h) ⟨rfl, rfl, rfl, rfl, rfl, rfl, trivial⟩ rfl
theorem t_m_fits_151_j91 {S : Nat × (Nat → Int32)} {d : Nat} {x : qC} {y : Int64 × Nat} (hd : 9 ≤ d) {K28 : Int32 → Int32 → Int32 → Int32 → Int32 → qC → Option Int32} (hK28 : ∀ {i1 : Int32} {i2 : Int32} {i3 : Int32} {i4 : Int32} {i5 : Int32} {σ : qC} {p : Int32}, K28 i1 i2 i3 i4 i5 σ = some p → qE S d jm_12_fits_151 (28, [(0, .ref 64), (1, .int i1), (2, .int i2), (3, .int i3), (4, .int i4), (5, .int i5)], [], (x, σ, y)) ((.inl (some (.int p)), (x, σ, y)))) {i1 : Int32} {i2 : Int32} {i3 : Int32} {i4 : Int32} {i5 : Int32} {i6 : Int32} {σ : qC} {p : Int32} (h : m_fits_151_j91 K28 i1 i2 i3 i4 i5 i6 σ = some p) : qE S d jm_12_fits_151 (91, [(0, .ref 64), (1, .int i1), (2, .int i2), (3, .int i3), (4, .int i4), (5, .int i5), (6, .int i6)], [], (x, σ, y)) ((.inl (some (.int p)), (x, σ, y))) := by
  have hd9 : 9 ≤ d := by omega
  unfold m_fits_151_j91 at h
  refine qE.steps 3 hd9 (s' := (if ¬ (i6 = Int32.ofInt 44) then 106 else 98, [(0, .ref 64), (1, .int i1), (2, .int i2), (3, .int i3), (4, .int i4), (5, .int i5), (6, .int i6)], [], (x, σ, y))) rfl ?_
  by_cases c1 : i6 = Int32.ofInt 44
  · rw [if_pos c1] at h
    rw [if_neg (not_not_intro c1)]
    refine qE.steps 3 hd9 (s' := (if ¬ (i3 = Int32.ofInt 1) then 106 else 103, [(0, .ref 64), (1, .int i1), (2, .int i2), (3, .int i3), (4, .int i4), (5, .int i5), (6, .int i6)], [], (x, σ, y))) rfl ?_
    by_cases c2 : i3 = Int32.ofInt 1
    · rw [if_pos c2] at h
      rw [if_neg (not_not_intro c2)]
      exact qE.wk (t_m_fits_151_j103 hd hK28 h) ⟨rfl, rfl, rfl, rfl, rfl, rfl, rfl, trivial⟩ rfl
    · rw [if_neg c2] at h
      rw [if_pos c2]
      refine qE.steps 3 hd9 (s' := (if ¬ (i6 = Int32.ofInt 41) then 116 else 113, [(0, .ref 64), (1, .int i1), (2, .int i2), (3, .int i3), (4, .int i4), (5, .int i5), (6, .int i6)], [], (x, σ, y))) rfl ?_
      by_cases c3 : i6 = Int32.ofInt 41
      · rw [if_pos c3] at h
        rw [if_neg (not_not_intro c3)]
        refine qE.steps 1 hd9 (s' := (116, [(3, .int (i3 + Int32.ofInt (-1))), (0, .ref 64), (1, .int i1), (2, .int i2), (4, .int i4), (5, .int i5), (6, .int i6)], [], (x, σ, y))) rfl ?_
        exact qE.wk (t_m_fits_151_j116 hd hK28 h) ⟨rfl, rfl, rfl, rfl, rfl, rfl, trivial⟩ rfl
      · rw [if_neg c3] at h
        rw [if_pos c3]
        exact qE.wk (t_m_fits_151_j116 hd hK28 h) ⟨rfl, rfl, rfl, rfl, rfl, rfl, trivial⟩ rfl
  · rw [if_neg c1] at h
    rw [if_pos c1]
    refine qE.steps 3 hd9 (s' := (if ¬ (i6 = Int32.ofInt 41) then 116 else 113, [(0, .ref 64), (1, .int i1), (2, .int i2), (3, .int i3), (4, .int i4), (5, .int i5), (6, .int i6)], [], (x, σ, y))) rfl ?_
    by_cases c4 : i6 = Int32.ofInt 41
    · rw [if_pos c4] at h
      rw [if_neg (not_not_intro c4)]
      refine qE.steps 1 hd9 (s' := (116, [(3, .int (i3 + Int32.ofInt (-1))), (0, .ref 64), (1, .int i1), (2, .int i2), (4, .int i4), (5, .int i5), (6, .int i6)], [], (x, σ, y))) rfl ?_
      exact qE.wk (t_m_fits_151_j116 hd hK28 h) ⟨rfl, rfl, rfl, rfl, rfl, rfl, trivial⟩ rfl
    · rw [if_neg c4] at h
      rw [if_pos c4]
      exact qE.wk (t_m_fits_151_j116 hd hK28 h) ⟨rfl, rfl, rfl, rfl, rfl, rfl, trivial⟩ rfl
theorem t_m_fits_151_j79 {S : Nat × (Nat → Int32)} {d : Nat} {x : qC} {y : Int64 × Nat} (hd : 9 ≤ d) {K28 : Int32 → Int32 → Int32 → Int32 → Int32 → qC → Option Int32} (hK28 : ∀ {i1 : Int32} {i2 : Int32} {i3 : Int32} {i4 : Int32} {i5 : Int32} {σ : qC} {p : Int32}, K28 i1 i2 i3 i4 i5 σ = some p → qE S d jm_12_fits_151 (28, [(0, .ref 64), (1, .int i1), (2, .int i2), (3, .int i3), (4, .int i4), (5, .int i5)], [], (x, σ, y)) ((.inl (some (.int p)), (x, σ, y)))) {i1 : Int32} {i2 : Int32} {i3 : Int32} {i4 : Int32} {i5 : Int32} {i6 : Int32} {σ : qC} {p : Int32} (h : m_fits_151_j79 K28 i1 i2 i3 i4 i5 i6 σ = some p) : qE S d jm_12_fits_151 (79, [(0, .ref 64), (1, .int i1), (2, .int i2), (3, .int i3), (4, .int i4), (5, .int i5), (6, .int i6)], [], (x, σ, y)) ((.inl (some (.int p)), (x, σ, y))) := by
  have hd9 : 9 ≤ d := by omega
  unfold m_fits_151_j79 at h
  refine qE.steps 3 hd9 (s' := (if ¬ (i6 = Int32.ofInt 40) then 91 else 86, [(0, .ref 64), (1, .int i1), (2, .int i2), (3, .int i3), (4, .int i4), (5, .int i5), (6, .int i6)], [], (x, σ, y))) rfl ?_
  by_cases c1 : i6 = Int32.ofInt 40
  · rw [if_pos c1] at h
    rw [if_neg (not_not_intro c1)]
    refine qE.steps 3 hd9 (s' := (if i3 = Int32.ofInt 1 then 103 else 91, [(0, .ref 64), (1, .int i1), (2, .int i2), (3, .int i3), (4, .int i4), (5, .int i5), (6, .int i6)], [], (x, σ, y))) rfl ?_
    by_cases c2 : i3 = Int32.ofInt 1
    · rw [if_pos c2] at h
      rw [if_pos c2]
      exact qE.wk (t_m_fits_151_j103 hd hK28 h) ⟨rfl, rfl, rfl, rfl, rfl, rfl, rfl, trivial⟩ rfl
    · rw [if_neg c2] at h
      rw [if_neg c2]
      exact qE.wk (t_m_fits_151_j91 hd hK28 h) ⟨rfl, rfl, rfl, rfl, rfl, rfl, rfl, trivial⟩ rfl
  · rw [if_neg c1] at h
    rw [if_pos c1]
    exact qE.wk (t_m_fits_151_j91 hd hK28 h) ⟨rfl, rfl, rfl, rfl, rfl, rfl, rfl, trivial⟩ rfl
theorem t_m_fits_151_j69 {S : Nat × (Nat → Int32)} {d : Nat} {x : qC} {y : Int64 × Nat} (hd : 9 ≤ d) {K28 : Int32 → Int32 → Int32 → Int32 → Int32 → qC → Option Int32} (hK28 : ∀ {i1 : Int32} {i2 : Int32} {i3 : Int32} {i4 : Int32} {i5 : Int32} {σ : qC} {p : Int32}, K28 i1 i2 i3 i4 i5 σ = some p → qE S d jm_12_fits_151 (28, [(0, .ref 64), (1, .int i1), (2, .int i2), (3, .int i3), (4, .int i4), (5, .int i5)], [], (x, σ, y)) ((.inl (some (.int p)), (x, σ, y)))) {i1 : Int32} {i2 : Int32} {i3 : Int32} {i4 : Int32} {i5 : Int32} {i6 : Int32} {σ : qC} {p : Int32} (h : m_fits_151_j69 K28 i1 i2 i3 i4 i5 i6 σ = some p) : qE S d jm_12_fits_151 (69, [(0, .ref 64), (1, .int i1), (2, .int i2), (3, .int i3), (4, .int i4), (5, .int i5), (6, .int i6)], [], (x, σ, y)) ((.inl (some (.int p)), (x, σ, y))) := by
  have hd9 : 9 ≤ d := by omega
  unfold m_fits_151_j69 at h
  refine qE.steps 3 hd9 (s' := (if ¬ (i6 = Int32.ofInt 40) then 79 else 76, [(0, .ref 64), (1, .int i1), (2, .int i2), (3, .int i3), (4, .int i4), (5, .int i5), (6, .int i6)], [], (x, σ, y))) rfl ?_
  by_cases c1 : i6 = Int32.ofInt 40
  · rw [if_pos c1] at h
    rw [if_neg (not_not_intro c1)]
    refine qE.steps 1 hd9 (s' := (79, [(3, .int (i3 + Int32.ofInt 1)), (0, .ref 64), (1, .int i1), (2, .int i2), (4, .int i4), (5, .int i5), (6, .int i6)], [], (x, σ, y))) rfl ?_
    exact qE.wk (t_m_fits_151_j79 hd hK28 h) ⟨rfl, rfl, rfl, rfl, rfl, rfl, rfl, trivial⟩ rfl
  · rw [if_neg c1] at h
    rw [if_pos c1]
    exact qE.wk (t_m_fits_151_j79 hd hK28 h) ⟨rfl, rfl, rfl, rfl, rfl, rfl, rfl, trivial⟩ rfl
theorem t_m_fits_151_l28 {S : Nat × (Nat → Int32)} {d : Nat} {x : qC} {y : Int64 × Nat} (hd : 9 ≤ d) : ∀ (n : Nat) {i1 : Int32} {i2 : Int32} {i3 : Int32} {i4 : Int32} {i5 : Int32} {σ : qC} {p : Int32}, m_fits_151_l28 n i1 i2 i3 i4 i5 σ = some p → qE S d jm_12_fits_151 (28, [(0, .ref 64), (1, .int i1), (2, .int i2), (3, .int i3), (4, .int i4), (5, .int i5)], [], (x, σ, y)) ((.inl (some (.int p)), (x, σ, y))) := by
  have hd9 : 9 ≤ d := by omega
  intro n
  induction n with
  | zero =>
    intros
    rename_i h
    unfold m_fits_151_l28 at h
    cases h
  | succ n ih =>
    intro i1 i2 i3 i4 i5 σ p h
    unfold m_fits_151_l28 at h
    refine qE.steps 4 hd9 (s' := (35, [(0, .ref 64), (1, .int i1), (2, .int i2), (3, .int i3), (4, .int i4), (5, .int i5)], [.int i1, .ref 67, .int i5], (x, σ, y))) rfl ?_
    obtain ⟨x1, e2, h⟩ := obind h
    refine qE.iald hd9 e2 rfl rfl ?_
    refine qE.steps 1 hd9 (s' := (if x1 ≤ i5 then 129 else 39, [(0, .ref 64), (1, .int i1), (2, .int i2), (3, .int i3), (4, .int i4), (5, .int i5)], [], (x, σ, y))) rfl ?_
    by_cases c3 : x1 ≤ i5
    · rw [if_pos c3] at h
      rw [if_pos c3]
      refine qE.steps 4 hd9 (s' := (136, [(0, .ref 64), (1, .int i1), (2, .int i2), (3, .int i3), (4, .int i4), (5, .int i5)], [.int i2, .ref 73, .int i4], (x, σ, y))) rfl ?_
      obtain ⟨x4, e5, h⟩ := obind h
      refine qE.iald hd9 e5 rfl rfl ?_
      refine qE.steps 1 hd9 (s' := (if ¬ (i4 = x4) then 144 else 140, [(0, .ref 64), (1, .int i1), (2, .int i2), (3, .int i3), (4, .int i4), (5, .int i5)], [], (x, σ, y))) rfl ?_
      by_cases c6 : i4 = x4
      · rw [if_pos c6] at h
        rw [if_neg (not_not_intro c6)]
        refine qE.steps 2 hd9 (s' := (145, [(0, .ref 64), (1, .int i1), (2, .int i2), (3, .int i3), (4, .int i4), (5, .int i5)], [.int (Int32.ofInt 1)], (x, σ, y))) rfl ?_
        obtain rfl := Option.some.inj h
        exact qE.ret hd9 rfl rfl
      · rw [if_neg c6] at h
        rw [if_pos c6]
        refine qE.steps 1 hd9 (s' := (145, [(0, .ref 64), (1, .int i1), (2, .int i2), (3, .int i3), (4, .int i4), (5, .int i5)], [.int (Int32.ofInt 0)], (x, σ, y))) rfl ?_
        obtain rfl := Option.some.inj h
        exact qE.ret hd9 rfl rfl
    · rw [if_neg c3] at h
      rw [if_neg c3]
      refine qE.steps 7 hd9 (s' := (50, [(0, .ref 64), (1, .int i1), (2, .int i2), (3, .int i3), (4, .int i4), (5, .int i5)], [.int ((i1 * (Int32.ofInt 48)) + i5), .ref 66], (x, σ, y))) rfl ?_
      obtain ⟨x7, e8, h⟩ := obind h
      refine qE.iald hd9 e8 rfl rfl ?_
      refine qE.steps 4 hd9 (s' := (if ¬ (i5 = Int32.ofInt 1) then 69 else 59, [(6, .int x7), (0, .ref 64), (1, .int i1), (2, .int i2), (3, .int i3), (4, .int i4), (5, .int i5)], [], (x, σ, y))) rfl ?_
      by_cases c9 : i5 = Int32.ofInt 1
      · rw [if_pos c9] at h
        rw [if_neg (not_not_intro c9)]
        refine qE.steps 3 hd9 (s' := (if x7 = Int32.ofInt 40 then 69 else 66, [(6, .int x7), (0, .ref 64), (1, .int i1), (2, .int i2), (3, .int i3), (4, .int i4), (5, .int i5)], [], (x, σ, y))) rfl ?_
        by_cases c10 : x7 = Int32.ofInt 40
        · rw [if_pos c10] at h
          rw [if_pos c10]
          exact qE.wk (t_m_fits_151_j69 hd ih h) ⟨rfl, rfl, rfl, rfl, rfl, rfl, rfl, trivial⟩ rfl
        · rw [if_neg c10] at h
          rw [if_neg c10]
          refine qE.steps 5 hd9 (s' := (136, [(6, .int x7), (0, .ref 64), (1, .int i1), (2, .int i2), (3, .int i3), (4, .int i4), (5, .int i5)], [.int i2, .ref 73, .int i4], (x, σ, y))) rfl ?_
          obtain ⟨x11, e12, h⟩ := obind h
          refine qE.iald hd9 e12 rfl rfl ?_
          refine qE.steps 1 hd9 (s' := (if ¬ (i4 = x11) then 144 else 140, [(6, .int x7), (0, .ref 64), (1, .int i1), (2, .int i2), (3, .int i3), (4, .int i4), (5, .int i5)], [], (x, σ, y))) rfl ?_
          by_cases c13 : i4 = x11
          · rw [if_pos c13] at h
            rw [if_neg (not_not_intro c13)]
            refine qE.steps 2 hd9 (s' := (145, [(6, .int x7), (0, .ref 64), (1, .int i1), (2, .int i2), (3, .int i3), (4, .int i4), (5, .int i5)], [.int (Int32.ofInt 1)], (x, σ, y))) rfl ?_
            obtain rfl := Option.some.inj h
            exact qE.ret hd9 rfl rfl
          · rw [if_neg c13] at h
            rw [if_pos c13]
            refine qE.steps 1 hd9 (s' := (145, [(6, .int x7), (0, .ref 64), (1, .int i1), (2, .int i2), (3, .int i3), (4, .int i4), (5, .int i5)], [.int (Int32.ofInt 0)], (x, σ, y))) rfl ?_
            obtain rfl := Option.some.inj h
            exact qE.ret hd9 rfl rfl
      · rw [if_neg c9] at h
        rw [if_pos c9]
        exact qE.wk (t_m_fits_151_j69 hd ih h) ⟨rfl, rfl, rfl, rfl, rfl, rfl, rfl, trivial⟩ rfl
theorem t_m_fits_151 {S : Nat × (Nat → Int32)} {d : Nat} {x : qC} {y : Int64 × Nat} {i1 : Int32} {i2 : Int32} {σ : qC} {p : Int32} (hd : 9 ≤ d) (h : m_fits_151 i1 i2 σ = some p) : qE S d jm_12_fits_151 (0, [(0, .ref 64), (1, .int i1), (2, .int i2)], [], (x, σ, y)) ((.inl (some (.int p)), (x, σ, y))) := by
  have hd9 : 9 ≤ d := by omega
  unfold m_fits_151 at h
  refine qE.steps 5 hd9 (s' := (8, [(0, .ref 64), (1, .int i1), (2, .int i2)], [.int (i1 * (Int32.ofInt 48)), .ref 66], (x, σ, y))) rfl ?_
  obtain ⟨x1, e2, h⟩ := obind h
  refine qE.iald hd9 e2 rfl rfl ?_
  refine qE.steps 3 hd9 (s' := (14, [(0, .ref 64), (1, .int i1), (2, .int i2)], [.int i2, .ref 72, .int x1], (x, σ, y))) rfl ?_
  obtain ⟨x3, e4, h⟩ := obind h
  refine qE.iald hd9 e4 rfl rfl ?_
  refine qE.steps 1 hd9 (s' := (if x1 = x3 then 20 else 18, [(0, .ref 64), (1, .int i1), (2, .int i2)], [], (x, σ, y))) rfl ?_
  by_cases c5 : x1 = x3
  · rw [if_pos c5] at h
    rw [if_pos c5]
    refine qE.steps 6 hd9 (s' := (28, [(5, .int (Int32.ofInt 1)), (4, .int (Int32.ofInt 0)), (3, .int (Int32.ofInt 0)), (0, .ref 64), (1, .int i1), (2, .int i2)], [], (x, σ, y))) rfl ?_
    exact qE.wk (t_m_fits_151_l28 hd qF h) ⟨rfl, rfl, rfl, rfl, rfl, rfl, trivial⟩ rfl
  · rw [if_neg c5] at h
    rw [if_neg c5]
    refine qE.steps 1 hd9 (s' := (19, [(0, .ref 64), (1, .int i1), (2, .int i2)], [.int (Int32.ofInt 0)], (x, σ, y))) rfl ?_
    obtain rfl := Option.some.inj h
    exact qE.ret hd9 rfl rfl
def m_nextFit_150_l2 : Nat → Int32 → Int32 → qC → Option Int32
  | 0, _, _, _ => none
  | n + 1, i2, i3, σ => if σ.1 6408 ≤ i3 then some i3 else (m_fits_151 i3 i2 σ).bind (fun p2 => if p2 = 0 then (m_nextFit_150_l2 n) i2 (i3 + Int32.ofInt 1) σ else some i3)
def m_nextFit_150 (i1 : Int32) (i2 : Int32) (σ : qC) : Option Int32 := m_nextFit_150_l2 qF i2 i1 σ
theorem t_m_nextFit_150_l2 {S : Nat × (Nat → Int32)} {d : Nat} {x : qC} {y : Int64 × Nat} (hd : 10 ≤ d) : ∀ (n : Nat) {i2 : Int32} {i3 : Int32} {σ : qC} {p : Int32}, m_nextFit_150_l2 n i2 i3 σ = some p → qE S d jm_12_nextFit_150 (2, [(0, .ref 64), (2, .int i2), (3, .int i3)], [], (x, σ, y)) ((.inl (some (.int p)), (x, σ, y))) := by
  have hd9 : 9 ≤ d := by omega
  intro n
  induction n with
  | zero =>
    intros
    rename_i h
    unfold m_nextFit_150_l2 at h
    cases h
  | succ n ih =>
    intro i2 i3 σ p h
    unfold m_nextFit_150_l2 at h
    refine qE.steps 4 hd9 (s' := (if σ.1 6408 ≤ i3 then 25 else 10, [(0, .ref 64), (2, .int i2), (3, .int i3)], [], (x, σ, y))) rfl ?_
    by_cases c1 : σ.1 6408 ≤ i3
    · rw [if_pos c1] at h
      rw [if_pos c1]
      refine qE.steps 1 hd9 (s' := (26, [(0, .ref 64), (2, .int i2), (3, .int i3)], [.int i3], (x, σ, y))) rfl ?_
      obtain rfl := Option.some.inj h
      exact qE.ret hd9 rfl rfl
    · rw [if_neg c1] at h
      rw [if_neg c1]
      refine qE.steps 3 hd9 (s' := (13, [(0, .ref 64), (2, .int i2), (3, .int i3)], [.int i2, .int i3, .ref 64], (x, σ, y))) rfl ?_
      obtain ⟨p2, e3, h⟩ := obind h
      refine qE.call hd9 rfl rfl rfl rfl (t_m_fits_151 (by omega) e3) ?_
      refine qE.steps 0 hd9 (s' := (16, [(0, .ref 64), (2, .int i2), (3, .int i3)], [.int p2], (x, σ, y))) rfl ?_
      refine qE.steps 1 hd9 (s' := (if ¬ (p2 = 0) then 25 else 19, [(0, .ref 64), (2, .int i2), (3, .int i3)], [], (x, σ, y))) rfl ?_
      by_cases c4 : p2 = 0
      · rw [if_pos c4] at h
        rw [if_neg (not_not_intro c4)]
        refine qE.steps 2 hd9 (s' := (2, [(3, .int (i3 + Int32.ofInt 1)), (0, .ref 64), (2, .int i2)], [], (x, σ, y))) rfl ?_
        exact qE.wk (ih h) ⟨rfl, rfl, rfl, trivial⟩ rfl
      · rw [if_neg c4] at h
        rw [if_pos c4]
        refine qE.steps 1 hd9 (s' := (26, [(0, .ref 64), (2, .int i2), (3, .int i3)], [.int i3], (x, σ, y))) rfl ?_
        obtain rfl := Option.some.inj h
        exact qE.ret hd9 rfl rfl
theorem t_m_nextFit_150 {S : Nat × (Nat → Int32)} {d : Nat} {x : qC} {y : Int64 × Nat} {i1 : Int32} {i2 : Int32} {σ : qC} {p : Int32} (hd : 10 ≤ d) (h : m_nextFit_150 i1 i2 σ = some p) : qE S d jm_12_nextFit_150 (0, [(0, .ref 64), (1, .int i1), (2, .int i2)], [], (x, σ, y)) ((.inl (some (.int p)), (x, σ, y))) := by
  have hd9 : 9 ≤ d := by omega
  unfold m_nextFit_150 at h
  refine qE.steps 2 hd9 (s' := (2, [(3, .int i1), (0, .ref 64), (1, .int i1), (2, .int i2)], [], (x, σ, y))) rfl ?_
  exact qE.wk (t_m_nextFit_150_l2 hd qF h) ⟨rfl, rfl, rfl, trivial⟩ rfl
def m_pair_154 (i1 : Int32) (i2 : Int32) (σ : qC) : Option qC := (aput σ 90 2200 (σ.1 6436) i1).bind (fun σ1 => (aput σ1 91 2200 (σ1.1 6436) i2).bind (fun σ3 => qlet (upS σ3 6436 ((σ3.1 6436) + (Int32.ofInt 1))) (fun σ5 => some σ5)))
theorem t_m_pair_154 {S : Nat × (Nat → Int32)} {d : Nat} {x : qC} {y : Int64 × Nat} {i1 : Int32} {i2 : Int32} {σ : qC} {p : qC} (hd : 9 ≤ d) (h : m_pair_154 i1 i2 σ = some p) : qE S d jm_12_pair_154 (0, [(0, .ref 64), (1, .int i1), (2, .int i2)], [], (x, σ, y)) ((.inl none, (x, p, y))) := by
  have hd9 : 9 ≤ d := by omega
  unfold m_pair_154 at h
  refine qE.steps 5 hd9 (s' := (9, [(0, .ref 64), (1, .int i1), (2, .int i2)], [.int i1, .int (σ.1 6436), .ref 90], (x, σ, y))) rfl ?_
  obtain ⟨σ1, e2, h⟩ := obind h
  refine qE.iastM hd9 e2 rfl rfl ?_
  refine qE.steps 5 hd9 (s' := (19, [(0, .ref 64), (1, .int i1), (2, .int i2)], [.int i2, .int (σ1.1 6436), .ref 91], (x, σ1, y))) rfl ?_
  obtain ⟨σ3, e4, h⟩ := obind h
  refine qE.iastM hd9 e4 rfl rfl ?_
  obtain ⟨σ5, e6, h⟩ := qlet_ex h
  refine qE.steps 6 hd9 (s' := (30, [(0, .ref 64), (1, .int i1), (2, .int i2)], [], (x, σ5, y))) (by subst e6; rfl) ?_
  obtain rfl := Option.some.inj h
  exact qE.ret hd9 rfl rfl
def m_change_160 (i1 : Int32) (i2 : Int32) (σ : qC) : Option qC := (aput σ 83 6000 (σ.1 6432) i1).bind (fun σ1 => (aput σ1 84 6000 (σ1.1 6432) i2).bind (fun σ3 => qlet (upS σ3 6432 ((σ3.1 6432) + (Int32.ofInt 1))) (fun σ5 => some σ5)))
theorem t_m_change_160 {S : Nat × (Nat → Int32)} {d : Nat} {x : qC} {y : Int64 × Nat} {i1 : Int32} {i2 : Int32} {σ : qC} {p : qC} (hd : 9 ≤ d) (h : m_change_160 i1 i2 σ = some p) : qE S d jm_12_change_160 (0, [(0, .ref 64), (1, .int i1), (2, .int i2)], [], (x, σ, y)) ((.inl none, (x, p, y))) := by
  have hd9 : 9 ≤ d := by omega
  unfold m_change_160 at h
  refine qE.steps 5 hd9 (s' := (9, [(0, .ref 64), (1, .int i1), (2, .int i2)], [.int i1, .int (σ.1 6432), .ref 83], (x, σ, y))) rfl ?_
  obtain ⟨σ1, e2, h⟩ := obind h
  refine qE.iastM hd9 e2 rfl rfl ?_
  refine qE.steps 5 hd9 (s' := (19, [(0, .ref 64), (1, .int i1), (2, .int i2)], [.int i2, .int (σ1.1 6432), .ref 84], (x, σ1, y))) rfl ?_
  obtain ⟨σ3, e4, h⟩ := obind h
  refine qE.iastM hd9 e4 rfl rfl ?_
  obtain ⟨σ5, e6, h⟩ := qlet_ex h
  refine qE.steps 6 hd9 (s' := (30, [(0, .ref 64), (1, .int i1), (2, .int i2)], [], (x, σ5, y))) (by subst e6; rfl) ?_
  obtain rfl := Option.some.inj h
  exact qE.ret hd9 rfl rfl
