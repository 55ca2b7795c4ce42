/-! BY PROGRAM (wip/whole/gendc.py): each method as a function over the numbers -/
def m_add_132_l44 : Nat → Int32 → Int32 → qC → Option (Int32 × qC)
  | 0, _, _, _ => none
  | n + 1, i1, i2, σ => if σ.1 6407 ≤ i2 then (aput σ 67 12 (σ.1 6408) (σ.1 6407)).bind (fun σ2 => qlet (upS σ2 6407 (Int32.ofInt 0)) (fun σ4 => (m_bad_130 i1 σ4).bind (fun p6 => if p6.1 = 0 then qlet (upS p6.2 6438 (Int32.ofInt 0)) (fun σ9 => qlet (upS σ9 6408 ((σ9.1 6408) + (Int32.ofInt 1))) (fun σ11 => some (σ11.1 6408, σ11))) else some (Int32.ofInt 0, p6.2)))) else (aget (σ.2 65) 48 i2).bind (fun x13 => (aput σ 66 624 (((σ.1 6408) * (Int32.ofInt 48)) + i2) x13).bind (fun σ15 => (m_add_132_l44 n) i1 (i2 + Int32.ofInt 1) σ15))
def m_add_132 (σ : qC) : Option (Int32 × qC) := if σ.1 6408 = Int32.ofInt 12 then qlet (upS σ 6407 (Int32.ofInt 0)) (fun σ2 => (m_fail_131 (Int32.ofInt 2) σ2).bind (fun p4 => some (p4.1, p4.2))) else qlet (upS σ 6410 (Int32.ofInt 0)) (fun σ6 => (m_readClause_133 σ6).bind (fun p8 => if p8.1 = 0 then qlet (upS p8.2 6409 (p8.2.1 6410)) (fun σ11 => m_add_132_l44 qF p8.1 (Int32.ofInt 0) σ11) else m_add_132_l44 qF p8.1 (Int32.ofInt 0) p8.2))
theorem t_m_add_132_l44 {S : Nat × (Nat → Int32)} {d : Nat} {x : qC} {y : Int64 × Nat} (hd : 14 ≤ d) : ∀ (n : Nat) {i1 : Int32} {i2 : Int32} {σ : qC} {p : (Int32 × qC)}, m_add_132_l44 n i1 i2 σ = some p → qE S d jm_12_add_132 (44, [(0, .ref 64), (1, .int i1), (2, .int i2)], [], (x, σ, y)) ((.inl (some (.int p.1)), (x, p.2, y))) := by
  have hd9 : 9 ≤ d := by omega
  intro n
  induction n with
  | zero =>
    intros
    rename_i h
    unfold m_add_132_l44 at h
    cases h
  | succ n ih =>
    intro i1 i2 σ p h
    unfold m_add_132_l44 at h
    refine qE.steps 4 hd9 (s' := (if σ.1 6407 ≤ i2 then 78 else 52, [(0, .ref 64), (1, .int i1), (2, .int i2)], [], (x, σ, y))) rfl ?_
    by_cases c1 : σ.1 6407 ≤ i2
    · rw [if_pos c1] at h
      rw [if_pos c1]
      refine qE.steps 6 hd9 (s' := (90, [(0, .ref 64), (1, .int i1), (2, .int i2)], [.int (σ.1 6407), .int (σ.1 6408), .ref 67], (x, σ, y))) rfl ?_
      obtain ⟨σ2, e3, h⟩ := obind h
      refine qE.iastM hd9 e3 rfl rfl ?_
      obtain ⟨σ4, e5, h⟩ := qlet_ex h
      refine qE.steps 3 hd9 (s' := (96, [(0, .ref 64), (1, .int i1), (2, .int i2)], [], (x, σ4, y))) (by subst e5; rfl) ?_
      refine qE.steps 2 hd9 (s' := (98, [(0, .ref 64), (1, .int i1), (2, .int i2)], [.int i1, .ref 64], (x, σ4, y))) rfl ?_
      obtain ⟨p6, e7, h⟩ := obind h
      refine qE.call hd9 rfl rfl rfl rfl (t_m_bad_130 (by omega) e7) ?_
      refine qE.steps 0 hd9 (s' := (101, [(0, .ref 64), (1, .int i1), (2, .int i2)], [.int p6.1], (x, p6.2, y))) rfl ?_
      refine qE.steps 1 hd9 (s' := (if p6.1 = 0 then 106 else 104, [(0, .ref 64), (1, .int i1), (2, .int i2)], [], (x, p6.2, y))) rfl ?_
      by_cases c8 : p6.1 = 0
      · rw [if_pos c8] at h
        rw [if_pos c8]
        obtain ⟨σ9, e10, h⟩ := qlet_ex h
        refine qE.steps 3 hd9 (s' := (111, [(0, .ref 64), (1, .int i1), (2, .int i2)], [], (x, σ9, y))) (by subst e10; rfl) ?_
        obtain ⟨σ11, e12, h⟩ := qlet_ex h
        refine qE.steps 6 hd9 (s' := (121, [(0, .ref 64), (1, .int i1), (2, .int i2)], [], (x, σ11, y))) (by subst e12; rfl) ?_
        refine qE.steps 2 hd9 (s' := (125, [(0, .ref 64), (1, .int i1), (2, .int i2)], [.int (σ11.1 6408)], (x, σ11, y))) rfl ?_
        obtain rfl := Option.some.inj h
        exact qE.ret hd9 rfl rfl
      · rw [if_neg c8] at h
        rw [if_neg c8]
        refine qE.steps 1 hd9 (s' := (105, [(0, .ref 64), (1, .int i1), (2, .int i2)], [.int (Int32.ofInt 0)], (x, p6.2, y))) rfl ?_
        obtain rfl := Option.some.inj h
        exact qE.ret hd9 rfl rfl
    · rw [if_neg c1] at h
      rw [if_neg c1]
      refine qE.steps 11 hd9 (s' := (70, [(0, .ref 64), (1, .int i1), (2, .int i2)], [.int i2, .ref 65, .int (((σ.1 6408) * (Int32.ofInt 48)) + i2), .ref 66], (x, σ, y))) rfl ?_
      obtain ⟨x13, e14, h⟩ := obind h
      refine qE.iald hd9 e14 rfl rfl ?_
      obtain ⟨σ15, e16, h⟩ := obind h
      refine qE.iastM hd9 e16 rfl rfl ?_
      refine qE.steps 2 hd9 (s' := (44, [(2, .int (i2 + Int32.ofInt 1)), (0, .ref 64), (1, .int i1)], [], (x, σ15, y))) rfl ?_
      exact qE.wk (ih h) ⟨rfl, rfl, rfl, trivial⟩ rfl
theorem t_m_add_132 {S : Nat × (Nat → Int32)} {d : Nat} {x : qC} {y : Int64 × Nat} {σ : qC} {p : (Int32 × qC)} (hd : 14 ≤ d) (h : m_add_132 σ = some p) : qE S d jm_12_add_132 (0, [(0, .ref 64)], [], (x, σ, y)) ((.inl (some (.int p.1)), (x, p.2, y))) := by
  have hd9 : 9 ≤ d := by omega
  unfold m_add_132 at h
  refine qE.steps 4 hd9 (s' := (if ¬ (σ.1 6408 = Int32.ofInt 12) then 20 else 9, [(0, .ref 64)], [], (x, σ, y))) rfl ?_
  by_cases c1 : σ.1 6408 = Int32.ofInt 12
  · rw [if_pos c1] at h
    rw [if_neg (not_not_intro c1)]
    obtain ⟨σ2, e3, h⟩ := qlet_ex h
    refine qE.steps 3 hd9 (s' := (14, [(0, .ref 64)], [], (x, σ2, y))) (by subst e3; rfl) ?_
    refine qE.steps 2 hd9 (s' := (16, [(0, .ref 64)], [.int (Int32.ofInt 2), .ref 64], (x, σ2, y))) rfl ?_
    obtain ⟨p4, e5, h⟩ := obind h
    refine qE.call hd9 rfl rfl rfl rfl (t_m_fail_131 (by omega) e5) ?_
    refine qE.steps 0 hd9 (s' := (19, [(0, .ref 64)], [.int p4.1], (x, p4.2, y))) rfl ?_
    obtain rfl := Option.some.inj h
    exact qE.ret hd9 rfl rfl
  · rw [if_neg c1] at h
    rw [if_pos c1]
    obtain ⟨σ6, e7, h⟩ := qlet_ex h
    refine qE.steps 3 hd9 (s' := (25, [(0, .ref 64)], [], (x, σ6, y))) (by subst e7; rfl) ?_
    refine qE.steps 1 hd9 (s' := (26, [(0, .ref 64)], [.ref 64], (x, σ6, y))) rfl ?_
    obtain ⟨p8, e9, h⟩ := obind h
    refine qE.call hd9 rfl rfl rfl rfl (t_m_readClause_133 (by omega) e9) ?_
    refine qE.steps 0 hd9 (s' := (29, [(0, .ref 64)], [.int p8.1], (x, p8.2, y))) rfl ?_
    refine qE.steps 3 hd9 (s' := (if ¬ (p8.1 = 0) then 42 else 34, [(1, .int p8.1), (0, .ref 64)], [], (x, p8.2, y))) rfl ?_
    by_cases c10 : p8.1 = 0
    · rw [if_pos c10] at h
      rw [if_neg (not_not_intro c10)]
      obtain ⟨σ11, e12, h⟩ := qlet_ex h
      refine qE.steps 4 hd9 (s' := (42, [(1, .int p8.1), (0, .ref 64)], [], (x, σ11, y))) (by subst e12; rfl) ?_
      refine qE.steps 2 hd9 (s' := (44, [(2, .int (Int32.ofInt 0)), (1, .int p8.1), (0, .ref 64)], [], (x, σ11, y))) rfl ?_
      exact qE.wk (t_m_add_132_l44 hd qF h) ⟨rfl, rfl, rfl, trivial⟩ rfl
    · rw [if_neg c10] at h
      rw [if_pos c10]
      refine qE.steps 2 hd9 (s' := (44, [(2, .int (Int32.ofInt 0)), (1, .int p8.1), (0, .ref 64)], [], (x, p8.2, y))) rfl ?_
      exact qE.wk (t_m_add_132_l44 hd qF h) ⟨rfl, rfl, rfl, trivial⟩ rfl
def m_drop_138_l60 (K36 : Int32 → qC → Option qC) : Nat → Int32 → Int32 → qC → Option qC
  | 0, _, _, _ => none
  | n + 1, i2, i3, σ => if Int32.ofInt 48 ≤ i3 then K36 (i2 + Int32.ofInt 1) σ else (aget (σ.2 66) 624 (((i2 * (Int32.ofInt 48)) + (Int32.ofInt 48)) + i3)).bind (fun x2 => (aput σ 66 624 ((i2 * (Int32.ofInt 48)) + i3) x2).bind (fun σ4 => (m_drop_138_l60 K36 n) i2 (i3 + Int32.ofInt 1) σ4))
def m_drop_138_l36 : Nat → Int32 → qC → Option qC
  | 0, _, _ => none
  | n + 1, i2, σ => if σ.1 6408 ≤ i2 then some σ else (aget (σ.2 67) 12 (i2 + (Int32.ofInt 1))).bind (fun x2 => (aput σ 67 12 i2 x2).bind (fun σ4 => m_drop_138_l60 (m_drop_138_l36 n) qF i2 (Int32.ofInt 0) σ4))
def m_drop_138 (i1 : Int32) (σ : qC) : Option qC := (m_bad_130 (m_in_129 i1 (Int32.ofInt 0) ((σ.1 6408) - (Int32.ofInt 1))) σ).bind (fun p1 => if p1.1 = 0 then qlet (upS p1.2 6438 (Int32.ofInt 0)) (fun σ4 => qlet (upS σ4 6408 ((σ4.1 6408) - (Int32.ofInt 1))) (fun σ6 => m_drop_138_l36 qF i1 σ6)) else some p1.2)
theorem t_m_drop_138_l60 {S : Nat × (Nat → Int32)} {d : Nat} {x : qC} {y : Int64 × Nat} (hd : 10 ≤ d) {K36 : Int32 → qC → Option qC} (hK36 : ∀ {i2 : Int32} {σ : qC} {p : qC}, K36 i2 σ = some p → qE S d jm_12_drop_138 (36, [(0, .ref 64), (2, .int i2)], [], (x, σ, y)) ((.inl none, (x, p, y)))) : ∀ (n : Nat) {i2 : Int32} {i3 : Int32} {σ : qC} {p : qC}, m_drop_138_l60 K36 n i2 i3 σ = some p → qE S d jm_12_drop_138 (60, [(0, .ref 64), (2, .int i2), (3, .int i3)], [], (x, σ, y)) ((.inl none, (x, p, y))) := by
  have hd9 : 9 ≤ d := by omega
  intro n
  induction n with
  | zero =>
    intros
    rename_i h
    unfold m_drop_138_l60 at h
    cases h
  | succ n ih =>
    intro i2 i3 σ p h
    unfold m_drop_138_l60 at h
    refine qE.steps 3 hd9 (s' := (if Int32.ofInt 48 ≤ i3 then 97 else 66, [(0, .ref 64), (2, .int i2), (3, .int i3)], [], (x, σ, y))) rfl ?_
    by_cases c1 : Int32.ofInt 48 ≤ i3
    · rw [if_pos c1] at h
      rw [if_pos c1]
      refine qE.steps 2 hd9 (s' := (36, [(2, .int (i2 + Int32.ofInt 1)), (0, .ref 64), (3, .int i3)], [], (x, σ, y))) rfl ?_
      exact qE.wk (hK36 h) ⟨rfl, rfl, trivial⟩ rfl
    · rw [if_neg c1] at h
      rw [if_neg c1]
      refine qE.steps 16 hd9 (s' := (89, [(0, .ref 64), (2, .int i2), (3, .int i3)], [.int (((i2 * (Int32.ofInt 48)) + (Int32.ofInt 48)) + i3), .ref 66, .int ((i2 * (Int32.ofInt 48)) + i3), .ref 66], (x, σ, y))) rfl ?_
      obtain ⟨x2, e3, h⟩ := obind h
      refine qE.iald hd9 e3 rfl rfl ?_
      obtain ⟨σ4, e5, h⟩ := obind h
      refine qE.iastM hd9 e5 rfl rfl ?_
      refine qE.steps 2 hd9 (s' := (60, [(3, .int (i3 + Int32.ofInt 1)), (0, .ref 64), (2, .int i2)], [], (x, σ4, y))) rfl ?_
      exact qE.wk (ih h) ⟨rfl, rfl, rfl, trivial⟩ rfl
theorem t_m_drop_138_l36 {S : Nat × (Nat → Int32)} {d : Nat} {x : qC} {y : Int64 × Nat} (hd : 10 ≤ d) : ∀ (n : Nat) {i2 : Int32} {σ : qC} {p : qC}, m_drop_138_l36 n i2 σ = some p → qE S d jm_12_drop_138 (36, [(0, .ref 64), (2, .int i2)], [], (x, σ, y)) ((.inl none, (x, p, y))) := by
  have hd9 : 9 ≤ d := by omega
  intro n
  induction n with
  | zero =>
    intros
    rename_i h
    unfold m_drop_138_l36 at h
    cases h
  | succ n ih =>
    intro i2 σ p h
    unfold m_drop_138_l36 at h
    refine qE.steps 4 hd9 (s' := (if σ.1 6408 ≤ i2 then 103 else 44, [(0, .ref 64), (2, .int i2)], [], (x, σ, y))) rfl ?_
    by_cases c1 : σ.1 6408 ≤ i2
    · rw [if_pos c1] at h
      rw [if_pos c1]
      obtain rfl := Option.some.inj h
      exact qE.ret hd9 rfl rfl
    · rw [if_neg c1] at h
      rw [if_neg c1]
      refine qE.steps 8 hd9 (s' := (56, [(0, .ref 64), (2, .int i2)], [.int (i2 + (Int32.ofInt 1)), .ref 67, .int i2, .ref 67], (x, σ, y))) rfl ?_
      obtain ⟨x2, e3, h⟩ := obind h
      refine qE.iald hd9 e3 rfl rfl ?_
      obtain ⟨σ4, e5, h⟩ := obind h
      refine qE.iastM hd9 e5 rfl rfl ?_
      refine qE.steps 2 hd9 (s' := (60, [(3, .int (Int32.ofInt 0)), (0, .ref 64), (2, .int i2)], [], (x, σ4, y))) rfl ?_
      exact qE.wk (t_m_drop_138_l60 hd ih qF h) ⟨rfl, rfl, rfl, trivial⟩ rfl
theorem t_m_drop_138 {S : Nat × (Nat → Int32)} {d : Nat} {x : qC} {y : Int64 × Nat} {i1 : Int32} {σ : qC} {p : qC} (hd : 10 ≤ d) (h : m_drop_138 i1 σ = some p) : qE S d jm_12_drop_138 (0, [(0, .ref 64), (1, .int i1)], [], (x, σ, y)) ((.inl none, (x, p, y))) := by
  have hd9 : 9 ≤ d := by omega
  unfold m_drop_138 at h
  refine qE.steps 7 hd9 (s' := (9, [(0, .ref 64), (1, .int i1)], [.int ((σ.1 6408) - (Int32.ofInt 1)), .int (Int32.ofInt 0), .int i1, .ref 64], (x, σ, y))) rfl ?_
  refine qE.call hd9 rfl rfl rfl rfl (t_m_in_129 (by omega) rfl) ?_
  refine qE.steps 0 hd9 (s' := (12, [(0, .ref 64), (1, .int i1)], [.int (m_in_129 i1 (Int32.ofInt 0) ((σ.1 6408) - (Int32.ofInt 1))), .ref 64], (x, σ, y))) rfl ?_
  obtain ⟨p1, e2, h⟩ := obind h
  refine qE.call hd9 rfl rfl rfl rfl (t_m_bad_130 (by omega) e2) ?_
  refine qE.steps 0 hd9 (s' := (15, [(0, .ref 64), (1, .int i1)], [.int p1.1], (x, p1.2, y))) rfl ?_
  refine qE.steps 1 hd9 (s' := (if p1.1 = 0 then 19 else 18, [(0, .ref 64), (1, .int i1)], [], (x, p1.2, y))) rfl ?_
  by_cases c3 : p1.1 = 0
  · rw [if_pos c3] at h
    rw [if_pos c3]
    obtain ⟨σ4, e5, h⟩ := qlet_ex h
    refine qE.steps 3 hd9 (s' := (24, [(0, .ref 64), (1, .int i1)], [], (x, σ4, y))) (by subst e5; rfl) ?_
    obtain ⟨σ6, e7, h⟩ := qlet_ex h
    refine qE.steps 6 hd9 (s' := (34, [(0, .ref 64), (1, .int i1)], [], (x, σ6, y))) (by subst e7; rfl) ?_
    refine qE.steps 2 hd9 (s' := (36, [(2, .int i1), (0, .ref 64), (1, .int i1)], [], (x, σ6, y))) rfl ?_
    exact qE.wk (t_m_drop_138_l36 hd qF h) ⟨rfl, rfl, trivial⟩ rfl
  · rw [if_neg c3] at h
    rw [if_neg c3]
    obtain rfl := Option.some.inj h
    exact qE.ret hd9 rfl rfl
def m_goal_144 (i1 : Int32) (i2 : Int32) (i3 : Int32) (i4 : Int32) (i5 : Int32) (σ : qC) : Option (Int32 × qC) := (aput σ 78 14000 (σ.1 6428) i1).bind (fun σ1 => (aput σ1 79 14000 (σ1.1 6428) i2).bind (fun σ3 => (aput σ3 80 14000 (σ3.1 6428) i3).bind (fun σ5 => (aput σ5 81 14000 (σ5.1 6428) i4).bind (fun σ7 => (aput σ7 82 14000 (σ7.1 6428) i5).bind (fun σ9 => qlet (upS σ9 6428 ((σ9.1 6428) + (Int32.ofInt 1))) (fun σ11 => some ((σ11.1 6428) - (Int32.ofInt 1), σ11)))))))
theorem t_m_goal_144 {S : Nat × (Nat → Int32)} {d : Nat} {x : qC} {y : Int64 × Nat} {i1 : Int32} {i2 : Int32} {i3 : Int32} {i4 : Int32} {i5 : Int32} {σ : qC} {p : (Int32 × qC)} (hd : 9 ≤ d) (h : m_goal_144 i1 i2 i3 i4 i5 σ = some p) : qE S d jm_12_goal_144 (0, [(0, .ref 64), (1, .int i1), (2, .int i2), (3, .int i3), (4, .int i4), (5, .int i5)], [], (x, σ, y)) ((.inl (some (.int p.1)), (x, p.2, y))) := by
  have hd9 : 9 ≤ d := by omega
  unfold m_goal_144 at h
  refine qE.steps 5 hd9 (s' := (9, [(0, .ref 64), (1, .int i1), (2, .int i2), (3, .int i3), (4, .int i4), (5, .int i5)], [.int i1, .int (σ.1 6428), .ref 78], (x, σ, y))) rfl ?_
  obtain ⟨σ1, e2, h⟩ := obind h
  refine qE.iastM hd9 e2 rfl rfl ?_
  refine qE.steps 5 hd9 (s' := (19, [(0, .ref 64), (1, .int i1), (2, .int i2), (3, .int i3), (4, .int i4), (5, .int i5)], [.int i2, .int (σ1.1 6428), .ref 79], (x, σ1, y))) rfl ?_
  obtain ⟨σ3, e4, h⟩ := obind h
  refine qE.iastM hd9 e4 rfl rfl ?_
  refine qE.steps 5 hd9 (s' := (29, [(0, .ref 64), (1, .int i1), (2, .int i2), (3, .int i3), (4, .int i4), (5, .int i5)], [.int i3, .int (σ3.1 6428), .ref 80], (x, σ3, y))) rfl ?_
  obtain ⟨σ5, e6, h⟩ := obind h
  refine qE.iastM hd9 e6 rfl rfl ?_
  refine qE.steps 5 hd9 (s' := (40, [(0, .ref 64), (1, .int i1), (2, .int i2), (3, .int i3), (4, .int i4), (5, .int i5)], [.int i4, .int (σ5.1 6428), .ref 81], (x, σ5, y))) rfl ?_
  obtain ⟨σ7, e8, h⟩ := obind h
  refine qE.iastM hd9 e8 rfl rfl ?_
  refine qE.steps 5 hd9 (s' := (51, [(0, .ref 64), (1, .int i1), (2, .int i2), (3, .int i3), (4, .int i4), (5, .int i5)], [.int i5, .int (σ7.1 6428), .ref 82], (x, σ7, y))) rfl ?_
  obtain ⟨σ9, e10, h⟩ := obind h
  refine qE.iastM hd9 e10 rfl rfl ?_
  obtain ⟨σ11, e12, h⟩ := qlet_ex h
  refine qE.steps 6 hd9 (s' := (62, [(0, .ref 64), (1, .int i1), (2, .int i2), (3, .int i3), (4, .int i4), (5, .int i5)], [], (x, σ11, y))) (by subst e12; rfl) ?_
  refine qE.steps 4 hd9 (s' := (68, [(0, .ref 64), (1, .int i1), (2, .int i2), (3, .int i3), (4, .int i4), (5, .int i5)], [.int ((σ11.1 6428) - (Int32.ofInt 1))], (x, σ11, y))) rfl ?_
  obtain rfl := Option.some.inj h
  exact qE.ret hd9 rfl rfl
def m_at_143 (i1 : Int32) (σ : qC) : Option Int32 := if σ.1 6413 ≤ i1 then some (Int32.ofInt 0) else (aget (σ.2 66) 624 i1).bind (fun x2 => some x2)
theorem t_m_at_143 {S : Nat × (Nat → Int32)} {d : Nat} {x : qC} {y : Int64 × Nat} {i1 : Int32} {σ : qC} {p : Int32} (hd : 9 ≤ d) (h : m_at_143 i1 σ = some p) : qE S d jm_12_at_143 (0, [(0, .ref 64), (1, .int i1)], [], (x, σ, y)) ((.inl (some (.int p)), (x, σ, y))) := by
  have hd9 : 9 ≤ d := by omega
  unfold m_at_143 at h
  refine qE.steps 4 hd9 (s' := (if σ.1 6413 ≤ i1 then 17 else 8, [(0, .ref 64), (1, .int i1)], [], (x, σ, y))) rfl ?_
  by_cases c1 : σ.1 6413 ≤ i1
  · rw [if_pos c1] at h
    rw [if_pos c1]
    refine qE.steps 1 hd9 (s' := (18, [(0, .ref 64), (1, .int i1)], [.int (Int32.ofInt 0)], (x, σ, y))) rfl ?_
    obtain rfl := Option.some.inj h
    exact qE.ret hd9 rfl rfl
  · rw [if_neg c1] at h
    rw [if_neg c1]
    refine qE.steps 3 hd9 (s' := (13, [(0, .ref 64), (1, .int i1)], [.int i1, .ref 66], (x, σ, y))) rfl ?_
    obtain ⟨x2, e3, h⟩ := obind h
    refine qE.iald hd9 e3 rfl rfl ?_
    refine qE.steps 1 hd9 (s' := (18, [(0, .ref 64), (1, .int i1)], [.int x2], (x, σ, y))) rfl ?_
    obtain rfl := Option.some.inj h
    exact qE.ret hd9 rfl rfl
def m_cell_146 (i1 : Int32) (σ : qC) : Option (Int32 × qC) := (aput σ 72 24000 (σ.1 6425) i1).bind (fun σ1 => (aput σ1 73 24000 (σ1.1 6425) (Int32.ofInt 0)).bind (fun σ3 => qlet (upS σ3 6425 ((σ3.1 6425) + (Int32.ofInt 1))) (fun σ5 => some ((σ5.1 6425) - (Int32.ofInt 1), σ5))))
theorem t_m_cell_146 {S : Nat × (Nat → Int32)} {d : Nat} {x : qC} {y : Int64 × Nat} {i1 : Int32} {σ : qC} {p : (Int32 × qC)} (hd : 9 ≤ d) (h : m_cell_146 i1 σ = some p) : qE S d jm_12_cell_146 (0, [(0, .ref 64), (1, .int i1)], [], (x, σ, y)) ((.inl (some (.int p.1)), (x, p.2, y))) := by
  have hd9 : 9 ≤ d := by omega
  unfold m_cell_146 at h
  refine qE.steps 5 hd9 (s' := (9, [(0, .ref 64), (1, .int i1)], [.int i1, .int (σ.1 6425), .ref 72], (x, σ, y))) rfl ?_
  obtain ⟨σ1, e2, h⟩ := obind h
  refine qE.iastM hd9 e2 rfl rfl ?_
  refine qE.steps 5 hd9 (s' := (19, [(0, .ref 64), (1, .int i1)], [.int (Int32.ofInt 0), .int (σ1.1 6425), .ref 73], (x, σ1, y))) rfl ?_
  obtain ⟨σ3, e4, h⟩ := obind h
  refine qE.iastM hd9 e4 rfl rfl ?_
  obtain ⟨σ5, e6, h⟩ := qlet_ex h
  refine qE.steps 6 hd9 (s' := (30, [(0, .ref 64), (1, .int i1)], [], (x, σ5, y))) (by subst e6; rfl) ?_
  refine qE.steps 4 hd9 (s' := (36, [(0, .ref 64), (1, .int i1)], [.int ((σ5.1 6425) - (Int32.ofInt 1))], (x, σ5, y))) rfl ?_
  obtain rfl := Option.some.inj h
  exact qE.ret hd9 rfl rfl
def m_hang_147 (i1 : Int32) (i2 : Int32) (σ : qC) : Option qC := (aget (σ.2 68) 8 i1).bind (fun x1 => (aget (σ.2 73) 24000 x1).bind (fun x3 => (aput σ 74 72000 ((x1 * (Int32.ofInt 3)) + x3) i2).bind (fun σ5 => (aget (σ5.2 73) 24000 x1).bind (fun x7 => (aput σ5 73 24000 x1 (x7 + (Int32.ofInt 1))).bind (fun σ9 => some σ9)))))
theorem t_m_hang_147 {S : Nat × (Nat → Int32)} {d : Nat} {x : qC} {y : Int64 × Nat} {i1 : Int32} {i2 : Int32} {σ : qC} {p : qC} (hd : 9 ≤ d) (h : m_hang_147 i1 i2 σ = some p) : qE S d jm_12_hang_147 (0, [(0, .ref 64), (1, .int i1), (2, .int i2)], [], (x, σ, y)) ((.inl none, (x, p, y))) := by
  have hd9 : 9 ≤ d := by omega
  unfold m_hang_147 at h
  refine qE.steps 3 hd9 (s' := (5, [(0, .ref 64), (1, .int i1), (2, .int i2)], [.int i1, .ref 68], (x, σ, y))) rfl ?_
  obtain ⟨x1, e2, h⟩ := obind h
  refine qE.iald hd9 e2 rfl rfl ?_
  refine qE.steps 9 hd9 (s' := (19, [(3, .int x1), (0, .ref 64), (1, .int i1), (2, .int i2)], [.int x1, .ref 73, .int (x1 * (Int32.ofInt 3)), .ref 74], (x, σ, y))) rfl ?_
  obtain ⟨x3, e4, h⟩ := obind h
  refine qE.iald hd9 e4 rfl rfl ?_
  refine qE.steps 2 hd9 (s' := (22, [(3, .int x1), (0, .ref 64), (1, .int i1), (2, .int i2)], [.int i2, .int ((x1 * (Int32.ofInt 3)) + x3), .ref 74], (x, σ, y))) rfl ?_
  obtain ⟨σ5, e6, h⟩ := obind h
  refine qE.iastM hd9 e6 rfl rfl ?_
  refine qE.steps 4 hd9 (s' := (29, [(3, .int x1), (0, .ref 64), (1, .int i1), (2, .int i2)], [.int x1, .ref 73, .int x1, .ref 73], (x, σ5, y))) rfl ?_
  obtain ⟨x7, e8, h⟩ := obind h
  refine qE.iald hd9 e8 rfl rfl ?_
  refine qE.steps 2 hd9 (s' := (32, [(3, .int x1), (0, .ref 64), (1, .int i1), (2, .int i2)], [.int (x7 + (Int32.ofInt 1)), .int x1, .ref 73], (x, σ5, y))) rfl ?_
  obtain ⟨σ9, e10, h⟩ := obind h
  refine qE.iastM hd9 e10 rfl rfl ?_
  obtain rfl := Option.some.inj h
  exact qE.ret hd9 rfl rfl
def m_build_145_l102 (K2 : Int32 → qC → Option (Int32 × qC)) : Nat → Int32 → Int32 → qC → Option (Int32 × qC)
  | 0, _, _, _ => none
  | n + 1, i1, i3, σ => if i1 ≤ 0 then if i1 = 0 then some (i3, σ) else qlet (upS σ 6412 ((σ.1 6412) + (Int32.ofInt 1))) (fun σ3 => K2 i1 σ3) else (m_at_143 (σ.1 6412) σ).bind (fun p5 => if p5 = Int32.ofInt 41 then qlet (upS σ 6412 ((σ.1 6412) + (Int32.ofInt 1))) (fun σ8 => (aget (σ8.2 68) 8 i1).bind (fun x10 => (m_build_145_l102 K2 n) (i1 + Int32.ofInt (-1)) x10 σ8)) else if i1 = 0 then some (i3, σ) else qlet (upS σ 6412 ((σ.1 6412) + (Int32.ofInt 1))) (fun σ13 => K2 i1 σ13))
def m_build_145_l2 : Nat → Int32 → qC → Option (Int32 × qC)
  | 0, _, _ => none
  | n + 1, i1, σ => (m_at_143 (σ.1 6412) σ).bind (fun p1 => if m_in_129 p1 (Int32.ofInt 65) (Int32.ofInt 90) = 0 then (m_cell_146 p1 σ).bind (fun p4 => qlet (upS p4.2 6412 ((p4.2.1 6412) + (Int32.ofInt 1))) (fun σ6 => if i1 ≤ 0 then if p4.1 < 0 then m_build_145_l102 (m_build_145_l2 n) qF i1 p4.1 σ6 else (m_at_143 (σ6.1 6412) σ6).bind (fun p10 => if p10 = Int32.ofInt 40 then qlet (upS σ6 6412 ((σ6.1 6412) + (Int32.ofInt 1))) (fun σ13 => (aput σ13 68 8 (i1 + Int32.ofInt 1) p4.1).bind (fun σ15 => (m_build_145_l2 n) (i1 + Int32.ofInt 1) σ15)) else m_build_145_l102 (m_build_145_l2 n) qF i1 p4.1 σ6) else (m_hang_147 i1 p4.1 σ6).bind (fun p17 => if p4.1 < 0 then m_build_145_l102 (m_build_145_l2 n) qF i1 p4.1 p17 else (m_at_143 (p17.1 6412) p17).bind (fun p20 => if p20 = Int32.ofInt 40 then qlet (upS p17 6412 ((p17.1 6412) + (Int32.ofInt 1))) (fun σ23 => (aput σ23 68 8 (i1 + Int32.ofInt 1) p4.1).bind (fun σ25 => (m_build_145_l2 n) (i1 + Int32.ofInt 1) σ25)) else m_build_145_l102 (m_build_145_l2 n) qF i1 p4.1 p17)))) else (aget (σ.2 70) 26 (p1 - (Int32.ofInt 65))).bind (fun x27 => qlet (upS σ 6412 ((σ.1 6412) + (Int32.ofInt 1))) (fun σ29 => if i1 ≤ 0 then if (Int32.ofInt (-1)) - x27 < 0 then m_build_145_l102 (m_build_145_l2 n) qF i1 ((Int32.ofInt (-1)) - x27) σ29 else (m_at_143 (σ29.1 6412) σ29).bind (fun p33 => if p33 = Int32.ofInt 40 then qlet (upS σ29 6412 ((σ29.1 6412) + (Int32.ofInt 1))) (fun σ36 => (aput σ36 68 8 (i1 + Int32.ofInt 1) ((Int32.ofInt (-1)) - x27)).bind (fun σ38 => (m_build_145_l2 n) (i1 + Int32.ofInt 1) σ38)) else m_build_145_l102 (m_build_145_l2 n) qF i1 ((Int32.ofInt (-1)) - x27) σ29) else (m_hang_147 i1 ((Int32.ofInt (-1)) - x27) σ29).bind (fun p40 => if (Int32.ofInt (-1)) - x27 < 0 then m_build_145_l102 (m_build_145_l2 n) qF i1 ((Int32.ofInt (-1)) - x27) p40 else (m_at_143 (p40.1 6412) p40).bind (fun p43 => if p43 = Int32.ofInt 40 then qlet (upS p40 6412 ((p40.1 6412) + (Int32.ofInt 1))) (fun σ46 => (aput σ46 68 8 (i1 + Int32.ofInt 1) ((Int32.ofInt (-1)) - x27)).bind (fun σ48 => (m_build_145_l2 n) (i1 + Int32.ofInt 1) σ48)) else m_build_145_l102 (m_build_145_l2 n) qF i1 ((Int32.ofInt (-1)) - x27) p40)))))
def m_build_145 (σ : qC) : Option (Int32 × qC) := m_build_145_l2 qF (Int32.ofInt 0) σ
theorem t_m_build_145_l102 {S : Nat × (Nat → Int32)} {d : Nat} {x : qC} {y : Int64 × Nat} (hd : 10 ≤ d) {K2 : Int32 → qC → Option (Int32 × qC)} (hK2 : ∀ {i1 : Int32} {σ : qC} {p : (Int32 × qC)}, K2 i1 σ = some p → qE S d jm_12_build_145 (2, [(0, .ref 64), (1, .int i1)], [], (x, σ, y)) ((.inl (some (.int p.1)), (x, p.2, y)))) : ∀ (n : Nat) {i1 : Int32} {i3 : Int32} {σ : qC} {p : (Int32 × qC)}, m_build_145_l102 K2 n i1 i3 σ = some p → qE S d jm_12_build_145 (102, [(0, .ref 64), (1, .int i1), (3, .int i3)], [], (x, σ, y)) ((.inl (some (.int p.1)), (x, p.2, y))) := by
  have hd9 : 9 ≤ d := by omega
  intro n
  induction n with
  | zero =>
    intros
    rename_i h
    unfold m_build_145_l102 at h
    cases h
  | succ n ih =>
    intro i1 i3 σ p h
    unfold m_build_145_l102 at h
    refine qE.steps 2 hd9 (s' := (if i1 ≤ 0 then 142 else 106, [(0, .ref 64), (1, .int i1), (3, .int i3)], [], (x, σ, y))) rfl ?_
    by_cases c1 : i1 ≤ 0
    · rw [if_pos c1] at h
      rw [if_pos c1]
      refine qE.steps 2 hd9 (s' := (if ¬ (i1 = 0) then 148 else 146, [(0, .ref 64), (1, .int i1), (3, .int i3)], [], (x, σ, y))) rfl ?_
      by_cases c2 : i1 = 0
      · rw [if_pos c2] at h
        rw [if_neg (not_not_intro c2)]
        refine qE.steps 1 hd9 (s' := (147, [(0, .ref 64), (1, .int i1), (3, .int i3)], [.int i3], (x, σ, y))) rfl ?_
        obtain rfl := Option.some.inj h
        exact qE.ret hd9 rfl rfl
      · rw [if_neg c2] at h
        rw [if_pos c2]
        obtain ⟨σ3, e4, h⟩ := qlet_ex h
        refine qE.steps 6 hd9 (s' := (158, [(0, .ref 64), (1, .int i1), (3, .int i3)], [], (x, σ3, y))) (by subst e4; rfl) ?_
        refine qE.steps 1 hd9 (s' := (2, [(0, .ref 64), (1, .int i1), (3, .int i3)], [], (x, σ3, y))) rfl ?_
        exact qE.wk (hK2 h) ⟨rfl, rfl, trivial⟩ rfl
    · rw [if_neg c1] at h
      rw [if_neg c1]
      refine qE.steps 3 hd9 (s' := (111, [(0, .ref 64), (1, .int i1), (3, .int i3)], [.int (σ.1 6412), .ref 64], (x, σ, y))) rfl ?_
      obtain ⟨p5, e6, h⟩ := obind h
      refine qE.call hd9 rfl rfl rfl rfl (t_m_at_143 (by omega) e6) ?_
      refine qE.steps 0 hd9 (s' := (114, [(0, .ref 64), (1, .int i1), (3, .int i3)], [.int p5], (x, σ, y))) rfl ?_
      refine qE.steps 2 hd9 (s' := (if ¬ (p5 = Int32.ofInt 41) then 142 else 119, [(0, .ref 64), (1, .int i1), (3, .int i3)], [], (x, σ, y))) rfl ?_
      by_cases c7 : p5 = Int32.ofInt 41
      · rw [if_pos c7] at h
        rw [if_neg (not_not_intro c7)]
        obtain ⟨σ8, e9, h⟩ := qlet_ex h
        refine qE.steps 6 hd9 (s' := (129, [(0, .ref 64), (1, .int i1), (3, .int i3)], [], (x, σ8, y))) (by subst e9; rfl) ?_
        refine qE.steps 3 hd9 (s' := (134, [(0, .ref 64), (1, .int i1), (3, .int i3)], [.int i1, .ref 68], (x, σ8, y))) rfl ?_
        obtain ⟨x10, e11, h⟩ := obind h
        refine qE.iald hd9 e11 rfl rfl ?_
        refine qE.steps 3 hd9 (s' := (102, [(1, .int (i1 + Int32.ofInt (-1))), (3, .int x10), (0, .ref 64)], [], (x, σ8, y))) rfl ?_
        exact qE.wk (ih h) ⟨rfl, rfl, rfl, trivial⟩ rfl
      · rw [if_neg c7] at h
        rw [if_pos c7]
        refine qE.steps 2 hd9 (s' := (if ¬ (i1 = 0) then 148 else 146, [(0, .ref 64), (1, .int i1), (3, .int i3)], [], (x, σ, y))) rfl ?_
        by_cases c12 : i1 = 0
        · rw [if_pos c12] at h
          rw [if_neg (not_not_intro c12)]
          refine qE.steps 1 hd9 (s' := (147, [(0, .ref 64), (1, .int i1), (3, .int i3)], [.int i3], (x, σ, y))) rfl ?_
          obtain rfl := Option.some.inj h
          exact qE.ret hd9 rfl rfl
        · rw [if_neg c12] at h
          rw [if_pos c12]
          obtain ⟨σ13, e14, h⟩ := qlet_ex h
          refine qE.steps 6 hd9 (s' := (158, [(0, .ref 64), (1, .int i1), (3, .int i3)], [], (x, σ13, y))) (by subst e14; rfl) ?_
          refine qE.steps 1 hd9 (s' := (2, [(0, .ref 64), (1, .int i1), (3, .int i3)], [], (x, σ13, y))) rfl ?_
          exact qE.wk (hK2 h) ⟨rfl, rfl, trivial⟩ rfl
theorem t_m_build_145_l2 {S : Nat × (Nat → Int32)} {d : Nat} {x : qC} {y : Int64 × Nat} (hd : 10 ≤ d) : ∀ (n : Nat) {i1 : Int32} {σ : qC} {p : (Int32 × qC)}, m_build_145_l2 n i1 σ = some p → qE S d jm_12_build_145 (2, [(0, .ref 64), (1, .int i1)], [], (x, σ, y)) ((.inl (some (.int p.1)), (x, p.2, y))) := by
  have hd9 : 9 ≤ d := by omega
  intro n
  induction n with
  | zero =>
    intros
    rename_i h
    unfold m_build_145_l2 at h
    cases h
  | succ n ih =>
    intro i1 σ p h
    unfold m_build_145_l2 at h
    refine qE.steps 3 hd9 (s' := (7, [(0, .ref 64), (1, .int i1)], [.int (σ.1 6412), .ref 64], (x, σ, y))) rfl ?_
    obtain ⟨p1, e2, h⟩ := obind h
    refine qE.call hd9 rfl rfl rfl rfl (t_m_at_143 (by omega) e2) ?_
    refine qE.steps 0 hd9 (s' := (10, [(0, .ref 64), (1, .int i1)], [.int p1], (x, σ, y))) rfl ?_
    refine qE.steps 4 hd9 (s' := (16, [(2, .int p1), (0, .ref 64), (1, .int i1)], [.int (Int32.ofInt 90), .int (Int32.ofInt 65), .int p1], (x, σ, y))) rfl ?_
    refine qE.call hd9 rfl rfl rfl rfl (t_m_in_129 (by omega) rfl) ?_
    refine qE.steps 0 hd9 (s' := (19, [(2, .int p1), (0, .ref 64), (1, .int i1)], [.int (m_in_129 p1 (Int32.ofInt 65) (Int32.ofInt 90))], (x, σ, y))) rfl ?_
    refine qE.steps 1 hd9 (s' := (if m_in_129 p1 (Int32.ofInt 65) (Int32.ofInt 90) = 0 then 36 else 22, [(2, .int p1), (0, .ref 64), (1, .int i1)], [], (x, σ, y))) rfl ?_
    by_cases c3 : m_in_129 p1 (Int32.ofInt 65) (Int32.ofInt 90) = 0
    · rw [if_pos c3] at h
      rw [if_pos c3]
      refine qE.steps 2 hd9 (s' := (38, [(2, .int p1), (0, .ref 64), (1, .int i1)], [.int p1, .ref 64], (x, σ, y))) rfl ?_
      obtain ⟨p4, e5, h⟩ := obind h
      refine qE.call hd9 rfl rfl rfl rfl (t_m_cell_146 (by omega) e5) ?_
      refine qE.steps 0 hd9 (s' := (41, [(2, .int p1), (0, .ref 64), (1, .int i1)], [.int p4.1], (x, p4.2, y))) rfl ?_
      obtain ⟨σ6, e7, h⟩ := qlet_ex h
      refine qE.steps 7 hd9 (s' := (52, [(3, .int p4.1), (2, .int p1), (0, .ref 64), (1, .int i1)], [], (x, σ6, y))) (by subst e7; rfl) ?_
      refine qE.steps 2 hd9 (s' := (if i1 ≤ 0 then 62 else 56, [(3, .int p4.1), (2, .int p1), (0, .ref 64), (1, .int i1)], [], (x, σ6, y))) rfl ?_
      by_cases c8 : i1 ≤ 0
      · rw [if_pos c8] at h
        rw [if_pos c8]
        refine qE.steps 2 hd9 (s' := (if p4.1 < 0 then 102 else 66, [(3, .int p4.1), (2, .int p1), (0, .ref 64), (1, .int i1)], [], (x, σ6, y))) rfl ?_
        by_cases c9 : p4.1 < 0
        · rw [if_pos c9] at h
          rw [if_pos c9]
          exact qE.wk (t_m_build_145_l102 hd ih qF h) ⟨rfl, rfl, rfl, trivial⟩ rfl
        · rw [if_neg c9] at h
          rw [if_neg c9]
          refine qE.steps 3 hd9 (s' := (71, [(3, .int p4.1), (2, .int p1), (0, .ref 64), (1, .int i1)], [.int (σ6.1 6412), .ref 64], (x, σ6, y))) rfl ?_
          obtain ⟨p10, e11, h⟩ := obind h
          refine qE.call hd9 rfl rfl rfl rfl (t_m_at_143 (by omega) e11) ?_
          refine qE.steps 0 hd9 (s' := (74, [(3, .int p4.1), (2, .int p1), (0, .ref 64), (1, .int i1)], [.int p10], (x, σ6, y))) rfl ?_
          refine qE.steps 2 hd9 (s' := (if ¬ (p10 = Int32.ofInt 40) then 102 else 79, [(3, .int p4.1), (2, .int p1), (0, .ref 64), (1, .int i1)], [], (x, σ6, y))) rfl ?_
          by_cases c12 : p10 = Int32.ofInt 40
          · rw [if_pos c12] at h
            rw [if_neg (not_not_intro c12)]
            obtain ⟨σ13, e14, h⟩ := qlet_ex h
            refine qE.steps 6 hd9 (s' := (89, [(3, .int p4.1), (2, .int p1), (0, .ref 64), (1, .int i1)], [], (x, σ13, y))) (by subst e14; rfl) ?_
            refine qE.steps 5 hd9 (s' := (98, [(1, .int (i1 + Int32.ofInt 1)), (3, .int p4.1), (2, .int p1), (0, .ref 64)], [.int p4.1, .int (i1 + Int32.ofInt 1), .ref 68], (x, σ13, y))) rfl ?_
            obtain ⟨σ15, e16, h⟩ := obind h
            refine qE.iastM hd9 e16 rfl rfl ?_
            refine qE.steps 1 hd9 (s' := (2, [(1, .int (i1 + Int32.ofInt 1)), (3, .int p4.1), (2, .int p1), (0, .ref 64)], [], (x, σ15, y))) rfl ?_
            exact qE.wk (ih h) ⟨rfl, rfl, trivial⟩ rfl
          · rw [if_neg c12] at h
            rw [if_pos c12]
            exact qE.wk (t_m_build_145_l102 hd ih qF h) ⟨rfl, rfl, rfl, trivial⟩ rfl
      · rw [if_neg c8] at h
        rw [if_neg c8]
        refine qE.steps 3 hd9 (s' := (59, [(3, .int p4.1), (2, .int p1), (0, .ref 64), (1, .int i1)], [.int p4.1, .int i1, .ref 64], (x, σ6, y))) rfl ?_
        obtain ⟨p17, e18, h⟩ := obind h
        refine qE.call hd9 rfl rfl rfl rfl (t_m_hang_147 (by omega) e18) ?_
        refine qE.steps 0 hd9 (s' := (62, [(3, .int p4.1), (2, .int p1), (0, .ref 64), (1, .int i1)], [], (x, p17, y))) rfl ?_
        refine qE.steps 2 hd9 (s' := (if p4.1 < 0 then 102 else 66, [(3, .int p4.1), (2, .int p1), (0, .ref 64), (1, .int i1)], [], (x, p17, y))) rfl ?_
        by_cases c19 : p4.1 < 0
        · rw [if_pos c19] at h
          rw [if_pos c19]
          exact qE.wk (t_m_build_145_l102 hd ih qF h) ⟨rfl, rfl, rfl, trivial⟩ rfl
        · rw [if_neg c19] at h
          rw [if_neg c19]
          refine qE.steps 3 hd9 (s' := (71, [(3, .int p4.1), (2, .int p1), (0, .ref 64), (1, .int i1)], [.int (p17.1 6412), .ref 64], (x, p17, y))) rfl ?_
          obtain ⟨p20, e21, h⟩ := obind h
          refine qE.call hd9 rfl rfl rfl rfl (t_m_at_143 (by omega) e21) ?_
          refine qE.steps 0 hd9 (s' := (74, [(3, .int p4.1), (2, .int p1), (0, .ref 64), (1, .int i1)], [.int p20], (x, p17, y))) rfl ?_
          refine qE.steps 2 hd9 (s' := (if ¬ (p20 = Int32.ofInt 40) then 102 else 79, [(3, .int p4.1), (2, .int p1), (0, .ref 64), (1, .int i1)], [], (x, p17, y))) rfl ?_
          by_cases c22 : p20 = Int32.ofInt 40
          · rw [if_pos c22] at h
            rw [if_neg (not_not_intro c22)]
            obtain ⟨σ23, e24, h⟩ := qlet_ex h
            refine qE.steps 6 hd9 (s' := (89, [(3, .int p4.1), (2, .int p1), (0, .ref 64), (1, .int i1)], [], (x, σ23, y))) (by subst e24; rfl) ?_
            refine qE.steps 5 hd9 (s' := (98, [(1, .int (i1 + Int32.ofInt 1)), (3, .int p4.1), (2, .int p1), (0, .ref 64)], [.int p4.1, .int (i1 + Int32.ofInt 1), .ref 68], (x, σ23, y))) rfl ?_
            obtain ⟨σ25, e26, h⟩ := obind h
            refine qE.iastM hd9 e26 rfl rfl ?_
            refine qE.steps 1 hd9 (s' := (2, [(1, .int (i1 + Int32.ofInt 1)), (3, .int p4.1), (2, .int p1), (0, .ref 64)], [], (x, σ25, y))) rfl ?_
            exact qE.wk (ih h) ⟨rfl, rfl, trivial⟩ rfl
          · rw [if_neg c22] at h
            rw [if_pos c22]
            exact qE.wk (t_m_build_145_l102 hd ih qF h) ⟨rfl, rfl, rfl, trivial⟩ rfl
    · rw [if_neg c3] at h
      rw [if_neg c3]
      refine qE.steps 6 hd9 (s' := (31, [(2, .int p1), (0, .ref 64), (1, .int i1)], [.int (p1 - (Int32.ofInt 65)), .ref 70, .int (Int32.ofInt (-1))], (x, σ, y))) rfl ?_
      obtain ⟨x27, e28, h⟩ := obind h
      refine qE.iald hd9 e28 rfl rfl ?_
      obtain ⟨σ29, e30, h⟩ := qlet_ex h
      refine qE.steps 9 hd9 (s' := (52, [(3, .int ((Int32.ofInt (-1)) - x27)), (2, .int p1), (0, .ref 64), (1, .int i1)], [], (x, σ29, y))) (by subst e30; rfl) ?_
      refine qE.steps 2 hd9 (s' := (if i1 ≤ 0 then 62 else 56, [(3, .int ((Int32.ofInt (-1)) - x27)), (2, .int p1), (0, .ref 64), (1, .int i1)], [], (x, σ29, y))) rfl ?_
      by_cases c31 : i1 ≤ 0
      · rw [if_pos c31] at h
        rw [if_pos c31]
        refine qE.steps 2 hd9 (s' := (if (Int32.ofInt (-1)) - x27 < 0 then 102 else 66, [(3, .int ((Int32.ofInt (-1)) - x27)), (2, .int p1), (0, .ref 64), (1, .int i1)], [], (x, σ29, y))) rfl ?_
        by_cases c32 : (Int32.ofInt (-1)) - x27 < 0
        · rw [if_pos c32] at h
          rw [if_pos c32]
          exact qE.wk (t_m_build_145_l102 hd ih qF h) ⟨rfl, rfl, rfl, trivial⟩ rfl
        · rw [if_neg c32] at h
          rw [if_neg c32]
          refine qE.steps 3 hd9 (s' := (71, [(3, .int ((Int32.ofInt (-1)) - x27)), (2, .int p1), (0, .ref 64), (1, .int i1)], [.int (σ29.1 6412), .ref 64], (x, σ29, y))) rfl ?_
          obtain ⟨p33, e34, h⟩ := obind h
          refine qE.call hd9 rfl rfl rfl rfl (t_m_at_143 (by omega) e34) ?_
          refine qE.steps 0 hd9 (s' := (74, [(3, .int ((Int32.ofInt (-1)) - x27)), (2, .int p1), (0, .ref 64), (1, .int i1)], [.int p33], (x, σ29, y))) rfl ?_
          refine qE.steps 2 hd9 (s' := (if ¬ (p33 = Int32.ofInt 40) then 102 else 79, [(3, .int ((Int32.ofInt (-1)) - x27)), (2, .int p1), (0, .ref 64), (1, .int i1)], [], (x, σ29, y))) rfl ?_
          by_cases c35 : p33 = Int32.ofInt 40
          · rw [if_pos c35] at h
            rw [if_neg (not_not_intro c35)]
            obtain ⟨σ36, e37, h⟩ := qlet_ex h
            refine qE.steps 6 hd9 (s' := (89, [(3, .int ((Int32.ofInt (-1)) - x27)), (2, .int p1), (0, .ref 64), (1, .int i1)], [], (x, σ36, y))) (by subst e37; rfl) ?_
            refine qE.steps 5 hd9 (s' := (98, [(1, .int (i1 + Int32.ofInt 1)), (3, .int ((Int32.ofInt (-1)) - x27)), (2, .int p1), (0, .ref 64)], [.int ((Int32.ofInt (-1)) - x27), .int (i1 + Int32.ofInt 1), .ref 68], (x, σ36, y))) rfl ?_
            obtain ⟨σ38, e39, h⟩ := obind h
            refine qE.iastM hd9 e39 rfl rfl ?_
            refine qE.steps 1 hd9 (s' := (2, [(1, .int (i1 + Int32.ofInt 1)), (3, .int ((Int32.ofInt (-1)) - x27)), (2, .int p1), (0, .ref 64)], [], (x, σ38, y))) rfl ?_
            exact qE.wk (ih h) ⟨rfl, rfl, trivial⟩ rfl
          · rw [if_neg c35] at h
            rw [if_pos c35]
            exact qE.wk (t_m_build_145_l102 hd ih qF h) ⟨rfl, rfl, rfl, trivial⟩ rfl
      · rw [if_neg c31] at h
        rw [if_neg c31]
        refine qE.steps 3 hd9 (s' := (59, [(3, .int ((Int32.ofInt (-1)) - x27)), (2, .int p1), (0, .ref 64), (1, .int i1)], [.int ((Int32.ofInt (-1)) - x27), .int i1, .ref 64], (x, σ29, y))) rfl ?_
        obtain ⟨p40, e41, h⟩ := obind h
        refine qE.call hd9 rfl rfl rfl rfl (t_m_hang_147 (by omega) e41) ?_
        refine qE.steps 0 hd9 (s' := (62, [(3, .int ((Int32.ofInt (-1)) - x27)), (2, .int p1), (0, .ref 64), (1, .int i1)], [], (x, p40, y))) rfl ?_
        refine qE.steps 2 hd9 (s' := (if (Int32.ofInt (-1)) - x27 < 0 then 102 else 66, [(3, .int ((Int32.ofInt (-1)) - x27)), (2, .int p1), (0, .ref 64), (1, .int i1)], [], (x, p40, y))) rfl ?_
        by_cases c42 : (Int32.ofInt (-1)) - x27 < 0
        · rw [if_pos c42] at h
          rw [if_pos c42]
          exact qE.wk (t_m_build_145_l102 hd ih qF h) ⟨rfl, rfl, rfl, trivial⟩ rfl
        · rw [if_neg c42] at h
          rw [if_neg c42]
          refine qE.steps 3 hd9 (s' := (71, [(3, .int ((Int32.ofInt (-1)) - x27)), (2, .int p1), (0, .ref 64), (1, .int i1)], [.int (p40.1 6412), .ref 64], (x, p40, y))) rfl ?_
          obtain ⟨p43, e44, h⟩ := obind h
          refine qE.call hd9 rfl rfl rfl rfl (t_m_at_143 (by omega) e44) ?_
          refine qE.steps 0 hd9 (s' := (74, [(3, .int ((Int32.ofInt (-1)) - x27)), (2, .int p1), (0, .ref 64), (1, .int i1)], [.int p43], (x, p40, y))) rfl ?_
          refine qE.steps 2 hd9 (s' := (if ¬ (p43 = Int32.ofInt 40) then 102 else 79, [(3, .int ((Int32.ofInt (-1)) - x27)), (2, .int p1), (0, .ref 64), (1, .int i1)], [], (x, p40, y))) rfl ?_
          by_cases c45 : p43 = Int32.ofInt 40
          · rw [if_pos c45] at h
            rw [if_neg (not_not_intro c45)]
            obtain ⟨σ46, e47, h⟩ := qlet_ex h
            refine qE.steps 6 hd9 (s' := (89, [(3, .int ((Int32.ofInt (-1)) - x27)), (2, .int p1), (0, .ref 64), (1, .int i1)], [], (x, σ46, y))) (by subst e47; rfl) ?_
            refine qE.steps 5 hd9 (s' := (98, [(1, .int (i1 + Int32.ofInt 1)), (3, .int ((Int32.ofInt (-1)) - x27)), (2, .int p1), (0, .ref 64)], [.int ((Int32.ofInt (-1)) - x27), .int (i1 + Int32.ofInt 1), .ref 68], (x, σ46, y))) rfl ?_
            obtain ⟨σ48, e49, h⟩ := obind h
            refine qE.iastM hd9 e49 rfl rfl ?_
            refine qE.steps 1 hd9 (s' := (2, [(1, .int (i1 + Int32.ofInt 1)), (3, .int ((Int32.ofInt (-1)) - x27)), (2, .int p1), (0, .ref 64)], [], (x, σ48, y))) rfl ?_
            exact qE.wk (ih h) ⟨rfl, rfl, trivial⟩ rfl
          · rw [if_neg c45] at h
            rw [if_pos c45]
            exact qE.wk (t_m_build_145_l102 hd ih qF h) ⟨rfl, rfl, rfl, trivial⟩ rfl
theorem t_m_build_145 {S : Nat × (Nat → Int32)} {d : Nat} {x : qC} {y : Int64 × Nat} {σ : qC} {p : (Int32 × qC)} (hd : 10 ≤ d) (h : m_build_145 σ = some p) : qE S d jm_12_build_145 (0, [(0, .ref 64)], [], (x, σ, y)) ((.inl (some (.int p.1)), (x, p.2, y))) := by
  have hd9 : 9 ≤ d := by omega
  unfold m_build_145 at h
  refine qE.steps 2 hd9 (s' := (2, [(1, .int (Int32.ofInt 0)), (0, .ref 64)], [], (x, σ, y))) rfl ?_
  exact qE.wk (t_m_build_145_l2 hd qF h) ⟨rfl, rfl, trivial⟩ rfl
