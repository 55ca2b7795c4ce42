/-! BY PROGRAM (wip/whole/gendc.py): each method as a function over the numbers -/
def m_test_162 (i1 : Int32) (i2 : Int32) (σ : qC) : Option (Int32 × qC) := qlet (upS σ 6440 (Int32.ofInt 1)) (fun σ1 => qlet (upS σ1 6436 (Int32.ofInt 0)) (fun σ3 => (m_pair_154 i1 i2 σ3).bind (fun p5 => (m_same_156 p5).bind (fun p7 => qlet (upS p7.2 6440 (Int32.ofInt 0)) (fun σ9 => (m_undo_152 (σ.1 6432) σ9).bind (fun p11 => if p11.1 6411 ≤ 0 then if p7.1 = 0 then some (Int32.ofInt 0, p11) else if p7.2.1 6439 = 0 then some (Int32.ofInt 2, p11) else some (Int32.ofInt 1, p11) else some (Int32.ofInt 2, p11)))))))
set_option maxRecDepth 20000 in
theorem t_m_test_162 {S : Nat × (Nat → Int32)} {d : Nat} {x : qC} {y : Int64 × Nat} {i1 : Int32} {i2 : Int32} {σ : qC} {p : (Int32 × qC)} (hd : 12 ≤ d) (h : m_test_162 i1 i2 σ = some p) : qE S d jm_12_test_162 (0, [(0, .ref 64), (1, .int i1), (2, .int i2)], [], (x, σ, y)) ((.inl (some (.int p.1)), (x, p.2, y))) := by
  have hd9 : 9 ≤ d := by omega
  unfold m_test_162 at h
  obtain ⟨σ1, e2, h⟩ := qlet_ex h
  refine qE.steps 6 hd9 (s' := (10, [(3, .int (σ.1 6432)), (0, .ref 64), (1, .int i1), (2, .int i2)], [], (x, σ1, y))) (by subst e2; rfl) ?_
  obtain ⟨σ3, e4, h⟩ := qlet_ex h
  refine qE.steps 3 hd9 (s' := (15, [(3, .int (σ.1 6432)), (0, .ref 64), (1, .int i1), (2, .int i2)], [], (x, σ3, y))) (by subst e4; rfl) ?_
  refine qE.steps 3 hd9 (s' := (18, [(3, .int (σ.1 6432)), (0, .ref 64), (1, .int i1), (2, .int i2)], [.int i2, .int i1, .ref 64], (x, σ3, y))) rfl ?_
  obtain ⟨p5, e6, h⟩ := obind h
  refine qE.call hd9 rfl rfl rfl rfl (t_m_pair_154 (by omega) e6) ?_
  refine qE.steps 0 hd9 (s' := (21, [(3, .int (σ.1 6432)), (0, .ref 64), (1, .int i1), (2, .int i2)], [], (x, p5, y))) rfl ?_
  refine qE.steps 1 hd9 (s' := (22, [(3, .int (σ.1 6432)), (0, .ref 64), (1, .int i1), (2, .int i2)], [.ref 64], (x, p5, y))) rfl ?_
  obtain ⟨p7, e8, h⟩ := obind h
  refine qE.call hd9 rfl rfl rfl rfl (t_m_same_156 (by omega) e8) ?_
  refine qE.steps 0 hd9 (s' := (25, [(3, .int (σ.1 6432)), (0, .ref 64), (1, .int i1), (2, .int i2)], [.int p7.1], (x, p7.2, y))) rfl ?_
  obtain ⟨σ9, e10, h⟩ := qlet_ex h
  refine qE.steps 7 hd9 (s' := (38, [(5, .int (p7.2.1 6439)), (4, .int p7.1), (3, .int (σ.1 6432)), (0, .ref 64), (1, .int i1), (2, .int i2)], [], (x, σ9, y))) (by subst e10; rfl) ?_
  refine qE.steps 2 hd9 (s' := (40, [(5, .int (p7.2.1 6439)), (4, .int p7.1), (3, .int (σ.1 6432)), (0, .ref 64), (1, .int i1), (2, .int i2)], [.int (σ.1 6432), .ref 64], (x, σ9, y))) rfl ?_
  obtain ⟨p11, e12, h⟩ := obind h
  refine qE.call hd9 rfl rfl rfl rfl (t_m_undo_152 (by omega) e12) ?_
  refine qE.steps 0 hd9 (s' := (43, [(5, .int (p7.2.1 6439)), (4, .int p7.1), (3, .int (σ.1 6432)), (0, .ref 64), (1, .int i1), (2, .int i2)], [], (x, p11, y))) rfl ?_
  refine qE.steps 3 hd9 (s' := (if p11.1 6411 ≤ 0 then 52 else 50, [(5, .int (p7.2.1 6439)), (4, .int p7.1), (3, .int (σ.1 6432)), (0, .ref 64), (1, .int i1), (2, .int i2)], [], (x, p11, y))) rfl ?_
  by_cases c13 : p11.1 6411 ≤ 0
  · rw [if_pos c13] at h
    rw [if_pos c13]
    refine qE.steps 2 hd9 (s' := (if ¬ (p7.1 = 0) then 61 else 57, [(5, .int (p7.2.1 6439)), (4, .int p7.1), (3, .int (σ.1 6432)), (0, .ref 64), (1, .int i1), (2, .int i2)], [], (x, p11, y))) rfl ?_
    by_cases c14 : p7.1 = 0
    · rw [if_pos c14] at h
      rw [if_neg (not_not_intro c14)]
      refine qE.steps 2 hd9 (s' := (71, [(5, .int (p7.2.1 6439)), (4, .int p7.1), (3, .int (σ.1 6432)), (0, .ref 64), (1, .int i1), (2, .int i2)], [.int (Int32.ofInt 0)], (x, p11, y))) rfl ?_
      obtain rfl := Option.some.inj h
      exact qE.ret hd9 rfl rfl
    · rw [if_neg c14] at h
      rw [if_pos c14]
      refine qE.steps 2 hd9 (s' := (if p7.2.1 6439 = 0 then 70 else 66, [(5, .int (p7.2.1 6439)), (4, .int p7.1), (3, .int (σ.1 6432)), (0, .ref 64), (1, .int i1), (2, .int i2)], [], (x, p11, y))) rfl ?_
      by_cases c15 : p7.2.1 6439 = 0
      · rw [if_pos c15] at h
        rw [if_pos c15]
        refine qE.steps 1 hd9 (s' := (71, [(5, .int (p7.2.1 6439)), (4, .int p7.1), (3, .int (σ.1 6432)), (0, .ref 64), (1, .int i1), (2, .int i2)], [.int (Int32.ofInt 2)], (x, p11, y))) rfl ?_
        obtain rfl := Option.some.inj h
        exact qE.ret hd9 rfl rfl
      · rw [if_neg c15] at h
        rw [if_neg c15]
        refine qE.steps 2 hd9 (s' := (71, [(5, .int (p7.2.1 6439)), (4, .int p7.1), (3, .int (σ.1 6432)), (0, .ref 64), (1, .int i1), (2, .int i2)], [.int (Int32.ofInt 1)], (x, p11, y))) rfl ?_
        obtain rfl := Option.some.inj h
        exact qE.ret hd9 rfl rfl
  · rw [if_neg c13] at h
    rw [if_neg c13]
    refine qE.steps 1 hd9 (s' := (51, [(5, .int (p7.2.1 6439)), (4, .int p7.1), (3, .int (σ.1 6432)), (0, .ref 64), (1, .int i1), (2, .int i2)], [.int (Int32.ofInt 2)], (x, p11, y))) rfl ?_
    obtain rfl := Option.some.inj h
    exact qE.ret hd9 rfl rfl
def m_unify_155_l29 (K13 : Int32 → Int32 → Int32 → qC → Option (Int32 × qC)) : Nat → Int32 → Int32 → Int32 → Int32 → qC → Option (Int32 × qC)
  | 0, _, _, _, _, _ => none
  | n + 1, i1, i2, i3, i4, σ => if i4 < 0 then K13 i1 i2 (i3 + Int32.ofInt 1) σ else (aget (σ.2 85) 1200 i4).bind (fun x2 => (aput σ 93 1200 i2 x2).bind (fun σ4 => (aget (σ4.2 86) 1200 i4).bind (fun x6 => (m_unify_155_l29 K13 n) i1 (i2 + Int32.ofInt 1) i3 x6 σ4)))
def m_unify_155_l163 : Nat → Int32 → Int32 → qC → Option (Int32 × qC)
  | 0, _, _, _ => none
  | n + 1, i3, i4, σ => if i4 < 0 then qlet (upS σ 6429 i3) (fun σ2 => some (Int32.ofInt 1, σ2)) else (aget (σ.2 93) 1200 i4).bind (fun x4 => (m_goal_144 (Int32.ofInt 1) x4 (Int32.ofInt 0) (Int32.ofInt 0) i3 σ).bind (fun p6 => (m_unify_155_l163 n) p6.1 (i4 + Int32.ofInt (-1)) p6.2))
def m_unify_155_l77 : Nat → Int32 → Int32 → Int32 → qC → Option (Int32 × qC)
  | 0, _, _, _, _ => none
  | n + 1, i1, i2, i3, σ => if σ.1 6435 ≤ i3 then m_unify_155_l163 qF i1 (i2 - (Int32.ofInt 1)) σ else (aget (σ.2 89) 600 i3).bind (fun x2 => if x2 = Int32.ofInt 1 then (m_unify_155_l77 n) i1 i2 (i3 + Int32.ofInt 1) σ else (aget (σ.2 87) 600 i3).bind (fun x5 => (aget (σ.2 88) 600 i3).bind (fun x7 => (m_test_162 x5 x7 σ).bind (fun p9 => if p9.1 = Int32.ofInt 2 then some (Int32.ofInt 0, p9.2) else if p9.1 = Int32.ofInt 1 then (m_unify_155_l77 n) i1 i2 (i3 + Int32.ofInt 1) p9.2 else (m_change_160 ((i3 * (Int32.ofInt 5)) + (Int32.ofInt 4)) (Int32.ofInt 0) p9.2).bind (fun p13 => (aput p13 89 600 i3 (Int32.ofInt 1)).bind (fun σ15 => (m_unify_155_l77 n) i1 i2 (i3 + Int32.ofInt 1) σ15))))))
def m_unify_155_l13 : Nat → Int32 → Int32 → Int32 → qC → Option (Int32 × qC)
  | 0, _, _, _, _ => none
  | n + 1, i1, i2, i3, σ => if σ.1 6437 ≤ i3 then if σ.1 6439 = 0 then m_unify_155_l163 qF i1 (i2 - (Int32.ofInt 1)) σ else m_unify_155_l77 qF i1 i2 (Int32.ofInt 0) σ else (aget (σ.2 92) 600 i3).bind (fun x3 => m_unify_155_l29 (m_unify_155_l13 n) qF i1 i2 i3 x3 σ)
def m_unify_155 (i1 : Int32) (σ : qC) : Option (Int32 × qC) := (m_same_156 σ).bind (fun p1 => if p1.1 = 0 then some (Int32.ofInt 0, p1.2) else m_unify_155_l13 qF i1 (Int32.ofInt 0) (Int32.ofInt 0) p1.2)
set_option maxRecDepth 20000 in
theorem t_m_unify_155_l29 {S : Nat × (Nat → Int32)} {d : Nat} {x : qC} {y : Int64 × Nat} (hd : 13 ≤ d) {K13 : Int32 → Int32 → Int32 → qC → Option (Int32 × qC)} (hK13 : ∀ {i1 : Int32} {i2 : Int32} {i3 : Int32} {σ : qC} {p : (Int32 × qC)}, K13 i1 i2 i3 σ = some p → qE S d jm_12_unify_155 (13, [(0, .ref 64), (1, .int i1), (2, .int i2), (3, .int i3)], [], (x, σ, y)) ((.inl (some (.int p.1)), (x, p.2, y)))) : ∀ (n : Nat) {i1 : Int32} {i2 : Int32} {i3 : Int32} {i4 : Int32} {σ : qC} {p : (Int32 × qC)}, m_unify_155_l29 K13 n i1 i2 i3 i4 σ = some p → qE S d jm_12_unify_155 (29, [(0, .ref 64), (1, .int i1), (2, .int i2), (3, .int i3), (4, .int i4)], [], (x, σ, y)) ((.inl (some (.int p.1)), (x, p.2, y))) := by
  have hd9 : 9 ≤ d := by omega
  intro n
  induction n with
  | zero =>
    intros
    rename_i h
    unfold m_unify_155_l29 at h
    cases h
  | succ n ih =>
    intro i1 i2 i3 i4 σ p h
    unfold m_unify_155_l29 at h
    refine qE.steps 2 hd9 (s' := (if i4 < 0 then 62 else 34, [(0, .ref 64), (1, .int i1), (2, .int i2), (3, .int i3), (4, .int i4)], [], (x, σ, y))) rfl ?_
    by_cases c1 : i4 < 0
    · rw [if_pos c1] at h
      rw [if_pos c1]
      refine qE.steps 2 hd9 (s' := (13, [(3, .int (i3 + Int32.ofInt 1)), (0, .ref 64), (1, .int i1), (2, .int i2), (4, .int i4)], [], (x, σ, y))) rfl ?_
      exact qE.wk (hK13 h) ⟨rfl, rfl, rfl, rfl, trivial⟩ rfl
    · rw [if_neg c1] at h
      rw [if_neg c1]
      refine qE.steps 6 hd9 (s' := (45, [(0, .ref 64), (1, .int i1), (2, .int i2), (3, .int i3), (4, .int i4)], [.int i4, .ref 85, .int i2, .ref 93], (x, σ, y))) rfl ?_
      obtain ⟨x2, e3, h⟩ := obind h
      refine qE.iald hd9 e3 rfl rfl ?_
      obtain ⟨σ4, e5, h⟩ := obind h
      refine qE.iastM hd9 e5 rfl rfl ?_
      refine qE.steps 4 hd9 (s' := (56, [(2, .int (i2 + Int32.ofInt 1)), (0, .ref 64), (1, .int i1), (3, .int i3), (4, .int i4)], [.int i4, .ref 86], (x, σ4, y))) rfl ?_
      obtain ⟨x6, e7, h⟩ := obind h
      refine qE.iald hd9 e7 rfl rfl ?_
      refine qE.steps 2 hd9 (s' := (29, [(4, .int x6), (2, .int (i2 + Int32.ofInt 1)), (0, .ref 64), (1, .int i1), (3, .int i3)], [], (x, σ4, y))) rfl ?_
      exact qE.wk (ih h) ⟨rfl, rfl, rfl, rfl, rfl, trivial⟩ rfl
set_option maxRecDepth 20000 in
theorem t_m_unify_155_l163 {S : Nat × (Nat → Int32)} {d : Nat} {x : qC} {y : Int64 × Nat} (hd : 13 ≤ d) : ∀ (n : Nat) {i3 : Int32} {i4 : Int32} {σ : qC} {p : (Int32 × qC)}, m_unify_155_l163 n i3 i4 σ = some p → qE S d jm_12_unify_155 (163, [(0, .ref 64), (3, .int i3), (4, .int i4)], [], (x, σ, y)) ((.inl (some (.int p.1)), (x, p.2, y))) := by
  have hd9 : 9 ≤ d := by omega
  intro n
  induction n with
  | zero =>
    intros
    rename_i h
    unfold m_unify_155_l163 at h
    cases h
  | succ n ih =>
    intro i3 i4 σ p h
    unfold m_unify_155_l163 at h
    refine qE.steps 2 hd9 (s' := (if i4 < 0 then 190 else 168, [(0, .ref 64), (3, .int i3), (4, .int i4)], [], (x, σ, y))) rfl ?_
    by_cases c1 : i4 < 0
    · rw [if_pos c1] at h
      rw [if_pos c1]
      obtain ⟨σ2, e3, h⟩ := qlet_ex h
      refine qE.steps 3 hd9 (s' := (195, [(0, .ref 64), (3, .int i3), (4, .int i4)], [], (x, σ2, y))) (by subst e3; rfl) ?_
      refine qE.steps 1 hd9 (s' := (196, [(0, .ref 64), (3, .int i3), (4, .int i4)], [.int (Int32.ofInt 1)], (x, σ2, y))) rfl ?_
      obtain rfl := Option.some.inj h
      exact qE.ret hd9 rfl rfl
    · rw [if_neg c1] at h
      rw [if_neg c1]
      refine qE.steps 5 hd9 (s' := (176, [(0, .ref 64), (3, .int i3), (4, .int i4)], [.int i4, .ref 93, .int (Int32.ofInt 1), .ref 64], (x, σ, y))) rfl ?_
      obtain ⟨x4, e5, h⟩ := obind h
      refine qE.iald hd9 e5 rfl rfl ?_
      refine qE.steps 3 hd9 (s' := (180, [(0, .ref 64), (3, .int i3), (4, .int i4)], [.int i3, .int (Int32.ofInt 0), .int (Int32.ofInt 0), .int x4, .int (Int32.ofInt 1), .ref 64], (x, σ, y))) rfl ?_
      obtain ⟨p6, e7, h⟩ := obind h
      refine qE.call hd9 rfl rfl rfl rfl (t_m_goal_144 (by omega) e7) ?_
      refine qE.steps 0 hd9 (s' := (183, [(0, .ref 64), (3, .int i3), (4, .int i4)], [.int p6.1], (x, p6.2, y))) rfl ?_
      refine qE.steps 3 hd9 (s' := (163, [(4, .int (i4 + Int32.ofInt (-1))), (3, .int p6.1), (0, .ref 64)], [], (x, p6.2, y))) rfl ?_
      exact qE.wk (ih h) ⟨rfl, rfl, rfl, trivial⟩ rfl
set_option maxRecDepth 20000 in
theorem t_m_unify_155_l77 {S : Nat × (Nat → Int32)} {d : Nat} {x : qC} {y : Int64 × Nat} (hd : 13 ≤ d) : ∀ (n : Nat) {i1 : Int32} {i2 : Int32} {i3 : Int32} {σ : qC} {p : (Int32 × qC)}, m_unify_155_l77 n i1 i2 i3 σ = some p → qE S d jm_12_unify_155 (77, [(0, .ref 64), (1, .int i1), (2, .int i2), (3, .int i3)], [], (x, σ, y)) ((.inl (some (.int p.1)), (x, p.2, y))) := by
  have hd9 : 9 ≤ d := by omega
  intro n
  induction n with
  | zero =>
    intros
    rename_i h
    unfold m_unify_155_l77 at h
    cases h
  | succ n ih =>
    intro i1 i2 i3 σ p h
    unfold m_unify_155_l77 at h
    refine qE.steps 4 hd9 (s' := (if σ.1 6435 ≤ i3 then 156 else 85, [(0, .ref 64), (1, .int i1), (2, .int i2), (3, .int i3)], [], (x, σ, y))) rfl ?_
    by_cases c1 : σ.1 6435 ≤ i3
    · rw [if_pos c1] at h
      rw [if_pos c1]
      refine qE.steps 6 hd9 (s' := (163, [(4, .int (i2 - (Int32.ofInt 1))), (3, .int i1), (0, .ref 64), (1, .int i1), (2, .int i2)], [], (x, σ, y))) rfl ?_
      exact qE.wk (t_m_unify_155_l163 hd qF h) ⟨rfl, rfl, rfl, trivial⟩ rfl
    · rw [if_neg c1] at h
      rw [if_neg c1]
      refine qE.steps 3 hd9 (s' := (90, [(0, .ref 64), (1, .int i1), (2, .int i2), (3, .int i3)], [.int i3, .ref 89], (x, σ, y))) rfl ?_
      obtain ⟨x2, e3, h⟩ := obind h
      refine qE.iald hd9 e3 rfl rfl ?_
      refine qE.steps 2 hd9 (s' := (if ¬ (x2 = Int32.ofInt 1) then 98 else 95, [(0, .ref 64), (1, .int i1), (2, .int i2), (3, .int i3)], [], (x, σ, y))) rfl ?_
      by_cases c4 : x2 = Int32.ofInt 1
      · rw [if_pos c4] at h
        rw [if_neg (not_not_intro c4)]
        refine qE.steps 3 hd9 (s' := (77, [(3, .int (i3 + Int32.ofInt 1)), (0, .ref 64), (1, .int i1), (2, .int i2)], [], (x, σ, y))) rfl ?_
        exact qE.wk (ih h) ⟨rfl, rfl, rfl, rfl, trivial⟩ rfl
      · rw [if_neg c4] at h
        rw [if_pos c4]
        refine qE.steps 4 hd9 (s' := (104, [(0, .ref 64), (1, .int i1), (2, .int i2), (3, .int i3)], [.int i3, .ref 87, .ref 64], (x, σ, y))) rfl ?_
        obtain ⟨x5, e6, h⟩ := obind h
        refine qE.iald hd9 e6 rfl rfl ?_
        refine qE.steps 3 hd9 (s' := (110, [(0, .ref 64), (1, .int i1), (2, .int i2), (3, .int i3)], [.int i3, .ref 88, .int x5, .ref 64], (x, σ, y))) rfl ?_
        obtain ⟨x7, e8, h⟩ := obind h
        refine qE.iald hd9 e8 rfl rfl ?_
        obtain ⟨p9, e10, h⟩ := obind h
        refine qE.call hd9 rfl rfl rfl rfl (t_m_test_162 (by omega) e10) ?_
        refine qE.steps 0 hd9 (s' := (114, [(0, .ref 64), (1, .int i1), (2, .int i2), (3, .int i3)], [.int p9.1], (x, p9.2, y))) rfl ?_
        refine qE.steps 4 hd9 (s' := (if ¬ (p9.1 = Int32.ofInt 2) then 124 else 122, [(4, .int p9.1), (0, .ref 64), (1, .int i1), (2, .int i2), (3, .int i3)], [], (x, p9.2, y))) rfl ?_
        by_cases c11 : p9.1 = Int32.ofInt 2
        · rw [if_pos c11] at h
          rw [if_neg (not_not_intro c11)]
          refine qE.steps 1 hd9 (s' := (123, [(4, .int p9.1), (0, .ref 64), (1, .int i1), (2, .int i2), (3, .int i3)], [.int (Int32.ofInt 0)], (x, p9.2, y))) rfl ?_
          obtain rfl := Option.some.inj h
          exact qE.ret hd9 rfl rfl
        · rw [if_neg c11] at h
          rw [if_pos c11]
          refine qE.steps 3 hd9 (s' := (if ¬ (p9.1 = Int32.ofInt 1) then 133 else 130, [(4, .int p9.1), (0, .ref 64), (1, .int i1), (2, .int i2), (3, .int i3)], [], (x, p9.2, y))) rfl ?_
          by_cases c12 : p9.1 = Int32.ofInt 1
          · rw [if_pos c12] at h
            rw [if_neg (not_not_intro c12)]
            refine qE.steps 3 hd9 (s' := (77, [(3, .int (i3 + Int32.ofInt 1)), (4, .int p9.1), (0, .ref 64), (1, .int i1), (2, .int i2)], [], (x, p9.2, y))) rfl ?_
            exact qE.wk (ih h) ⟨rfl, rfl, rfl, rfl, trivial⟩ rfl
          · rw [if_neg c12] at h
            rw [if_pos c12]
            refine qE.steps 7 hd9 (s' := (140, [(4, .int p9.1), (0, .ref 64), (1, .int i1), (2, .int i2), (3, .int i3)], [.int (Int32.ofInt 0), .int ((i3 * (Int32.ofInt 5)) + (Int32.ofInt 4)), .ref 64], (x, p9.2, y))) rfl ?_
            obtain ⟨p13, e14, h⟩ := obind h
            refine qE.call hd9 rfl rfl rfl rfl (t_m_change_160 (by omega) e14) ?_
            refine qE.steps 0 hd9 (s' := (143, [(4, .int p9.1), (0, .ref 64), (1, .int i1), (2, .int i2), (3, .int i3)], [], (x, p13, y))) rfl ?_
            refine qE.steps 4 hd9 (s' := (149, [(4, .int p9.1), (0, .ref 64), (1, .int i1), (2, .int i2), (3, .int i3)], [.int (Int32.ofInt 1), .int i3, .ref 89], (x, p13, y))) rfl ?_
            obtain ⟨σ15, e16, h⟩ := obind h
            refine qE.iastM hd9 e16 rfl rfl ?_
            refine qE.steps 2 hd9 (s' := (77, [(3, .int (i3 + Int32.ofInt 1)), (4, .int p9.1), (0, .ref 64), (1, .int i1), (2, .int i2)], [], (x, σ15, y))) rfl ?_
            exact qE.wk (ih h) ⟨rfl, rfl, rfl, rfl, trivial⟩ rfl
set_option maxRecDepth 20000 in
theorem t_m_unify_155_l13 {S : Nat × (Nat → Int32)} {d : Nat} {x : qC} {y : Int64 × Nat} (hd : 13 ≤ d) : ∀ (n : Nat) {i1 : Int32} {i2 : Int32} {i3 : Int32} {σ : qC} {p : (Int32 × qC)}, m_unify_155_l13 n i1 i2 i3 σ = some p → qE S d jm_12_unify_155 (13, [(0, .ref 64), (1, .int i1), (2, .int i2), (3, .int i3)], [], (x, σ, y)) ((.inl (some (.int p.1)), (x, p.2, y))) := by
  have hd9 : 9 ≤ d := by omega
  intro n
  induction n with
  | zero =>
    intros
    rename_i h
    unfold m_unify_155_l13 at h
    cases h
  | succ n ih =>
    intro i1 i2 i3 σ p h
    unfold m_unify_155_l13 at h
    refine qE.steps 4 hd9 (s' := (if σ.1 6437 ≤ i3 then 68 else 21, [(0, .ref 64), (1, .int i1), (2, .int i2), (3, .int i3)], [], (x, σ, y))) rfl ?_
    by_cases c1 : σ.1 6437 ≤ i3
    · rw [if_pos c1] at h
      rw [if_pos c1]
      refine qE.steps 3 hd9 (s' := (if σ.1 6439 = 0 then 156 else 75, [(0, .ref 64), (1, .int i1), (2, .int i2), (3, .int i3)], [], (x, σ, y))) rfl ?_
      by_cases c2 : σ.1 6439 = 0
      · rw [if_pos c2] at h
        rw [if_pos c2]
        refine qE.steps 6 hd9 (s' := (163, [(4, .int (i2 - (Int32.ofInt 1))), (3, .int i1), (0, .ref 64), (1, .int i1), (2, .int i2)], [], (x, σ, y))) rfl ?_
        exact qE.wk (t_m_unify_155_l163 hd qF h) ⟨rfl, rfl, rfl, trivial⟩ rfl
      · rw [if_neg c2] at h
        rw [if_neg c2]
        refine qE.steps 2 hd9 (s' := (77, [(3, .int (Int32.ofInt 0)), (0, .ref 64), (1, .int i1), (2, .int i2)], [], (x, σ, y))) rfl ?_
        exact qE.wk (t_m_unify_155_l77 hd qF h) ⟨rfl, rfl, rfl, rfl, trivial⟩ rfl
    · rw [if_neg c1] at h
      rw [if_neg c1]
      refine qE.steps 3 hd9 (s' := (26, [(0, .ref 64), (1, .int i1), (2, .int i2), (3, .int i3)], [.int i3, .ref 92], (x, σ, y))) rfl ?_
      obtain ⟨x3, e4, h⟩ := obind h
      refine qE.iald hd9 e4 rfl rfl ?_
      refine qE.steps 1 hd9 (s' := (29, [(4, .int x3), (0, .ref 64), (1, .int i1), (2, .int i2), (3, .int i3)], [], (x, σ, y))) rfl ?_
      exact qE.wk (t_m_unify_155_l29 hd ih qF h) ⟨rfl, rfl, rfl, rfl, rfl, trivial⟩ rfl
set_option maxRecDepth 20000 in
theorem t_m_unify_155 {S : Nat × (Nat → Int32)} {d : Nat} {x : qC} {y : Int64 × Nat} {i1 : Int32} {σ : qC} {p : (Int32 × qC)} (hd : 13 ≤ d) (h : m_unify_155 i1 σ = some p) : qE S d jm_12_unify_155 (0, [(0, .ref 64), (1, .int i1)], [], (x, σ, y)) ((.inl (some (.int p.1)), (x, p.2, y))) := by
  have hd9 : 9 ≤ d := by omega
  unfold m_unify_155 at h
  refine qE.steps 1 hd9 (s' := (1, [(0, .ref 64), (1, .int i1)], [.ref 64], (x, σ, y))) rfl ?_
  obtain ⟨p1, e2, h⟩ := obind h
  refine qE.call hd9 rfl rfl rfl rfl (t_m_same_156 (by omega) e2) ?_
  refine qE.steps 0 hd9 (s' := (4, [(0, .ref 64), (1, .int i1)], [.int p1.1], (x, p1.2, y))) rfl ?_
  refine qE.steps 1 hd9 (s' := (if ¬ (p1.1 = 0) then 9 else 7, [(0, .ref 64), (1, .int i1)], [], (x, p1.2, y))) rfl ?_
  by_cases c3 : p1.1 = 0
  · rw [if_pos c3] at h
    rw [if_neg (not_not_intro c3)]
    refine qE.steps 1 hd9 (s' := (8, [(0, .ref 64), (1, .int i1)], [.int (Int32.ofInt 0)], (x, p1.2, y))) rfl ?_
    obtain rfl := Option.some.inj h
    exact qE.ret hd9 rfl rfl
  · rw [if_neg c3] at h
    rw [if_pos c3]
    refine qE.steps 4 hd9 (s' := (13, [(3, .int (Int32.ofInt 0)), (2, .int (Int32.ofInt 0)), (0, .ref 64), (1, .int i1)], [], (x, p1.2, y))) rfl ?_
    exact qE.wk (t_m_unify_155_l13 hd qF h) ⟨rfl, rfl, rfl, rfl, trivial⟩ rfl
def m_born_141 (σ : qC) : Option (Int32 × qC) := (aput σ 75 13000 (σ.1 6426) (Int32.ofInt 2147483647)).bind (fun σ1 => (aput σ1 76 13000 (σ.1 6426) (Int32.ofInt (-1))).bind (fun σ3 => (aput σ3 77 13000 (σ.1 6426) (Int32.ofInt (-1))).bind (fun σ5 => qlet (upS σ5 6426 ((σ5.1 6426) + (Int32.ofInt 1))) (fun σ7 => qlet (upS σ7 6427 ((σ7.1 6427) + (Int32.ofInt 1))) (fun σ9 => some (σ.1 6426, σ9))))))
set_option maxRecDepth 20000 in
theorem t_m_born_141 {S : Nat × (Nat → Int32)} {d : Nat} {x : qC} {y : Int64 × Nat} {σ : qC} {p : (Int32 × qC)} (hd : 9 ≤ d) (h : m_born_141 σ = some p) : qE S d jm_12_born_141 (0, [(0, .ref 64)], [], (x, σ, y)) ((.inl (some (.int p.1)), (x, p.2, y))) := by
  have hd9 : 9 ≤ d := by omega
  unfold m_born_141 at h
  refine qE.steps 7 hd9 (s' := (12, [(1, .int (σ.1 6426)), (0, .ref 64)], [.int (Int32.ofInt 2147483647), .int (σ.1 6426), .ref 75], (x, σ, y))) rfl ?_
  obtain ⟨σ1, e2, h⟩ := obind h
  refine qE.iastM hd9 e2 rfl rfl ?_
  refine qE.steps 4 hd9 (s' := (19, [(1, .int (σ.1 6426)), (0, .ref 64)], [.int (Int32.ofInt (-1)), .int (σ.1 6426), .ref 76], (x, σ1, y))) rfl ?_
  obtain ⟨σ3, e4, h⟩ := obind h
  refine qE.iastM hd9 e4 rfl rfl ?_
  refine qE.steps 4 hd9 (s' := (26, [(1, .int (σ.1 6426)), (0, .ref 64)], [.int (Int32.ofInt (-1)), .int (σ.1 6426), .ref 77], (x, σ3, y))) rfl ?_
  obtain ⟨σ5, e6, h⟩ := obind h
  refine qE.iastM hd9 e6 rfl rfl ?_
  obtain ⟨σ7, e8, h⟩ := qlet_ex h
  refine qE.steps 6 hd9 (s' := (37, [(1, .int (σ.1 6426)), (0, .ref 64)], [], (x, σ7, y))) (by subst e8; rfl) ?_
  obtain ⟨σ9, e10, h⟩ := qlet_ex h
  refine qE.steps 6 hd9 (s' := (47, [(1, .int (σ.1 6426)), (0, .ref 64)], [], (x, σ9, y))) (by subst e10; rfl) ?_
  refine qE.steps 1 hd9 (s' := (48, [(1, .int (σ.1 6426)), (0, .ref 64)], [.int (σ.1 6426)], (x, σ9, y))) rfl ?_
  obtain rfl := Option.some.inj h
  exact qE.ret hd9 rfl rfl
def m_number_140_l20 (K2 : Int32 → qC → Option qC) : Nat → Int32 → Int32 → qC → Option qC
  | 0, _, _, _ => none
  | n + 1, i1, i2, σ => if σ.1 6413 ≤ i2 then K2 (i1 + Int32.ofInt 1) σ else (aget (σ.2 70) 26 i1).bind (fun x2 => if 0 ≤ x2 then K2 (i1 + Int32.ofInt 1) σ else (aget (σ.2 66) 624 i2).bind (fun x5 => if x5 = (Int32.ofInt 65) + i1 then (m_born_141 σ).bind (fun p8 => (aput p8.2 70 26 i1 p8.1).bind (fun σ10 => (m_number_140_l20 K2 n) i1 (i2 + Int32.ofInt 1) σ10)) else (m_number_140_l20 K2 n) i1 (i2 + Int32.ofInt 1) σ))
def m_number_140_l2 : Nat → Int32 → qC → Option qC
  | 0, _, _ => none
  | n + 1, i1, σ => if Int32.ofInt 26 ≤ i1 then some σ else (aput σ 70 26 i1 (Int32.ofInt (-1))).bind (fun σ2 => m_number_140_l20 (m_number_140_l2 n) qF i1 (σ2.1 6412) σ2)
def m_number_140 (σ : qC) : Option qC := m_number_140_l2 qF (Int32.ofInt 0) σ
set_option maxRecDepth 20000 in
theorem t_m_number_140_l20 {S : Nat × (Nat → Int32)} {d : Nat} {x : qC} {y : Int64 × Nat} (hd : 10 ≤ d) {K2 : Int32 → qC → Option qC} (hK2 : ∀ {i1 : Int32} {σ : qC} {p : qC}, K2 i1 σ = some p → qE S d jm_12_number_140 (2, [(0, .ref 64), (1, .int i1)], [], (x, σ, y)) ((.inl none, (x, p, y)))) : ∀ (n : Nat) {i1 : Int32} {i2 : Int32} {σ : qC} {p : qC}, m_number_140_l20 K2 n i1 i2 σ = some p → qE S d jm_12_number_140 (20, [(0, .ref 64), (1, .int i1), (2, .int i2)], [], (x, σ, y)) ((.inl none, (x, p, y))) := by
  have hd9 : 9 ≤ d := by omega
  intro n
  induction n with
  | zero =>
    intros
    rename_i h
    unfold m_number_140_l20 at h
    cases h
  | succ n ih =>
    intro i1 i2 σ p h
    unfold m_number_140_l20 at h
    refine qE.steps 4 hd9 (s' := (if σ.1 6413 ≤ i2 then 66 else 28, [(0, .ref 64), (1, .int i1), (2, .int i2)], [], (x, σ, y))) rfl ?_
    by_cases c1 : σ.1 6413 ≤ i2
    · rw [if_pos c1] at h
      rw [if_pos c1]
      refine qE.steps 2 hd9 (s' := (2, [(1, .int (i1 + Int32.ofInt 1)), (0, .ref 64), (2, .int i2)], [], (x, σ, y))) rfl ?_
      exact qE.wk (hK2 h) ⟨rfl, rfl, trivial⟩ rfl
    · rw [if_neg c1] at h
      rw [if_neg c1]
      refine qE.steps 3 hd9 (s' := (33, [(0, .ref 64), (1, .int i1), (2, .int i2)], [.int i1, .ref 70], (x, σ, y))) rfl ?_
      obtain ⟨x2, e3, h⟩ := obind h
      refine qE.iald hd9 e3 rfl rfl ?_
      refine qE.steps 1 hd9 (s' := (if 0 ≤ x2 then 66 else 37, [(0, .ref 64), (1, .int i1), (2, .int i2)], [], (x, σ, y))) rfl ?_
      by_cases c4 : 0 ≤ x2
      · rw [if_pos c4] at h
        rw [if_pos c4]
        refine qE.steps 2 hd9 (s' := (2, [(1, .int (i1 + Int32.ofInt 1)), (0, .ref 64), (2, .int i2)], [], (x, σ, y))) rfl ?_
        exact qE.wk (hK2 h) ⟨rfl, rfl, trivial⟩ rfl
      · rw [if_neg c4] at h
        rw [if_neg c4]
        refine qE.steps 3 hd9 (s' := (42, [(0, .ref 64), (1, .int i1), (2, .int i2)], [.int i2, .ref 66], (x, σ, y))) rfl ?_
        obtain ⟨x5, e6, h⟩ := obind h
        refine qE.iald hd9 e6 rfl rfl ?_
        refine qE.steps 4 hd9 (s' := (if ¬ (x5 = (Int32.ofInt 65) + i1) then 60 else 50, [(0, .ref 64), (1, .int i1), (2, .int i2)], [], (x, σ, y))) rfl ?_
        by_cases c7 : x5 = (Int32.ofInt 65) + i1
        · rw [if_pos c7] at h
          rw [if_neg (not_not_intro c7)]
          refine qE.steps 4 hd9 (s' := (56, [(0, .ref 64), (1, .int i1), (2, .int i2)], [.ref 64, .int i1, .ref 70], (x, σ, y))) rfl ?_
          obtain ⟨p8, e9, h⟩ := obind h
          refine qE.call hd9 rfl rfl rfl rfl (t_m_born_141 (by omega) e9) ?_
          refine qE.steps 0 hd9 (s' := (59, [(0, .ref 64), (1, .int i1), (2, .int i2)], [.int p8.1, .int i1, .ref 70], (x, p8.2, y))) rfl ?_
          obtain ⟨σ10, e11, h⟩ := obind h
          refine qE.iastM hd9 e11 rfl rfl ?_
          refine qE.steps 2 hd9 (s' := (20, [(2, .int (i2 + Int32.ofInt 1)), (0, .ref 64), (1, .int i1)], [], (x, σ10, y))) rfl ?_
          exact qE.wk (ih h) ⟨rfl, rfl, rfl, trivial⟩ rfl
        · rw [if_neg c7] at h
          rw [if_pos c7]
          refine qE.steps 2 hd9 (s' := (20, [(2, .int (i2 + Int32.ofInt 1)), (0, .ref 64), (1, .int i1)], [], (x, σ, y))) rfl ?_
          exact qE.wk (ih h) ⟨rfl, rfl, rfl, trivial⟩ rfl
set_option maxRecDepth 20000 in
theorem t_m_number_140_l2 {S : Nat × (Nat → Int32)} {d : Nat} {x : qC} {y : Int64 × Nat} (hd : 10 ≤ d) : ∀ (n : Nat) {i1 : Int32} {σ : qC} {p : qC}, m_number_140_l2 n i1 σ = some p → qE S d jm_12_number_140 (2, [(0, .ref 64), (1, .int i1)], [], (x, σ, y)) ((.inl none, (x, p, y))) := by
  have hd9 : 9 ≤ d := by omega
  intro n
  induction n with
  | zero =>
    intros
    rename_i h
    unfold m_number_140_l2 at h
    cases h
  | succ n ih =>
    intro i1 σ p h
    unfold m_number_140_l2 at h
    refine qE.steps 3 hd9 (s' := (if Int32.ofInt 26 ≤ i1 then 72 else 8, [(0, .ref 64), (1, .int i1)], [], (x, σ, y))) rfl ?_
    by_cases c1 : Int32.ofInt 26 ≤ i1
    · rw [if_pos c1] at h
      rw [if_pos c1]
      obtain rfl := Option.some.inj h
      exact qE.ret hd9 rfl rfl
    · rw [if_neg c1] at h
      rw [if_neg c1]
      refine qE.steps 4 hd9 (s' := (14, [(0, .ref 64), (1, .int i1)], [.int (Int32.ofInt (-1)), .int i1, .ref 70], (x, σ, y))) rfl ?_
      obtain ⟨σ2, e3, h⟩ := obind h
      refine qE.iastM hd9 e3 rfl rfl ?_
      refine qE.steps 3 hd9 (s' := (20, [(2, .int (σ2.1 6412)), (0, .ref 64), (1, .int i1)], [], (x, σ2, y))) rfl ?_
      exact qE.wk (t_m_number_140_l20 hd ih qF h) ⟨rfl, rfl, rfl, trivial⟩ rfl
set_option maxRecDepth 20000 in
theorem t_m_number_140 {S : Nat × (Nat → Int32)} {d : Nat} {x : qC} {y : Int64 × Nat} {σ : qC} {p : qC} (hd : 10 ≤ d) (h : m_number_140 σ = some p) : qE S d jm_12_number_140 (0, [(0, .ref 64)], [], (x, σ, y)) ((.inl none, (x, p, y))) := by
  have hd9 : 9 ≤ d := by omega
  unfold m_number_140 at h
  refine qE.steps 2 hd9 (s' := (2, [(1, .int (Int32.ofInt 0)), (0, .ref 64)], [], (x, σ, y))) rfl ?_
  exact qE.wk (t_m_number_140_l2 hd qF h) ⟨rfl, rfl, trivial⟩ rfl
def m_take_153_l84 : Nat → Int32 → Int32 → Int32 → Int32 → qC → Option (Int32 × qC)
  | 0, _, _, _, _, _ => none
  | n + 1, i2, i5, i6, i7, σ => if i7 < 0 then (m_unify_155 i6 σ).bind (fun p2 => if p2.1 = 0 ∨ p2.1 = 1 then some (p2.1, p2.2) else none) else (aget (σ.2 74) 72000 ((i5 * (Int32.ofInt 3)) + i7)).bind (fun x5 => (aget (σ.2 74) 72000 ((i2 * (Int32.ofInt 3)) + i7)).bind (fun x7 => (m_pair_154 x5 x7 σ).bind (fun p9 => (m_take_153_l84 n) i2 i5 i6 (i7 + Int32.ofInt (-1)) p9)))
def m_take_153 (i1 : Int32) (i2 : Int32) (i3 : Int32) (i4 : Int32) (σ : qC) : Option (Int32 × qC) := qlet (upS σ 6412 (i1 * (Int32.ofInt 48))) (fun σ1 => (aget (σ1.2 67) 12 i1).bind (fun x3 => qlet (upS σ1 6413 ((σ1.1 6412) + x3)) (fun σ5 => (m_number_140 σ5).bind (fun p7 => (m_build_145 p7).bind (fun p9 => (m_at_143 (p9.2.1 6412) p9.2).bind (fun p11 => if p11 = Int32.ofInt 58 then qlet (upS p9.2 6412 ((p9.2.1 6412) + (Int32.ofInt 1))) (fun σ14 => (m_buildGoals_142 i4 i3 σ14).bind (fun p16 => qlet (upS p16.2 6436 (Int32.ofInt 0)) (fun σ18 => (aget (σ18.2 73) 24000 p9.1).bind (fun x20 => m_take_153_l84 qF i2 p9.1 p16.1 (x20 - (Int32.ofInt 1)) σ18)))) else qlet (upS p9.2 6436 (Int32.ofInt 0)) (fun σ22 => (aget (σ22.2 73) 24000 p9.1).bind (fun x24 => m_take_153_l84 qF i2 p9.1 i3 (x24 - (Int32.ofInt 1)) σ22))))))))
set_option maxRecDepth 20000 in
theorem t_m_take_153_l84 {S : Nat × (Nat → Int32)} {d : Nat} {x : qC} {y : Int64 × Nat} (hd : 14 ≤ d) : ∀ (n : Nat) {i2 : Int32} {i5 : Int32} {i6 : Int32} {i7 : Int32} {σ : qC} {p : (Int32 × qC)}, m_take_153_l84 n i2 i5 i6 i7 σ = some p → qE S d jm_12_take_153 (84, [(0, .ref 64), (2, .int i2), (5, .int i5), (6, .int i6), (7, .int i7)], [], (x, σ, y)) ((.inl (some (.int p.1)), (x, p.2, y))) := by
  have hd9 : 9 ≤ d := by omega
  intro n
  induction n with
  | zero =>
    intros
    rename_i h
    unfold m_take_153_l84 at h
    cases h
  | succ n ih =>
    intro i2 i5 i6 i7 σ p h
    unfold m_take_153_l84 at h
    refine qE.steps 2 hd9 (s' := (if i7 < 0 then 122 else 89, [(0, .ref 64), (2, .int i2), (5, .int i5), (6, .int i6), (7, .int i7)], [], (x, σ, y))) rfl ?_
    by_cases c1 : i7 < 0
    · rw [if_pos c1] at h
      rw [if_pos c1]
      refine qE.steps 2 hd9 (s' := (125, [(0, .ref 64), (2, .int i2), (5, .int i5), (6, .int i6), (7, .int i7)], [.int i6, .ref 64], (x, σ, y))) rfl ?_
      obtain ⟨p2, e3, h⟩ := obind h
      refine qE.call hd9 rfl rfl rfl rfl (t_m_unify_155 (by omega) e3) ?_
      refine qE.steps 0 hd9 (s' := (128, [(0, .ref 64), (2, .int i2), (5, .int i5), (6, .int i6), (7, .int i7)], [.int p2.1], (x, p2.2, y))) rfl ?_
      by_cases c4 : p2.1 = 0 ∨ p2.1 = 1
      case neg => rw [if_neg c4] at h; cases h
      rw [if_pos c4] at h
      obtain rfl := Option.some.inj h
      exact qE.ret hd9 rfl (by rcases c4 with c4 | c4 <;> (show qat jT0 jm_12_take_153 (128, [(0, .ref 64), (2, .int i2), (5, .int i5), (6, .int i6), (7, .int i7)], [.int p2.1], (x, p2.2, y)) = some (.inl (some (.int p2.1)))) <;> rw [c4] <;> rfl)
    · rw [if_neg c1] at h
      rw [if_neg c1]
      refine qE.steps 8 hd9 (s' := (101, [(0, .ref 64), (2, .int i2), (5, .int i5), (6, .int i6), (7, .int i7)], [.int ((i5 * (Int32.ofInt 3)) + i7), .ref 74, .ref 64], (x, σ, y))) rfl ?_
      obtain ⟨x5, e6, h⟩ := obind h
      refine qE.iald hd9 e6 rfl rfl ?_
      refine qE.steps 7 hd9 (s' := (112, [(0, .ref 64), (2, .int i2), (5, .int i5), (6, .int i6), (7, .int i7)], [.int ((i2 * (Int32.ofInt 3)) + i7), .ref 74, .int x5, .ref 64], (x, σ, y))) rfl ?_
      obtain ⟨x7, e8, h⟩ := obind h
      refine qE.iald hd9 e8 rfl rfl ?_
      obtain ⟨p9, e10, h⟩ := obind h
      refine qE.call hd9 rfl rfl rfl rfl (t_m_pair_154 (by omega) e10) ?_
      refine qE.steps 0 hd9 (s' := (116, [(0, .ref 64), (2, .int i2), (5, .int i5), (6, .int i6), (7, .int i7)], [], (x, p9, y))) rfl ?_
      refine qE.steps 2 hd9 (s' := (84, [(7, .int (i7 + Int32.ofInt (-1))), (0, .ref 64), (2, .int i2), (5, .int i5), (6, .int i6)], [], (x, p9, y))) rfl ?_
      exact qE.wk (ih h) ⟨rfl, rfl, rfl, rfl, rfl, trivial⟩ rfl
set_option maxRecDepth 20000 in
theorem t_m_take_153 {S : Nat × (Nat → Int32)} {d : Nat} {x : qC} {y : Int64 × Nat} {i1 : Int32} {i2 : Int32} {i3 : Int32} {i4 : Int32} {σ : qC} {p : (Int32 × qC)} (hd : 14 ≤ d) (h : m_take_153 i1 i2 i3 i4 σ = some p) : qE S d jm_12_take_153 (0, [(0, .ref 64), (1, .int i1), (2, .int i2), (3, .int i3), (4, .int i4)], [], (x, σ, y)) ((.inl (some (.int p.1)), (x, p.2, y))) := by
  have hd9 : 9 ≤ d := by omega
  unfold m_take_153 at h
  obtain ⟨σ1, e2, h⟩ := qlet_ex h
  refine qE.steps 5 hd9 (s' := (8, [(0, .ref 64), (1, .int i1), (2, .int i2), (3, .int i3), (4, .int i4)], [], (x, σ1, y))) (by subst e2; rfl) ?_
  refine qE.steps 6 hd9 (s' := (18, [(0, .ref 64), (1, .int i1), (2, .int i2), (3, .int i3), (4, .int i4)], [.int i1, .ref 67, .int (σ1.1 6412), .ref 64], (x, σ1, y))) rfl ?_
  obtain ⟨x3, e4, h⟩ := obind h
  refine qE.iald hd9 e4 rfl rfl ?_
  obtain ⟨σ5, e6, h⟩ := qlet_ex h
  refine qE.steps 2 hd9 (s' := (23, [(0, .ref 64), (1, .int i1), (2, .int i2), (3, .int i3), (4, .int i4)], [], (x, σ5, y))) (by subst e6; rfl) ?_
  refine qE.steps 1 hd9 (s' := (24, [(0, .ref 64), (1, .int i1), (2, .int i2), (3, .int i3), (4, .int i4)], [.ref 64], (x, σ5, y))) rfl ?_
  obtain ⟨p7, e8, h⟩ := obind h
  refine qE.call hd9 rfl rfl rfl rfl (t_m_number_140 (by omega) e8) ?_
  refine qE.steps 0 hd9 (s' := (27, [(0, .ref 64), (1, .int i1), (2, .int i2), (3, .int i3), (4, .int i4)], [], (x, p7, y))) rfl ?_
  refine qE.steps 1 hd9 (s' := (28, [(0, .ref 64), (1, .int i1), (2, .int i2), (3, .int i3), (4, .int i4)], [.ref 64], (x, p7, y))) rfl ?_
  obtain ⟨p9, e10, h⟩ := obind h
  refine qE.call hd9 rfl rfl rfl rfl (t_m_build_145 (by omega) e10) ?_
  refine qE.steps 0 hd9 (s' := (31, [(0, .ref 64), (1, .int i1), (2, .int i2), (3, .int i3), (4, .int i4)], [.int p9.1], (x, p9.2, y))) rfl ?_
  refine qE.steps 6 hd9 (s' := (41, [(6, .int i3), (5, .int p9.1), (0, .ref 64), (1, .int i1), (2, .int i2), (3, .int i3), (4, .int i4)], [.int (p9.2.1 6412), .ref 64], (x, p9.2, y))) rfl ?_
  obtain ⟨p11, e12, h⟩ := obind h
  refine qE.call hd9 rfl rfl rfl rfl (t_m_at_143 (by omega) e12) ?_
  refine qE.steps 0 hd9 (s' := (44, [(6, .int i3), (5, .int p9.1), (0, .ref 64), (1, .int i1), (2, .int i2), (3, .int i3), (4, .int i4)], [.int p11], (x, p9.2, y))) rfl ?_
  refine qE.steps 2 hd9 (s' := (if ¬ (p11 = Int32.ofInt 58) then 68 else 49, [(6, .int i3), (5, .int p9.1), (0, .ref 64), (1, .int i1), (2, .int i2), (3, .int i3), (4, .int i4)], [], (x, p9.2, y))) rfl ?_
  by_cases c13 : p11 = Int32.ofInt 58
  · rw [if_pos c13] at h
    rw [if_neg (not_not_intro c13)]
    obtain ⟨σ14, e15, h⟩ := qlet_ex h
    refine qE.steps 6 hd9 (s' := (59, [(6, .int i3), (5, .int p9.1), (0, .ref 64), (1, .int i1), (2, .int i2), (3, .int i3), (4, .int i4)], [], (x, σ14, y))) (by subst e15; rfl) ?_
    refine qE.steps 3 hd9 (s' := (63, [(6, .int i3), (5, .int p9.1), (0, .ref 64), (1, .int i1), (2, .int i2), (3, .int i3), (4, .int i4)], [.int i3, .int i4, .ref 64], (x, σ14, y))) rfl ?_
    obtain ⟨p16, e17, h⟩ := obind h
    refine qE.call hd9 rfl rfl rfl rfl (t_m_buildGoals_142 (by omega) e17) ?_
    refine qE.steps 0 hd9 (s' := (66, [(6, .int i3), (5, .int p9.1), (0, .ref 64), (1, .int i1), (2, .int i2), (3, .int i3), (4, .int i4)], [.int p16.1], (x, p16.2, y))) rfl ?_
    obtain ⟨σ18, e19, h⟩ := qlet_ex h
    refine qE.steps 4 hd9 (s' := (73, [(6, .int p16.1), (5, .int p9.1), (0, .ref 64), (1, .int i1), (2, .int i2), (3, .int i3), (4, .int i4)], [], (x, σ18, y))) (by subst e19; rfl) ?_
    refine qE.steps 3 hd9 (s' := (79, [(6, .int p16.1), (5, .int p9.1), (0, .ref 64), (1, .int i1), (2, .int i2), (3, .int i3), (4, .int i4)], [.int p9.1, .ref 73], (x, σ18, y))) rfl ?_
    obtain ⟨x20, e21, h⟩ := obind h
    refine qE.iald hd9 e21 rfl rfl ?_
    refine qE.steps 3 hd9 (s' := (84, [(7, .int (x20 - (Int32.ofInt 1))), (6, .int p16.1), (5, .int p9.1), (0, .ref 64), (1, .int i1), (2, .int i2), (3, .int i3), (4, .int i4)], [], (x, σ18, y))) rfl ?_
    exact qE.wk (t_m_take_153_l84 hd qF h) ⟨rfl, rfl, rfl, rfl, rfl, trivial⟩ rfl
  · rw [if_neg c13] at h
    rw [if_pos c13]
    obtain ⟨σ22, e23, h⟩ := qlet_ex h
    refine qE.steps 3 hd9 (s' := (73, [(6, .int i3), (5, .int p9.1), (0, .ref 64), (1, .int i1), (2, .int i2), (3, .int i3), (4, .int i4)], [], (x, σ22, y))) (by subst e23; rfl) ?_
    refine qE.steps 3 hd9 (s' := (79, [(6, .int i3), (5, .int p9.1), (0, .ref 64), (1, .int i1), (2, .int i2), (3, .int i3), (4, .int i4)], [.int p9.1, .ref 73], (x, σ22, y))) rfl ?_
    obtain ⟨x24, e25, h⟩ := obind h
    refine qE.iald hd9 e25 rfl rfl ?_
    refine qE.steps 3 hd9 (s' := (84, [(7, .int (x24 - (Int32.ofInt 1))), (6, .int i3), (5, .int p9.1), (0, .ref 64), (1, .int i1), (2, .int i2), (3, .int i3), (4, .int i4)], [], (x, σ22, y))) rfl ?_
    exact qE.wk (t_m_take_153_l84 hd qF h) ⟨rfl, rfl, rfl, rfl, rfl, trivial⟩ rfl
def m_call_164 (i1 : Int32) (i2 : Int32) (σ : qC) : Option (Int32 × qC) := (m_nextFit_150 (Int32.ofInt 0) i1 σ).bind (fun p1 => if p1 = σ.1 6408 then some (Int32.ofInt 0, σ) else (m_nextFit_150 (p1 + (Int32.ofInt 1)) i1 σ).bind (fun p4 => if σ.1 6408 ≤ p4 then (m_take_153 p1 i1 i2 (σ.1 6433) σ).bind (fun p7 => if p7.1 = 0 ∨ p7.1 = 1 then some (p7.1, p7.2) else none) else (aput σ 94 600 (σ.1 6433) i1).bind (fun σ10 => (aput σ10 95 600 (σ10.1 6433) p4).bind (fun σ12 => (aput σ12 96 600 (σ12.1 6433) i2).bind (fun σ14 => (aput σ14 97 600 (σ14.1 6433) (σ14.1 6425)).bind (fun σ16 => (aput σ16 98 600 (σ16.1 6433) (σ16.1 6426)).bind (fun σ18 => (aput σ18 99 600 (σ18.1 6433) (σ18.1 6428)).bind (fun σ20 => (aput σ20 100 600 (σ20.1 6433) (σ20.1 6432)).bind (fun σ22 => (aput σ22 101 600 (σ22.1 6433) (σ22.1 6434)).bind (fun σ24 => (aput σ24 102 600 (σ24.1 6433) (σ24.1 6435)).bind (fun σ26 => qlet (upS σ26 6433 ((σ26.1 6433) + (Int32.ofInt 1))) (fun σ28 => (m_take_153 p1 i1 i2 (σ.1 6433) σ28).bind (fun p30 => if p30.1 = 0 ∨ p30.1 = 1 then some (p30.1, p30.2) else none)))))))))))))
set_option maxRecDepth 20000 in
theorem t_m_call_164 {S : Nat × (Nat → Int32)} {d : Nat} {x : qC} {y : Int64 × Nat} {i1 : Int32} {i2 : Int32} {σ : qC} {p : (Int32 × qC)} (hd : 15 ≤ d) (h : m_call_164 i1 i2 σ = some p) : qE S d jm_12_call_164 (0, [(0, .ref 64), (1, .int i1), (2, .int i2)], [], (x, σ, y)) ((.inl (some (.int p.1)), (x, p.2, y))) := by
  have hd9 : 9 ≤ d := by omega
  unfold m_call_164 at h
  refine qE.steps 3 hd9 (s' := (3, [(0, .ref 64), (1, .int i1), (2, .int i2)], [.int i1, .int (Int32.ofInt 0), .ref 64], (x, σ, y))) rfl ?_
  obtain ⟨p1, e2, h⟩ := obind h
  refine qE.call hd9 rfl rfl rfl rfl (t_m_nextFit_150 (by omega) e2) ?_
  refine qE.steps 0 hd9 (s' := (6, [(0, .ref 64), (1, .int i1), (2, .int i2)], [.int p1], (x, σ, y))) rfl ?_
  refine qE.steps 8 hd9 (s' := (if ¬ (p1 = σ.1 6408) then 23 else 21, [(4, .int (σ.1 6433)), (3, .int p1), (0, .ref 64), (1, .int i1), (2, .int i2)], [], (x, σ, y))) rfl ?_
  by_cases c3 : p1 = σ.1 6408
  · rw [if_pos c3] at h
    rw [if_neg (not_not_intro c3)]
    refine qE.steps 1 hd9 (s' := (22, [(4, .int (σ.1 6433)), (3, .int p1), (0, .ref 64), (1, .int i1), (2, .int i2)], [.int (Int32.ofInt 0)], (x, σ, y))) rfl ?_
    obtain rfl := Option.some.inj h
    exact qE.ret hd9 rfl rfl
  · rw [if_neg c3] at h
    rw [if_pos c3]
    refine qE.steps 5 hd9 (s' := (28, [(4, .int (σ.1 6433)), (3, .int p1), (0, .ref 64), (1, .int i1), (2, .int i2)], [.int i1, .int (p1 + (Int32.ofInt 1)), .ref 64], (x, σ, y))) rfl ?_
    obtain ⟨p4, e5, h⟩ := obind h
    refine qE.call hd9 rfl rfl rfl rfl (t_m_nextFit_150 (by omega) e5) ?_
    refine qE.steps 0 hd9 (s' := (31, [(4, .int (σ.1 6433)), (3, .int p1), (0, .ref 64), (1, .int i1), (2, .int i2)], [.int p4], (x, σ, y))) rfl ?_
    refine qE.steps 5 hd9 (s' := (if σ.1 6408 ≤ p4 then 161 else 42, [(5, .int p4), (4, .int (σ.1 6433)), (3, .int p1), (0, .ref 64), (1, .int i1), (2, .int i2)], [], (x, σ, y))) rfl ?_
    by_cases c6 : σ.1 6408 ≤ p4
    · rw [if_pos c6] at h
      rw [if_pos c6]
      refine qE.steps 5 hd9 (s' := (167, [(5, .int p4), (4, .int (σ.1 6433)), (3, .int p1), (0, .ref 64), (1, .int i1), (2, .int i2)], [.int (σ.1 6433), .int i2, .int i1, .int p1, .ref 64], (x, σ, y))) rfl ?_
      obtain ⟨p7, e8, h⟩ := obind h
      refine qE.call hd9 rfl rfl rfl rfl (t_m_take_153 (by omega) e8) ?_
      refine qE.steps 0 hd9 (s' := (170, [(5, .int p4), (4, .int (σ.1 6433)), (3, .int p1), (0, .ref 64), (1, .int i1), (2, .int i2)], [.int p7.1], (x, p7.2, y))) rfl ?_
      by_cases c9 : p7.1 = 0 ∨ p7.1 = 1
      case neg => rw [if_neg c9] at h; cases h
      rw [if_pos c9] at h
      obtain rfl := Option.some.inj h
      exact qE.ret hd9 rfl (by rcases c9 with c9 | c9 <;> (show qat jT0 jm_12_call_164 (170, [(5, .int p4), (4, .int (σ.1 6433)), (3, .int p1), (0, .ref 64), (1, .int i1), (2, .int i2)], [.int p7.1], (x, p7.2, y)) = some (.inl (some (.int p7.1)))) <;> rw [c9] <;> rfl)
    · rw [if_neg c6] at h
      rw [if_neg c6]
      refine qE.steps 5 hd9 (s' := (51, [(5, .int p4), (4, .int (σ.1 6433)), (3, .int p1), (0, .ref 64), (1, .int i1), (2, .int i2)], [.int i1, .int (σ.1 6433), .ref 94], (x, σ, y))) rfl ?_
      obtain ⟨σ10, e11, h⟩ := obind h
      refine qE.iastM hd9 e11 rfl rfl ?_
      refine qE.steps 5 hd9 (s' := (62, [(5, .int p4), (4, .int (σ.1 6433)), (3, .int p1), (0, .ref 64), (1, .int i1), (2, .int i2)], [.int p4, .int (σ10.1 6433), .ref 95], (x, σ10, y))) rfl ?_
      obtain ⟨σ12, e13, h⟩ := obind h
      refine qE.iastM hd9 e13 rfl rfl ?_
      refine qE.steps 5 hd9 (s' := (72, [(5, .int p4), (4, .int (σ.1 6433)), (3, .int p1), (0, .ref 64), (1, .int i1), (2, .int i2)], [.int i2, .int (σ12.1 6433), .ref 96], (x, σ12, y))) rfl ?_
      obtain ⟨σ14, e15, h⟩ := obind h
      refine qE.iastM hd9 e15 rfl rfl ?_
      refine qE.steps 6 hd9 (s' := (85, [(5, .int p4), (4, .int (σ.1 6433)), (3, .int p1), (0, .ref 64), (1, .int i1), (2, .int i2)], [.int (σ14.1 6425), .int (σ14.1 6433), .ref 97], (x, σ14, y))) rfl ?_
      obtain ⟨σ16, e17, h⟩ := obind h
      refine qE.iastM hd9 e17 rfl rfl ?_
      refine qE.steps 6 hd9 (s' := (98, [(5, .int p4), (4, .int (σ.1 6433)), (3, .int p1), (0, .ref 64), (1, .int i1), (2, .int i2)], [.int (σ16.1 6426), .int (σ16.1 6433), .ref 98], (x, σ16, y))) rfl ?_
      obtain ⟨σ18, e19, h⟩ := obind h
      refine qE.iastM hd9 e19 rfl rfl ?_
      refine qE.steps 6 hd9 (s' := (111, [(5, .int p4), (4, .int (σ.1 6433)), (3, .int p1), (0, .ref 64), (1, .int i1), (2, .int i2)], [.int (σ18.1 6428), .int (σ18.1 6433), .ref 99], (x, σ18, y))) rfl ?_
      obtain ⟨σ20, e21, h⟩ := obind h
      refine qE.iastM hd9 e21 rfl rfl ?_
      refine qE.steps 6 hd9 (s' := (124, [(5, .int p4), (4, .int (σ.1 6433)), (3, .int p1), (0, .ref 64), (1, .int i1), (2, .int i2)], [.int (σ20.1 6432), .int (σ20.1 6433), .ref 100], (x, σ20, y))) rfl ?_
      obtain ⟨σ22, e23, h⟩ := obind h
      refine qE.iastM hd9 e23 rfl rfl ?_
      refine qE.steps 6 hd9 (s' := (137, [(5, .int p4), (4, .int (σ.1 6433)), (3, .int p1), (0, .ref 64), (1, .int i1), (2, .int i2)], [.int (σ22.1 6434), .int (σ22.1 6433), .ref 101], (x, σ22, y))) rfl ?_
      obtain ⟨σ24, e25, h⟩ := obind h
      refine qE.iastM hd9 e25 rfl rfl ?_
      refine qE.steps 6 hd9 (s' := (150, [(5, .int p4), (4, .int (σ.1 6433)), (3, .int p1), (0, .ref 64), (1, .int i1), (2, .int i2)], [.int (σ24.1 6435), .int (σ24.1 6433), .ref 102], (x, σ24, y))) rfl ?_
      obtain ⟨σ26, e27, h⟩ := obind h
      refine qE.iastM hd9 e27 rfl rfl ?_
      obtain ⟨σ28, e29, h⟩ := qlet_ex h
      refine qE.steps 6 hd9 (s' := (161, [(5, .int p4), (4, .int (σ.1 6433)), (3, .int p1), (0, .ref 64), (1, .int i1), (2, .int i2)], [], (x, σ28, y))) (by subst e29; rfl) ?_
      refine qE.steps 5 hd9 (s' := (167, [(5, .int p4), (4, .int (σ.1 6433)), (3, .int p1), (0, .ref 64), (1, .int i1), (2, .int i2)], [.int (σ.1 6433), .int i2, .int i1, .int p1, .ref 64], (x, σ28, y))) rfl ?_
      obtain ⟨p30, e31, h⟩ := obind h
      refine qE.call hd9 rfl rfl rfl rfl (t_m_take_153 (by omega) e31) ?_
      refine qE.steps 0 hd9 (s' := (170, [(5, .int p4), (4, .int (σ.1 6433)), (3, .int p1), (0, .ref 64), (1, .int i1), (2, .int i2)], [.int p30.1], (x, p30.2, y))) rfl ?_
      by_cases c32 : p30.1 = 0 ∨ p30.1 = 1
      case neg => rw [if_neg c32] at h; cases h
      rw [if_pos c32] at h
      obtain rfl := Option.some.inj h
      exact qE.ret hd9 rfl (by rcases c32 with c32 | c32 <;> (show qat jT0 jm_12_call_164 (170, [(5, .int p4), (4, .int (σ.1 6433)), (3, .int p1), (0, .ref 64), (1, .int i1), (2, .int i2)], [.int p30.1], (x, p30.2, y)) = some (.inl (some (.int p30.1)))) <;> rw [c32] <;> rfl)
