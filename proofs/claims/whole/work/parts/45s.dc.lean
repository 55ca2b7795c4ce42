/-! BY PROGRAM (wip/whole/gendc.py): each method as a function over the numbers -/
def m_sleeping_172_l67 : Nat → Int32 → Int32 → qC → Option (Int32 × qC)
  | 0, _, _, _ => none
  | n + 1, i3, i4, σ => if i4 < 0 then some (i3, σ) else (aget (σ.2 86) 1200 i4).bind (fun x2 => (m_sleeping_172_l67 n) (i3 + Int32.ofInt 1) x2 σ)
def m_sleeping_172 (i1 : Int32) (σ : qC) : Option (Int32 × qC) := (m_bad_130 (m_in_129 i1 (Int32.ofInt 0) (Int32.ofInt 25)) σ).bind (fun p1 => if p1.1 = 0 then if p1.2.1 6438 = 0 then some (Int32.ofInt (-1), p1.2) else (aget (p1.2.2 71) 26 i1).bind (fun x5 => if 0 ≤ x5 then (aget (p1.2.2 71) 26 i1).bind (fun x8 => (m_value_158 ((Int32.ofInt (-1)) - x8) p1.2).bind (fun p10 => if 0 ≤ p10 then m_sleeping_172_l67 qF (Int32.ofInt 0) (Int32.ofInt (-1)) p1.2 else (aget (p1.2.2 76) 13000 ((Int32.ofInt (-1)) - p10)).bind (fun x13 => m_sleeping_172_l67 qF (Int32.ofInt 0) x13 p1.2))) else some (Int32.ofInt (-1), p1.2)) else some (Int32.ofInt 0, p1.2))
theorem t_m_sleeping_172_l67 {S : Nat × (Nat → Int32)} {d : Nat} {x : qC} {y : Int64 × Nat} (hd : 10 ≤ d) : ∀ (n : Nat) {i3 : Int32} {i4 : Int32} {σ : qC} {p : (Int32 × qC)}, m_sleeping_172_l67 n i3 i4 σ = some p → qE S d jm_12_sleeping_172 (67, [(0, .ref 64), (3, .int i3), (4, .int i4)], [], (x, σ, y)) ((.inl (some (.int p.1)), (x, p.2, y))) := by
  have hd9 : 9 ≤ d := by omega
  intro n
  induction n with
  | zero =>
    intros
    rename_i h
    unfold m_sleeping_172_l67 at h
    cases h
  | succ n ih =>
    intro i3 i4 σ p h
    unfold m_sleeping_172_l67 at h
    refine qE.steps 2 hd9 (s' := (if i4 < 0 then 87 else 72, [(0, .ref 64), (3, .int i3), (4, .int i4)], [], (x, σ, y))) rfl ?_
    by_cases c1 : i4 < 0
    · rw [if_pos c1] at h
      rw [if_pos c1]
      refine qE.steps 1 hd9 (s' := (88, [(0, .ref 64), (3, .int i3), (4, .int i4)], [.int i3], (x, σ, y))) rfl ?_
      obtain rfl := Option.some.inj h
      exact qE.ret hd9 rfl rfl
    · rw [if_neg c1] at h
      rw [if_neg c1]
      refine qE.steps 4 hd9 (s' := (81, [(3, .int (i3 + Int32.ofInt 1)), (0, .ref 64), (4, .int i4)], [.int i4, .ref 86], (x, σ, y))) rfl ?_
      obtain ⟨x2, e3, h⟩ := obind h
      refine qE.iald hd9 e3 rfl rfl ?_
      refine qE.steps 2 hd9 (s' := (67, [(4, .int x2), (3, .int (i3 + Int32.ofInt 1)), (0, .ref 64)], [], (x, σ, y))) rfl ?_
      exact qE.wk (ih h) ⟨rfl, rfl, rfl, trivial⟩ rfl
theorem t_m_sleeping_172 {S : Nat × (Nat → Int32)} {d : Nat} {x : qC} {y : Int64 × Nat} {i1 : Int32} {σ : qC} {p : (Int32 × qC)} (hd : 10 ≤ d) (h : m_sleeping_172 i1 σ = some p) : qE S d jm_12_sleeping_172 (0, [(0, .ref 64), (1, .int i1)], [], (x, σ, y)) ((.inl (some (.int p.1)), (x, p.2, y))) := by
  have hd9 : 9 ≤ d := by omega
  unfold m_sleeping_172 at h
  refine qE.steps 4 hd9 (s' := (5, [(0, .ref 64), (1, .int i1)], [.int (Int32.ofInt 25), .int (Int32.ofInt 0), .int i1, .ref 64], (x, σ, y))) rfl ?_
  refine qE.call hd9 rfl rfl rfl rfl (t_m_in_129 (by omega) rfl) ?_
  refine qE.steps 0 hd9 (s' := (8, [(0, .ref 64), (1, .int i1)], [.int (m_in_129 i1 (Int32.ofInt 0) (Int32.ofInt 25)), .ref 64], (x, σ, y))) rfl ?_
  obtain ⟨p1, e2, h⟩ := obind h
  refine qE.call hd9 rfl rfl rfl rfl (t_m_bad_130 (by omega) e2) ?_
  refine qE.steps 0 hd9 (s' := (11, [(0, .ref 64), (1, .int i1)], [.int p1.1], (x, p1.2, y))) rfl ?_
  refine qE.steps 1 hd9 (s' := (if p1.1 = 0 then 16 else 14, [(0, .ref 64), (1, .int i1)], [], (x, p1.2, y))) rfl ?_
  by_cases c3 : p1.1 = 0
  · rw [if_pos c3] at h
    rw [if_pos c3]
    refine qE.steps 3 hd9 (s' := (if p1.2.1 6438 = 0 then 32 else 23, [(0, .ref 64), (1, .int i1)], [], (x, p1.2, y))) rfl ?_
    by_cases c4 : p1.2.1 6438 = 0
    · rw [if_pos c4] at h
      rw [if_pos c4]
      refine qE.steps 1 hd9 (s' := (33, [(0, .ref 64), (1, .int i1)], [.int (Int32.ofInt (-1))], (x, p1.2, y))) rfl ?_
      obtain rfl := Option.some.inj h
      exact qE.ret hd9 rfl rfl
    · rw [if_neg c4] at h
      rw [if_neg c4]
      refine qE.steps 3 hd9 (s' := (28, [(0, .ref 64), (1, .int i1)], [.int i1, .ref 71], (x, p1.2, y))) rfl ?_
      obtain ⟨x5, e6, h⟩ := obind h
      refine qE.iald hd9 e6 rfl rfl ?_
      refine qE.steps 1 hd9 (s' := (if 0 ≤ x5 then 34 else 32, [(0, .ref 64), (1, .int i1)], [], (x, p1.2, y))) rfl ?_
      by_cases c7 : 0 ≤ x5
      · rw [if_pos c7] at h
        rw [if_pos c7]
        refine qE.steps 5 hd9 (s' := (41, [(0, .ref 64), (1, .int i1)], [.int i1, .ref 71, .int (Int32.ofInt (-1)), .ref 64], (x, p1.2, y))) rfl ?_
        obtain ⟨x8, e9, h⟩ := obind h
        refine qE.iald hd9 e9 rfl rfl ?_
        refine qE.steps 1 hd9 (s' := (43, [(0, .ref 64), (1, .int i1)], [.int ((Int32.ofInt (-1)) - x8), .ref 64], (x, p1.2, y))) rfl ?_
        obtain ⟨p10, e11, h⟩ := obind h
        refine qE.call hd9 rfl rfl rfl rfl (t_m_value_158 (by omega) e11) ?_
        refine qE.steps 0 hd9 (s' := (46, [(0, .ref 64), (1, .int i1)], [.int p10], (x, p1.2, y))) rfl ?_
        refine qE.steps 5 hd9 (s' := (if 0 ≤ p10 then 64 else 53, [(3, .int (Int32.ofInt 0)), (2, .int p10), (0, .ref 64), (1, .int i1)], [], (x, p1.2, y))) rfl ?_
        by_cases c12 : 0 ≤ p10
        · rw [if_pos c12] at h
          rw [if_pos c12]
          refine qE.steps 2 hd9 (s' := (67, [(4, .int (Int32.ofInt (-1))), (3, .int (Int32.ofInt 0)), (2, .int p10), (0, .ref 64), (1, .int i1)], [], (x, p1.2, y))) rfl ?_
          exact qE.wk (t_m_sleeping_172_l67 hd qF h) ⟨rfl, rfl, rfl, trivial⟩ rfl
        · rw [if_neg c12] at h
          rw [if_neg c12]
          refine qE.steps 5 hd9 (s' := (60, [(3, .int (Int32.ofInt 0)), (2, .int p10), (0, .ref 64), (1, .int i1)], [.int ((Int32.ofInt (-1)) - p10), .ref 76], (x, p1.2, y))) rfl ?_
          obtain ⟨x13, e14, h⟩ := obind h
          refine qE.iald hd9 e14 rfl rfl ?_
          refine qE.steps 2 hd9 (s' := (67, [(4, .int x13), (3, .int (Int32.ofInt 0)), (2, .int p10), (0, .ref 64), (1, .int i1)], [], (x, p1.2, y))) rfl ?_
          exact qE.wk (t_m_sleeping_172_l67 hd qF h) ⟨rfl, rfl, rfl, trivial⟩ rfl
      · rw [if_neg c7] at h
        rw [if_neg c7]
        refine qE.steps 1 hd9 (s' := (33, [(0, .ref 64), (1, .int i1)], [.int (Int32.ofInt (-1))], (x, p1.2, y))) rfl ?_
        obtain rfl := Option.some.inj h
        exact qE.ret hd9 rfl rfl
  · rw [if_neg c3] at h
    rw [if_neg c3]
    refine qE.steps 1 hd9 (s' := (15, [(0, .ref 64), (1, .int i1)], [.int (Int32.ofInt 0)], (x, p1.2, y))) rfl ?_
    obtain rfl := Option.some.inj h
    exact qE.ret hd9 rfl rfl
def m_count_173_l9 : Nat → Int32 → Int32 → Int32 → qC → Option (Int32 × qC)
  | 0, _, _, _, _ => none
  | n + 1, i1, i2, i3, σ => if σ.1 6435 ≤ i3 then if i1 = 0 then some (σ.1 6409, σ) else if i1 = Int32.ofInt 1 then some (σ.1 6407, σ) else if i1 = Int32.ofInt 2 then some (σ.1 6408, σ) else if m_in_129 i1 (Int32.ofInt 3) (Int32.ofInt 6) = 0 then some (Int32.ofInt (-1), σ) else if σ.1 6438 = 0 then some (Int32.ofInt 0, σ) else if i1 = Int32.ofInt 3 then some (σ.1 6431, σ) else if i1 = Int32.ofInt 4 then some (σ.1 6433, σ) else if i1 = Int32.ofInt 5 then some (i2, σ) else some (σ.1 6427, σ) else (aget (σ.2 89) 600 i3).bind (fun x10 => if x10 = 0 then (m_count_173_l9 n) i1 (i2 + Int32.ofInt 1) (i3 + Int32.ofInt 1) σ else (m_count_173_l9 n) i1 i2 (i3 + Int32.ofInt 1) σ)
def m_count_173 (i1 : Int32) (σ : qC) : Option (Int32 × qC) := qlet (upS σ 6411 (Int32.ofInt 0)) (fun σ1 => m_count_173_l9 qF i1 (Int32.ofInt 0) (Int32.ofInt 0) σ1)
theorem t_m_count_173_l9 {S : Nat × (Nat → Int32)} {d : Nat} {x : qC} {y : Int64 × Nat} (hd : 10 ≤ d) : ∀ (n : Nat) {i1 : Int32} {i2 : Int32} {i3 : Int32} {σ : qC} {p : (Int32 × qC)}, m_count_173_l9 n i1 i2 i3 σ = some p → qE S d jm_12_count_173 (9, [(0, .ref 64), (1, .int i1), (2, .int i2), (3, .int i3)], [], (x, σ, y)) ((.inl (some (.int p.1)), (x, p.2, y))) := by
  have hd9 : 9 ≤ d := by omega
  intro n
  induction n with
  | zero =>
    intros
    rename_i h
    unfold m_count_173_l9 at h
    cases h
  | succ n ih =>
    intro i1 i2 i3 σ p h
    unfold m_count_173_l9 at h
    refine qE.steps 4 hd9 (s' := (if σ.1 6435 ≤ i3 then 35 else 17, [(0, .ref 64), (1, .int i1), (2, .int i2), (3, .int i3)], [], (x, σ, y))) rfl ?_
    by_cases c1 : σ.1 6435 ≤ i3
    · rw [if_pos c1] at h
      rw [if_pos c1]
      refine qE.steps 2 hd9 (s' := (if ¬ (i1 = 0) then 44 else 39, [(0, .ref 64), (1, .int i1), (2, .int i2), (3, .int i3)], [], (x, σ, y))) rfl ?_
      by_cases c2 : i1 = 0
      · rw [if_pos c2] at h
        rw [if_neg (not_not_intro c2)]
        refine qE.steps 2 hd9 (s' := (43, [(0, .ref 64), (1, .int i1), (2, .int i2), (3, .int i3)], [.int (σ.1 6409)], (x, σ, y))) rfl ?_
        obtain rfl := Option.some.inj h
        exact qE.ret hd9 rfl rfl
      · rw [if_neg c2] at h
        rw [if_pos c2]
        refine qE.steps 3 hd9 (s' := (if ¬ (i1 = Int32.ofInt 1) then 54 else 49, [(0, .ref 64), (1, .int i1), (2, .int i2), (3, .int i3)], [], (x, σ, y))) rfl ?_
        by_cases c3 : i1 = Int32.ofInt 1
        · rw [if_pos c3] at h
          rw [if_neg (not_not_intro c3)]
          refine qE.steps 2 hd9 (s' := (53, [(0, .ref 64), (1, .int i1), (2, .int i2), (3, .int i3)], [.int (σ.1 6407)], (x, σ, y))) rfl ?_
          obtain rfl := Option.some.inj h
          exact qE.ret hd9 rfl rfl
        · rw [if_neg c3] at h
          rw [if_pos c3]
          refine qE.steps 3 hd9 (s' := (if ¬ (i1 = Int32.ofInt 2) then 64 else 59, [(0, .ref 64), (1, .int i1), (2, .int i2), (3, .int i3)], [], (x, σ, y))) rfl ?_
          by_cases c4 : i1 = Int32.ofInt 2
          · rw [if_pos c4] at h
            rw [if_neg (not_not_intro c4)]
            refine qE.steps 2 hd9 (s' := (63, [(0, .ref 64), (1, .int i1), (2, .int i2), (3, .int i3)], [.int (σ.1 6408)], (x, σ, y))) rfl ?_
            obtain rfl := Option.some.inj h
            exact qE.ret hd9 rfl rfl
          · rw [if_neg c4] at h
            rw [if_pos c4]
            refine qE.steps 3 hd9 (s' := (68, [(0, .ref 64), (1, .int i1), (2, .int i2), (3, .int i3)], [.int (Int32.ofInt 6), .int (Int32.ofInt 3), .int i1], (x, σ, y))) rfl ?_
            refine qE.call hd9 rfl rfl rfl rfl (t_m_in_129 (by omega) rfl) ?_
            refine qE.steps 0 hd9 (s' := (71, [(0, .ref 64), (1, .int i1), (2, .int i2), (3, .int i3)], [.int (m_in_129 i1 (Int32.ofInt 3) (Int32.ofInt 6))], (x, σ, y))) rfl ?_
            refine qE.steps 1 hd9 (s' := (if ¬ (m_in_129 i1 (Int32.ofInt 3) (Int32.ofInt 6) = 0) then 76 else 74, [(0, .ref 64), (1, .int i1), (2, .int i2), (3, .int i3)], [], (x, σ, y))) rfl ?_
            by_cases c5 : m_in_129 i1 (Int32.ofInt 3) (Int32.ofInt 6) = 0
            · rw [if_pos c5] at h
              rw [if_neg (not_not_intro c5)]
              refine qE.steps 1 hd9 (s' := (75, [(0, .ref 64), (1, .int i1), (2, .int i2), (3, .int i3)], [.int (Int32.ofInt (-1))], (x, σ, y))) rfl ?_
              obtain rfl := Option.some.inj h
              exact qE.ret hd9 rfl rfl
            · rw [if_neg c5] at h
              rw [if_pos c5]
              refine qE.steps 3 hd9 (s' := (if ¬ (σ.1 6438 = 0) then 85 else 83, [(0, .ref 64), (1, .int i1), (2, .int i2), (3, .int i3)], [], (x, σ, y))) rfl ?_
              by_cases c6 : σ.1 6438 = 0
              · rw [if_pos c6] at h
                rw [if_neg (not_not_intro c6)]
                refine qE.steps 1 hd9 (s' := (84, [(0, .ref 64), (1, .int i1), (2, .int i2), (3, .int i3)], [.int (Int32.ofInt 0)], (x, σ, y))) rfl ?_
                obtain rfl := Option.some.inj h
                exact qE.ret hd9 rfl rfl
              · rw [if_neg c6] at h
                rw [if_pos c6]
                refine qE.steps 3 hd9 (s' := (if ¬ (i1 = Int32.ofInt 3) then 97 else 90, [(0, .ref 64), (1, .int i1), (2, .int i2), (3, .int i3)], [], (x, σ, y))) rfl ?_
                by_cases c7 : i1 = Int32.ofInt 3
                · rw [if_pos c7] at h
                  rw [if_neg (not_not_intro c7)]
                  refine qE.steps 3 hd9 (s' := (122, [(0, .ref 64), (1, .int i1), (2, .int i2), (3, .int i3)], [.int (σ.1 6431)], (x, σ, y))) rfl ?_
                  obtain rfl := Option.some.inj h
                  exact qE.ret hd9 rfl rfl
                · rw [if_neg c7] at h
                  rw [if_pos c7]
                  refine qE.steps 3 hd9 (s' := (if ¬ (i1 = Int32.ofInt 4) then 109 else 102, [(0, .ref 64), (1, .int i1), (2, .int i2), (3, .int i3)], [], (x, σ, y))) rfl ?_
                  by_cases c8 : i1 = Int32.ofInt 4
                  · rw [if_pos c8] at h
                    rw [if_neg (not_not_intro c8)]
                    refine qE.steps 3 hd9 (s' := (122, [(0, .ref 64), (1, .int i1), (2, .int i2), (3, .int i3)], [.int (σ.1 6433)], (x, σ, y))) rfl ?_
                    obtain rfl := Option.some.inj h
                    exact qE.ret hd9 rfl rfl
                  · rw [if_neg c8] at h
                    rw [if_pos c8]
                    refine qE.steps 3 hd9 (s' := (if ¬ (i1 = Int32.ofInt 5) then 118 else 114, [(0, .ref 64), (1, .int i1), (2, .int i2), (3, .int i3)], [], (x, σ, y))) rfl ?_
                    by_cases c9 : i1 = Int32.ofInt 5
                    · rw [if_pos c9] at h
                      rw [if_neg (not_not_intro c9)]
                      refine qE.steps 2 hd9 (s' := (122, [(0, .ref 64), (1, .int i1), (2, .int i2), (3, .int i3)], [.int i2], (x, σ, y))) rfl ?_
                      obtain rfl := Option.some.inj h
                      exact qE.ret hd9 rfl rfl
                    · rw [if_neg c9] at h
                      rw [if_pos c9]
                      refine qE.steps 2 hd9 (s' := (122, [(0, .ref 64), (1, .int i1), (2, .int i2), (3, .int i3)], [.int (σ.1 6427)], (x, σ, y))) rfl ?_
                      obtain rfl := Option.some.inj h
                      exact qE.ret hd9 rfl rfl
    · rw [if_neg c1] at h
      rw [if_neg c1]
      refine qE.steps 3 hd9 (s' := (22, [(0, .ref 64), (1, .int i1), (2, .int i2), (3, .int i3)], [.int i3, .ref 89], (x, σ, y))) rfl ?_
      obtain ⟨x10, e11, h⟩ := obind h
      refine qE.iald hd9 e11 rfl rfl ?_
      refine qE.steps 1 hd9 (s' := (if ¬ (x10 = 0) then 29 else 26, [(0, .ref 64), (1, .int i1), (2, .int i2), (3, .int i3)], [], (x, σ, y))) rfl ?_
      by_cases c12 : x10 = 0
      · rw [if_pos c12] at h
        rw [if_neg (not_not_intro c12)]
        refine qE.steps 3 hd9 (s' := (9, [(3, .int (i3 + Int32.ofInt 1)), (2, .int (i2 + Int32.ofInt 1)), (0, .ref 64), (1, .int i1)], [], (x, σ, y))) rfl ?_
        exact qE.wk (ih h) ⟨rfl, rfl, rfl, rfl, trivial⟩ rfl
      · rw [if_neg c12] at h
        rw [if_pos c12]
        refine qE.steps 2 hd9 (s' := (9, [(3, .int (i3 + Int32.ofInt 1)), (0, .ref 64), (1, .int i1), (2, .int i2)], [], (x, σ, y))) rfl ?_
        exact qE.wk (ih h) ⟨rfl, rfl, rfl, rfl, trivial⟩ rfl
theorem t_m_count_173 {S : Nat × (Nat → Int32)} {d : Nat} {x : qC} {y : Int64 × Nat} {i1 : Int32} {σ : qC} {p : (Int32 × qC)} (hd : 10 ≤ d) (h : m_count_173 i1 σ = some p) : qE S d jm_12_count_173 (0, [(0, .ref 64), (1, .int i1)], [], (x, σ, y)) ((.inl (some (.int p.1)), (x, p.2, y))) := by
  have hd9 : 9 ≤ d := by omega
  unfold m_count_173 at h
  obtain ⟨σ1, e2, h⟩ := qlet_ex h
  refine qE.steps 3 hd9 (s' := (5, [(0, .ref 64), (1, .int i1)], [], (x, σ1, y))) (by subst e2; rfl) ?_
  refine qE.steps 4 hd9 (s' := (9, [(3, .int (Int32.ofInt 0)), (2, .int (Int32.ofInt 0)), (0, .ref 64), (1, .int i1)], [], (x, σ1, y))) rfl ?_
  exact qE.wk (t_m_count_173_l9 hd qF h) ⟨rfl, rfl, rfl, rfl, trivial⟩ rfl
