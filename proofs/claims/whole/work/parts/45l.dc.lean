/-! BY PROGRAM (wip/whole/gendc.py): each method as a function over the numbers -/
def m_readGoals_137_j99 (K0 : qC → Option (Int32 × qC)) (σ : qC) : Option (Int32 × qC) := (m_passes_136 (Int32.ofInt 44) σ).bind (fun p1 => if p1.1 = 0 then if p1.2.1 6410 = p1.2.1 6407 then some (Int32.ofInt 1, p1.2) else some (Int32.ofInt 0, p1.2) else K0 p1.2)
def m_readGoals_137_j85 (K0 : qC → Option (Int32 × qC)) (k0 : Int32) (σ : qC) : Option (Int32 × qC) := (m_readTerm_134 k0 σ).bind (fun p1 => if p1.1 = 0 then some (Int32.ofInt 0, p1.2) else m_readGoals_137_j99 K0 p1.2)
def m_readGoals_137_j63 (K0 : qC → Option (Int32 × qC)) (i2 : Int32) (σ : qC) : Option (Int32 × qC) := qlet (upS σ 6410 ((σ.1 6410) + (Int32.ofInt 1))) (fun σ1 => if i2 = Int32.ofInt 63 then m_readGoals_137_j85 K0 (Int32.ofInt 1) σ1 else m_readGoals_137_j85 K0 (Int32.ofInt 0) σ1)
def m_readGoals_137_l0 : Nat → qC → Option (Int32 × qC)
  | 0, _ => none
  | n + 1, σ => (m_passes_136 (Int32.ofInt 33) σ).bind (fun p1 => if p1.1 = 0 then (m_look_135 p1.2).bind (fun p4 => qlet (m_in_129 p4 (Int32.ofInt 97) (Int32.ofInt 122)) (fun x6 => (m_readTerm_134 (Int32.ofInt 0) p1.2).bind (fun p8 => if p8.1 = 0 then some (Int32.ofInt 0, p8.2) else (m_look_135 p8.2).bind (fun p11 => if p11 = Int32.ofInt 61 then m_readGoals_137_j63 (m_readGoals_137_l0 n) p11 p8.2 else if p11 = Int32.ofInt 126 then m_readGoals_137_j63 (m_readGoals_137_l0 n) p11 p8.2 else if p11 = Int32.ofInt 60 then m_readGoals_137_j63 (m_readGoals_137_l0 n) p11 p8.2 else if p11 = Int32.ofInt 63 then m_readGoals_137_j63 (m_readGoals_137_l0 n) p11 p8.2 else if x6 = 0 then some (Int32.ofInt 0, p8.2) else m_readGoals_137_j99 (m_readGoals_137_l0 n) p8.2)))) else m_readGoals_137_j99 (m_readGoals_137_l0 n) p1.2)
def m_readGoals_137 (σ : qC) : Option (Int32 × qC) := m_readGoals_137_l0 qF σ
set_option maxRecDepth 20000 in
theorem t_m_readGoals_137_j99 {S : Nat × (Nat → Int32)} {d : Nat} {x : qC} {y : Int64 × Nat} (hd : 12 ≤ d) {K0 : qC → Option (Int32 × qC)} (hK0 : ∀ {σ : qC} {p : (Int32 × qC)}, K0 σ = some p → qE S d jm_12_readGoals_137 (0, [(0, .ref 64)], [], (x, σ, y)) ((.inl (some (.int p.1)), (x, p.2, y)))) {σ : qC} {p : (Int32 × qC)} (h : m_readGoals_137_j99 K0 σ = some p) : qE S d jm_12_readGoals_137 (99, [(0, .ref 64)], [], (x, σ, y)) ((.inl (some (.int p.1)), (x, p.2, y))) := by
  have hd9 : 9 ≤ d := by omega
  unfold m_readGoals_137_j99 at h
  refine qE.steps 2 hd9 (s' := (102, [(0, .ref 64)], [.int (Int32.ofInt 44), .ref 64], (x, σ, y))) rfl ?_
  obtain ⟨p1, e2, h⟩ := obind h
  refine qE.call hd9 rfl rfl rfl rfl (t_m_passes_136 (by omega) e2) ?_
  refine qE.steps 0 hd9 (s' := (105, [(0, .ref 64)], [.int p1.1], (x, p1.2, y))) rfl ?_
  refine qE.steps 1 hd9 (s' := (if ¬ (p1.1 = 0) then 0 else 108, [(0, .ref 64)], [], (x, p1.2, y))) rfl ?_
  by_cases c3 : p1.1 = 0
  · rw [if_pos c3] at h
    rw [if_neg (not_not_intro c3)]
    refine qE.steps 5 hd9 (s' := (if ¬ (p1.2.1 6410 = p1.2.1 6407) then 123 else 119, [(0, .ref 64)], [], (x, p1.2, y))) rfl ?_
    by_cases c4 : p1.2.1 6410 = p1.2.1 6407
    · rw [if_pos c4] at h
      rw [if_neg (not_not_intro c4)]
      refine qE.steps 2 hd9 (s' := (124, [(0, .ref 64)], [.int (Int32.ofInt 1)], (x, p1.2, y))) rfl ?_
      obtain rfl := Option.some.inj h
      exact qE.ret hd9 rfl rfl
    · rw [if_neg c4] at h
      rw [if_pos c4]
      refine qE.steps 1 hd9 (s' := (124, [(0, .ref 64)], [.int (Int32.ofInt 0)], (x, p1.2, y))) rfl ?_
      obtain rfl := Option.some.inj h
      exact qE.ret hd9 rfl rfl
  · rw [if_neg c3] at h
    rw [if_pos c3]
    exact qE.wk (hK0 h) ⟨rfl, trivial⟩ rfl
set_option maxRecDepth 20000 in
theorem t_m_readGoals_137_j85 {S : Nat × (Nat → Int32)} {d : Nat} {x : qC} {y : Int64 × Nat} (hd : 12 ≤ d) {K0 : qC → Option (Int32 × qC)} (hK0 : ∀ {σ : qC} {p : (Int32 × qC)}, K0 σ = some p → qE S d jm_12_readGoals_137 (0, [(0, .ref 64)], [], (x, σ, y)) ((.inl (some (.int p.1)), (x, p.2, y)))) {k0 : Int32} {σ : qC} {p : (Int32 × qC)} (h : m_readGoals_137_j85 K0 k0 σ = some p) : qE S d jm_12_readGoals_137 (85, [(0, .ref 64)], [.int k0, .ref 64], (x, σ, y)) ((.inl (some (.int p.1)), (x, p.2, y))) := by
  have hd9 : 9 ≤ d := by omega
  unfold m_readGoals_137_j85 at h
  obtain ⟨p1, e2, h⟩ := obind h
  refine qE.call hd9 rfl rfl rfl rfl (t_m_readTerm_134 (by omega) e2) ?_
  refine qE.steps 0 hd9 (s' := (88, [(0, .ref 64)], [.int p1.1], (x, p1.2, y))) rfl ?_
  refine qE.steps 1 hd9 (s' := (if ¬ (p1.1 = 0) then 99 else 91, [(0, .ref 64)], [], (x, p1.2, y))) rfl ?_
  by_cases c3 : p1.1 = 0
  · rw [if_pos c3] at h
    rw [if_neg (not_not_intro c3)]
    refine qE.steps 1 hd9 (s' := (92, [(0, .ref 64)], [.int (Int32.ofInt 0)], (x, p1.2, y))) rfl ?_
    obtain rfl := Option.some.inj h
    exact qE.ret hd9 rfl rfl
  · rw [if_neg c3] at h
    rw [if_pos c3]
    exact qE.wk (t_m_readGoals_137_j99 hd hK0 h) ⟨rfl, trivial⟩ rfl
set_option maxRecDepth 20000 in
theorem t_m_readGoals_137_j63 {S : Nat × (Nat → Int32)} {d : Nat} {x : qC} {y : Int64 × Nat} (hd : 12 ≤ d) {K0 : qC → Option (Int32 × qC)} (hK0 : ∀ {σ : qC} {p : (Int32 × qC)}, K0 σ = some p → qE S d jm_12_readGoals_137 (0, [(0, .ref 64)], [], (x, σ, y)) ((.inl (some (.int p.1)), (x, p.2, y)))) {i2 : Int32} {σ : qC} {p : (Int32 × qC)} (h : m_readGoals_137_j63 K0 i2 σ = some p) : qE S d jm_12_readGoals_137 (63, [(0, .ref 64), (2, .int i2)], [], (x, σ, y)) ((.inl (some (.int p.1)), (x, p.2, y))) := by
  have hd9 : 9 ≤ d := by omega
  unfold m_readGoals_137_j63 at h
  obtain ⟨σ1, e2, h⟩ := qlet_ex h
  refine qE.steps 6 hd9 (s' := (73, [(0, .ref 64), (2, .int i2)], [], (x, σ1, y))) (by subst e2; rfl) ?_
  refine qE.steps 4 hd9 (s' := (if ¬ (i2 = Int32.ofInt 63) then 84 else 80, [(0, .ref 64), (2, .int i2)], [.ref 64], (x, σ1, y))) rfl ?_
  by_cases c3 : i2 = Int32.ofInt 63
  · rw [if_pos c3] at h
    rw [if_neg (not_not_intro c3)]
    refine qE.steps 2 hd9 (s' := (85, [(0, .ref 64), (2, .int i2)], [.int (Int32.ofInt 1), .ref 64], (x, σ1, y))) rfl ?_
    exact qE.wk (t_m_readGoals_137_j85 hd hK0 h) ⟨rfl, trivial⟩ rfl
  · rw [if_neg c3] at h
    rw [if_pos c3]
    refine qE.steps 1 hd9 (s' := (85, [(0, .ref 64), (2, .int i2)], [.int (Int32.ofInt 0), .ref 64], (x, σ1, y))) rfl ?_
    exact qE.wk (t_m_readGoals_137_j85 hd hK0 h) ⟨rfl, trivial⟩ rfl
set_option maxRecDepth 20000 in
theorem t_m_readGoals_137_l0 {S : Nat × (Nat → Int32)} {d : Nat} {x : qC} {y : Int64 × Nat} (hd : 12 ≤ d) : ∀ (n : Nat) {σ : qC} {p : (Int32 × qC)}, m_readGoals_137_l0 n σ = some p → qE S d jm_12_readGoals_137 (0, [(0, .ref 64)], [], (x, σ, y)) ((.inl (some (.int p.1)), (x, p.2, y))) := by
  have hd9 : 9 ≤ d := by omega
  intro n
  induction n with
  | zero =>
    intros
    rename_i h
    unfold m_readGoals_137_l0 at h
    cases h
  | succ n ih =>
    intro σ p h
    unfold m_readGoals_137_l0 at h
    refine qE.steps 2 hd9 (s' := (3, [(0, .ref 64)], [.int (Int32.ofInt 33), .ref 64], (x, σ, y))) rfl ?_
    obtain ⟨p1, e2, h⟩ := obind h
    refine qE.call hd9 rfl rfl rfl rfl (t_m_passes_136 (by omega) e2) ?_
    refine qE.steps 0 hd9 (s' := (6, [(0, .ref 64)], [.int p1.1], (x, p1.2, y))) rfl ?_
    refine qE.steps 1 hd9 (s' := (if p1.1 = 0 then 12 else 9, [(0, .ref 64)], [], (x, p1.2, y))) rfl ?_
    by_cases c3 : p1.1 = 0
    · rw [if_pos c3] at h
      rw [if_pos c3]
      refine qE.steps 1 hd9 (s' := (13, [(0, .ref 64)], [.ref 64], (x, p1.2, y))) rfl ?_
      obtain ⟨p4, e5, h⟩ := obind h
      refine qE.call hd9 rfl rfl rfl rfl (t_m_look_135 (by omega) e5) ?_
      refine qE.steps 0 hd9 (s' := (16, [(0, .ref 64)], [.int p4], (x, p1.2, y))) rfl ?_
      refine qE.steps 2 hd9 (s' := (20, [(0, .ref 64)], [.int (Int32.ofInt 122), .int (Int32.ofInt 97), .int p4], (x, p1.2, y))) rfl ?_
      refine qE.call hd9 rfl rfl rfl rfl (t_m_in_129 (by omega) rfl) ?_
      refine qE.steps 0 hd9 (s' := (23, [(0, .ref 64)], [.int (m_in_129 p4 (Int32.ofInt 97) (Int32.ofInt 122))], (x, p1.2, y))) rfl ?_
      obtain ⟨x6, e7, h⟩ := qlet_ex h
      refine qE.steps 1 hd9 (s' := (24, [(1, .int x6), (0, .ref 64)], [], (x, p1.2, y))) (by subst e7; rfl) ?_
      refine qE.steps 2 hd9 (s' := (26, [(1, .int x6), (0, .ref 64)], [.int (Int32.ofInt 0), .ref 64], (x, p1.2, y))) rfl ?_
      obtain ⟨p8, e9, h⟩ := obind h
      refine qE.call hd9 rfl rfl rfl rfl (t_m_readTerm_134 (by omega) e9) ?_
      refine qE.steps 0 hd9 (s' := (29, [(1, .int x6), (0, .ref 64)], [.int p8.1], (x, p8.2, y))) rfl ?_
      refine qE.steps 1 hd9 (s' := (if ¬ (p8.1 = 0) then 34 else 32, [(1, .int x6), (0, .ref 64)], [], (x, p8.2, y))) rfl ?_
      by_cases c10 : p8.1 = 0
      · rw [if_pos c10] at h
        rw [if_neg (not_not_intro c10)]
        refine qE.steps 1 hd9 (s' := (33, [(1, .int x6), (0, .ref 64)], [.int (Int32.ofInt 0)], (x, p8.2, y))) rfl ?_
        obtain rfl := Option.some.inj h
        exact qE.ret hd9 rfl rfl
      · rw [if_neg c10] at h
        rw [if_pos c10]
        refine qE.steps 1 hd9 (s' := (35, [(1, .int x6), (0, .ref 64)], [.ref 64], (x, p8.2, y))) rfl ?_
        obtain ⟨p11, e12, h⟩ := obind h
        refine qE.call hd9 rfl rfl rfl rfl (t_m_look_135 (by omega) e12) ?_
        refine qE.steps 0 hd9 (s' := (38, [(1, .int x6), (0, .ref 64)], [.int p11], (x, p8.2, y))) rfl ?_
        refine qE.steps 4 hd9 (s' := (if p11 = Int32.ofInt 61 then 63 else 45, [(2, .int p11), (1, .int x6), (0, .ref 64)], [], (x, p8.2, y))) rfl ?_
        by_cases c13 : p11 = Int32.ofInt 61
        · rw [if_pos c13] at h
          rw [if_pos c13]
          exact qE.wk (t_m_readGoals_137_j63 hd ih h) ⟨rfl, rfl, trivial⟩ rfl
        · rw [if_neg c13] at h
          rw [if_neg c13]
          refine qE.steps 3 hd9 (s' := (if p11 = Int32.ofInt 126 then 63 else 51, [(2, .int p11), (1, .int x6), (0, .ref 64)], [], (x, p8.2, y))) rfl ?_
          by_cases c14 : p11 = Int32.ofInt 126
          · rw [if_pos c14] at h
            rw [if_pos c14]
            exact qE.wk (t_m_readGoals_137_j63 hd ih h) ⟨rfl, rfl, trivial⟩ rfl
          · rw [if_neg c14] at h
            rw [if_neg c14]
            refine qE.steps 3 hd9 (s' := (if p11 = Int32.ofInt 60 then 63 else 57, [(2, .int p11), (1, .int x6), (0, .ref 64)], [], (x, p8.2, y))) rfl ?_
            by_cases c15 : p11 = Int32.ofInt 60
            · rw [if_pos c15] at h
              rw [if_pos c15]
              exact qE.wk (t_m_readGoals_137_j63 hd ih h) ⟨rfl, rfl, trivial⟩ rfl
            · rw [if_neg c15] at h
              rw [if_neg c15]
              refine qE.steps 3 hd9 (s' := (if ¬ (p11 = Int32.ofInt 63) then 93 else 63, [(2, .int p11), (1, .int x6), (0, .ref 64)], [], (x, p8.2, y))) rfl ?_
              by_cases c16 : p11 = Int32.ofInt 63
              · rw [if_pos c16] at h
                rw [if_neg (not_not_intro c16)]
                exact qE.wk (t_m_readGoals_137_j63 hd ih h) ⟨rfl, rfl, trivial⟩ rfl
              · rw [if_neg c16] at h
                rw [if_pos c16]
                refine qE.steps 2 hd9 (s' := (if ¬ (x6 = 0) then 99 else 97, [(2, .int p11), (1, .int x6), (0, .ref 64)], [], (x, p8.2, y))) rfl ?_
                by_cases c17 : x6 = 0
                · rw [if_pos c17] at h
                  rw [if_neg (not_not_intro c17)]
                  refine qE.steps 1 hd9 (s' := (98, [(2, .int p11), (1, .int x6), (0, .ref 64)], [.int (Int32.ofInt 0)], (x, p8.2, y))) rfl ?_
                  obtain rfl := Option.some.inj h
                  exact qE.ret hd9 rfl rfl
                · rw [if_neg c17] at h
                  rw [if_pos c17]
                  exact qE.wk (t_m_readGoals_137_j99 hd ih h) ⟨rfl, trivial⟩ rfl
    · rw [if_neg c3] at h
      rw [if_neg c3]
      refine qE.steps 1 hd9 (s' := (99, [(0, .ref 64)], [], (x, p1.2, y))) rfl ?_
      exact qE.wk (t_m_readGoals_137_j99 hd ih h) ⟨rfl, trivial⟩ rfl
set_option maxRecDepth 20000 in
theorem t_m_readGoals_137 {S : Nat × (Nat → Int32)} {d : Nat} {x : qC} {y : Int64 × Nat} {σ : qC} {p : (Int32 × qC)} (hd : 12 ≤ d) (h : m_readGoals_137 σ = some p) : qE S d jm_12_readGoals_137 (0, [(0, .ref 64)], [], (x, σ, y)) ((.inl (some (.int p.1)), (x, p.2, y))) := by
  have hd9 : 9 ≤ d := by omega
  unfold m_readGoals_137 at h
  exact qE.wk (t_m_readGoals_137_l0 hd qF h) ⟨rfl, trivial⟩ rfl
def m_readClause_133 (σ : qC) : Option (Int32 × qC) := (m_readTerm_134 (Int32.ofInt 1) σ).bind (fun p1 => if p1.1 = 0 then some (Int32.ofInt 0, p1.2) else (m_passes_136 (Int32.ofInt 58) p1.2).bind (fun p4 => if p4.1 = 0 then if p4.2.1 6410 = p4.2.1 6407 then some (Int32.ofInt 1, p4.2) else some (Int32.ofInt 0, p4.2) else (m_readGoals_137 p4.2).bind (fun p8 => if p8.1 = 0 ∨ p8.1 = 1 then some (p8.1, p8.2) else none)))
set_option maxRecDepth 20000 in
theorem t_m_readClause_133 {S : Nat × (Nat → Int32)} {d : Nat} {x : qC} {y : Int64 × Nat} {σ : qC} {p : (Int32 × qC)} (hd : 13 ≤ d) (h : m_readClause_133 σ = some p) : qE S d jm_12_readClause_133 (0, [(0, .ref 64)], [], (x, σ, y)) ((.inl (some (.int p.1)), (x, p.2, y))) := by
  have hd9 : 9 ≤ d := by omega
  unfold m_readClause_133 at h
  refine qE.steps 2 hd9 (s' := (2, [(0, .ref 64)], [.int (Int32.ofInt 1), .ref 64], (x, σ, y))) rfl ?_
  obtain ⟨p1, e2, h⟩ := obind h
  refine qE.call hd9 rfl rfl rfl rfl (t_m_readTerm_134 (by omega) e2) ?_
  refine qE.steps 0 hd9 (s' := (5, [(0, .ref 64)], [.int p1.1], (x, p1.2, y))) rfl ?_
  refine qE.steps 1 hd9 (s' := (if ¬ (p1.1 = 0) then 10 else 8, [(0, .ref 64)], [], (x, p1.2, y))) rfl ?_
  by_cases c3 : p1.1 = 0
  · rw [if_pos c3] at h
    rw [if_neg (not_not_intro c3)]
    refine qE.steps 1 hd9 (s' := (9, [(0, .ref 64)], [.int (Int32.ofInt 0)], (x, p1.2, y))) rfl ?_
    obtain rfl := Option.some.inj h
    exact qE.ret hd9 rfl rfl
  · rw [if_neg c3] at h
    rw [if_pos c3]
    refine qE.steps 2 hd9 (s' := (13, [(0, .ref 64)], [.int (Int32.ofInt 58), .ref 64], (x, p1.2, y))) rfl ?_
    obtain ⟨p4, e5, h⟩ := obind h
    refine qE.call hd9 rfl rfl rfl rfl (t_m_passes_136 (by omega) e5) ?_
    refine qE.steps 0 hd9 (s' := (16, [(0, .ref 64)], [.int p4.1], (x, p4.2, y))) rfl ?_
    refine qE.steps 1 hd9 (s' := (if p4.1 = 0 then 26 else 19, [(0, .ref 64)], [], (x, p4.2, y))) rfl ?_
    by_cases c6 : p4.1 = 0
    · rw [if_pos c6] at h
      rw [if_pos c6]
      refine qE.steps 5 hd9 (s' := (if ¬ (p4.2.1 6410 = p4.2.1 6407) then 41 else 37, [(0, .ref 64)], [], (x, p4.2, y))) rfl ?_
      by_cases c7 : p4.2.1 6410 = p4.2.1 6407
      · rw [if_pos c7] at h
        rw [if_neg (not_not_intro c7)]
        refine qE.steps 2 hd9 (s' := (42, [(0, .ref 64)], [.int (Int32.ofInt 1)], (x, p4.2, y))) rfl ?_
        obtain rfl := Option.some.inj h
        exact qE.ret hd9 rfl rfl
      · rw [if_neg c7] at h
        rw [if_pos c7]
        refine qE.steps 1 hd9 (s' := (42, [(0, .ref 64)], [.int (Int32.ofInt 0)], (x, p4.2, y))) rfl ?_
        obtain rfl := Option.some.inj h
        exact qE.ret hd9 rfl rfl
    · rw [if_neg c6] at h
      rw [if_neg c6]
      refine qE.steps 1 hd9 (s' := (20, [(0, .ref 64)], [.ref 64], (x, p4.2, y))) rfl ?_
      obtain ⟨p8, e9, h⟩ := obind h
      refine qE.call hd9 rfl rfl rfl rfl (t_m_readGoals_137 (by omega) e9) ?_
      refine qE.steps 0 hd9 (s' := (23, [(0, .ref 64)], [.int p8.1], (x, p8.2, y))) rfl ?_
      refine qE.steps 1 hd9 (s' := (42, [(0, .ref 64)], [.int p8.1], (x, p8.2, y))) rfl ?_
      by_cases c10 : p8.1 = 0 ∨ p8.1 = 1
      case neg => rw [if_neg c10] at h; cases h
      rw [if_pos c10] at h
      obtain rfl := Option.some.inj h
      exact qE.ret hd9 rfl (by rcases c10 with c10 | c10 <;> (show qat jT0 jm_12_readClause_133 (42, [(0, .ref 64)], [.int p8.1], (x, p8.2, y)) = some (.inl (some (.int p8.1)))) <;> rw [c10] <;> rfl)
def m_add_132_l44 : Nat → Int32 → Int32 → qC → Option (Int32 × qC)
  | 0, _, _, _ => none
  | n + 1, i1, i2, σ => if σ.1 6407 ≤ i2 then (aput σ 67 12 (σ.1 6408) (σ.1 6407)).bind (fun σ2 => qlet (upS σ2 6407 (Int32.ofInt 0)) (fun σ4 => (m_bad_130 i1 σ4).bind (fun p6 => if p6.1 = 0 then qlet (upS p6.2 6438 (Int32.ofInt 0)) (fun σ9 => qlet (upS σ9 6408 ((σ9.1 6408) + (Int32.ofInt 1))) (fun σ11 => some (σ11.1 6408, σ11))) else some (Int32.ofInt 0, p6.2)))) else (aget (σ.2 65) 48 i2).bind (fun x13 => (aput σ 66 624 (((σ.1 6408) * (Int32.ofInt 48)) + i2) x13).bind (fun σ15 => (m_add_132_l44 n) i1 (i2 + Int32.ofInt 1) σ15))
def m_add_132 (σ : qC) : Option (Int32 × qC) := if σ.1 6408 = Int32.ofInt 12 then qlet (upS σ 6407 (Int32.ofInt 0)) (fun σ2 => (m_fail_131 (Int32.ofInt 2) σ2).bind (fun p4 => some (p4.1, p4.2))) else qlet (upS σ 6410 (Int32.ofInt 0)) (fun σ6 => (m_readClause_133 σ6).bind (fun p8 => if p8.1 = 0 then qlet (upS p8.2 6409 (p8.2.1 6410)) (fun σ11 => m_add_132_l44 qF p8.1 (Int32.ofInt 0) σ11) else m_add_132_l44 qF p8.1 (Int32.ofInt 0) p8.2))
set_option maxRecDepth 20000 in
theorem t_m_add_132_l44 {S : Nat × (Nat → Int32)} {d : Nat} {x : qC} {y : Int64 × Nat} (hd : 14 ≤ d) : ∀ (n : Nat) {i1 : Int32} {i2 : Int32} {σ : qC} {p : (Int32 × qC)}, m_add_132_l44 n i1 i2 σ = some p → qE S d jm_12_add_132 (44, [(0, .ref 64), (1, .int i1), (2, .int i2)], [], (x, σ, y)) ((.inl (some (.int p.1)), (x, p.2, y))) := by
  have hd9 : 9 ≤ d := by omega
  intro n
  induction n with
  | zero =>
    intros
    rename_i h
    unfold m_add_132_l44 at h
    cases h
  | succ n ih =>
    intro i1 i2 σ p h
    unfold m_add_132_l44 at h
    refine qE.steps 4 hd9 (s' := (if σ.1 6407 ≤ i2 then 78 else 52, [(0, .ref 64), (1, .int i1), (2, .int i2)], [], (x, σ, y))) rfl ?_
    by_cases c1 : σ.1 6407 ≤ i2
    · rw [if_pos c1] at h
      rw [if_pos c1]
      refine qE.steps 6 hd9 (s' := (90, [(0, .ref 64), (1, .int i1), (2, .int i2)], [.int (σ.1 6407), .int (σ.1 6408), .ref 67], (x, σ, y))) rfl ?_
      obtain ⟨σ2, e3, h⟩ := obind h
      refine qE.iastM hd9 e3 rfl rfl ?_
      obtain ⟨σ4, e5, h⟩ := qlet_ex h
      refine qE.steps 3 hd9 (s' := (96, [(0, .ref 64), (1, .int i1), (2, .int i2)], [], (x, σ4, y))) (by subst e5; rfl) ?_
      refine qE.steps 2 hd9 (s' := (98, [(0, .ref 64), (1, .int i1), (2, .int i2)], [.int i1, .ref 64], (x, σ4, y))) rfl ?_
      obtain ⟨p6, e7, h⟩ := obind h
      refine qE.call hd9 rfl rfl rfl rfl (t_m_bad_130 (by omega) e7) ?_
      refine qE.steps 0 hd9 (s' := (101, [(0, .ref 64), (1, .int i1), (2, .int i2)], [.int p6.1], (x, p6.2, y))) rfl ?_
      refine qE.steps 1 hd9 (s' := (if p6.1 = 0 then 106 else 104, [(0, .ref 64), (1, .int i1), (2, .int i2)], [], (x, p6.2, y))) rfl ?_
      by_cases c8 : p6.1 = 0
      · rw [if_pos c8] at h
        rw [if_pos c8]
        obtain ⟨σ9, e10, h⟩ := qlet_ex h
        refine qE.steps 3 hd9 (s' := (111, [(0, .ref 64), (1, .int i1), (2, .int i2)], [], (x, σ9, y))) (by subst e10; rfl) ?_
        obtain ⟨σ11, e12, h⟩ := qlet_ex h
        refine qE.steps 6 hd9 (s' := (121, [(0, .ref 64), (1, .int i1), (2, .int i2)], [], (x, σ11, y))) (by subst e12; rfl) ?_
        refine qE.steps 2 hd9 (s' := (125, [(0, .ref 64), (1, .int i1), (2, .int i2)], [.int (σ11.1 6408)], (x, σ11, y))) rfl ?_
        obtain rfl := Option.some.inj h
        exact qE.ret hd9 rfl rfl
      · rw [if_neg c8] at h
        rw [if_neg c8]
        refine qE.steps 1 hd9 (s' := (105, [(0, .ref 64), (1, .int i1), (2, .int i2)], [.int (Int32.ofInt 0)], (x, p6.2, y))) rfl ?_
        obtain rfl := Option.some.inj h
        exact qE.ret hd9 rfl rfl
    · rw [if_neg c1] at h
      rw [if_neg c1]
      refine qE.steps 11 hd9 (s' := (70, [(0, .ref 64), (1, .int i1), (2, .int i2)], [.int i2, .ref 65, .int (((σ.1 6408) * (Int32.ofInt 48)) + i2), .ref 66], (x, σ, y))) rfl ?_
      obtain ⟨x13, e14, h⟩ := obind h
      refine qE.iald hd9 e14 rfl rfl ?_
      obtain ⟨σ15, e16, h⟩ := obind h
      refine qE.iastM hd9 e16 rfl rfl ?_
      refine qE.steps 2 hd9 (s' := (44, [(2, .int (i2 + Int32.ofInt 1)), (0, .ref 64), (1, .int i1)], [], (x, σ15, y))) rfl ?_
      exact qE.wk (ih h) ⟨rfl, rfl, rfl, trivial⟩ rfl
set_option maxRecDepth 20000 in
theorem t_m_add_132 {S : Nat × (Nat → Int32)} {d : Nat} {x : qC} {y : Int64 × Nat} {σ : qC} {p : (Int32 × qC)} (hd : 14 ≤ d) (h : m_add_132 σ = some p) : qE S d jm_12_add_132 (0, [(0, .ref 64)], [], (x, σ, y)) ((.inl (some (.int p.1)), (x, p.2, y))) := by
  have hd9 : 9 ≤ d := by omega
  unfold m_add_132 at h
  refine qE.steps 4 hd9 (s' := (if ¬ (σ.1 6408 = Int32.ofInt 12) then 20 else 9, [(0, .ref 64)], [], (x, σ, y))) rfl ?_
  by_cases c1 : σ.1 6408 = Int32.ofInt 12
  · rw [if_pos c1] at h
    rw [if_neg (not_not_intro c1)]
    obtain ⟨σ2, e3, h⟩ := qlet_ex h
    refine qE.steps 3 hd9 (s' := (14, [(0, .ref 64)], [], (x, σ2, y))) (by subst e3; rfl) ?_
    refine qE.steps 2 hd9 (s' := (16, [(0, .ref 64)], [.int (Int32.ofInt 2), .ref 64], (x, σ2, y))) rfl ?_
    obtain ⟨p4, e5, h⟩ := obind h
    refine qE.call hd9 rfl rfl rfl rfl (t_m_fail_131 (by omega) e5) ?_
    refine qE.steps 0 hd9 (s' := (19, [(0, .ref 64)], [.int p4.1], (x, p4.2, y))) rfl ?_
    obtain rfl := Option.some.inj h
    exact qE.ret hd9 rfl rfl
  · rw [if_neg c1] at h
    rw [if_pos c1]
    obtain ⟨σ6, e7, h⟩ := qlet_ex h
    refine qE.steps 3 hd9 (s' := (25, [(0, .ref 64)], [], (x, σ6, y))) (by subst e7; rfl) ?_
    refine qE.steps 1 hd9 (s' := (26, [(0, .ref 64)], [.ref 64], (x, σ6, y))) rfl ?_
    obtain ⟨p8, e9, h⟩ := obind h
    refine qE.call hd9 rfl rfl rfl rfl (t_m_readClause_133 (by omega) e9) ?_
    refine qE.steps 0 hd9 (s' := (29, [(0, .ref 64)], [.int p8.1], (x, p8.2, y))) rfl ?_
    refine qE.steps 3 hd9 (s' := (if ¬ (p8.1 = 0) then 42 else 34, [(1, .int p8.1), (0, .ref 64)], [], (x, p8.2, y))) rfl ?_
    by_cases c10 : p8.1 = 0
    · rw [if_pos c10] at h
      rw [if_neg (not_not_intro c10)]
      obtain ⟨σ11, e12, h⟩ := qlet_ex h
      refine qE.steps 4 hd9 (s' := (42, [(1, .int p8.1), (0, .ref 64)], [], (x, σ11, y))) (by subst e12; rfl) ?_
      refine qE.steps 2 hd9 (s' := (44, [(2, .int (Int32.ofInt 0)), (1, .int p8.1), (0, .ref 64)], [], (x, σ11, y))) rfl ?_
      exact qE.wk (t_m_add_132_l44 hd qF h) ⟨rfl, rfl, rfl, trivial⟩ rfl
    · rw [if_neg c10] at h
      rw [if_pos c10]
      refine qE.steps 2 hd9 (s' := (44, [(2, .int (Int32.ofInt 0)), (1, .int p8.1), (0, .ref 64)], [], (x, p8.2, y))) rfl ?_
      exact qE.wk (t_m_add_132_l44 hd qF h) ⟨rfl, rfl, rfl, trivial⟩ rfl
def m_drop_138_l60 (K36 : Int32 → qC → Option qC) : Nat → Int32 → Int32 → qC → Option qC
  | 0, _, _, _ => none
  | n + 1, i2, i3, σ => if Int32.ofInt 48 ≤ i3 then K36 (i2 + Int32.ofInt 1) σ else (aget (σ.2 66) 624 (((i2 * (Int32.ofInt 48)) + (Int32.ofInt 48)) + i3)).bind (fun x2 => (aput σ 66 624 ((i2 * (Int32.ofInt 48)) + i3) x2).bind (fun σ4 => (m_drop_138_l60 K36 n) i2 (i3 + Int32.ofInt 1) σ4))
def m_drop_138_l36 : Nat → Int32 → qC → Option qC
  | 0, _, _ => none
  | n + 1, i2, σ => if σ.1 6408 ≤ i2 then some σ else (aget (σ.2 67) 12 (i2 + (Int32.ofInt 1))).bind (fun x2 => (aput σ 67 12 i2 x2).bind (fun σ4 => m_drop_138_l60 (m_drop_138_l36 n) qF i2 (Int32.ofInt 0) σ4))
def m_drop_138 (i1 : Int32) (σ : qC) : Option qC := (m_bad_130 (m_in_129 i1 (Int32.ofInt 0) ((σ.1 6408) - (Int32.ofInt 1))) σ).bind (fun p1 => if p1.1 = 0 then qlet (upS p1.2 6438 (Int32.ofInt 0)) (fun σ4 => qlet (upS σ4 6408 ((σ4.1 6408) - (Int32.ofInt 1))) (fun σ6 => m_drop_138_l36 qF i1 σ6)) else some p1.2)
set_option maxRecDepth 20000 in
theorem t_m_drop_138_l60 {S : Nat × (Nat → Int32)} {d : Nat} {x : qC} {y : Int64 × Nat} (hd : 10 ≤ d) {K36 : Int32 → qC → Option qC} (hK36 : ∀ {i2 : Int32} {σ : qC} {p : qC}, K36 i2 σ = some p → qE S d jm_12_drop_138 (36, [(0, .ref 64), (2, .int i2)], [], (x, σ, y)) ((.inl none, (x, p, y)))) : ∀ (n : Nat) {i2 : Int32} {i3 : Int32} {σ : qC} {p : qC}, m_drop_138_l60 K36 n i2 i3 σ = some p → qE S d jm_12_drop_138 (60, [(0, .ref 64), (2, .int i2), (3, .int i3)], [], (x, σ, y)) ((.inl none, (x, p, y))) := by
  have hd9 : 9 ≤ d := by omega
  intro n
  induction n with
  | zero =>
    intros
    rename_i h
    unfold m_drop_138_l60 at h
    cases h
  | succ n ih =>
    intro i2 i3 σ p h
    unfold m_drop_138_l60 at h
    refine qE.steps 3 hd9 (s' := (if Int32.ofInt 48 ≤ i3 then 97 else 66, [(0, .ref 64), (2, .int i2), (3, .int i3)], [], (x, σ, y))) rfl ?_
    by_cases c1 : Int32.ofInt 48 ≤ i3
    · rw [if_pos c1] at h
      rw [if_pos c1]
      refine qE.steps 2 hd9 (s' := (36, [(2, .int (i2 + Int32.ofInt 1)), (0, .ref 64), (3, .int i3)], [], (x, σ, y))) rfl ?_
      exact qE.wk (hK36 h) ⟨rfl, rfl, trivial⟩ rfl
    · rw [if_neg c1] at h
      rw [if_neg c1]
      refine qE.steps 16 hd9 (s' := (89, [(0, .ref 64), (2, .int i2), (3, .int i3)], [.int (((i2 * (Int32.ofInt 48)) + (Int32.ofInt 48)) + i3), .ref 66, .int ((i2 * (Int32.ofInt 48)) + i3), .ref 66], (x, σ, y))) rfl ?_
      obtain ⟨x2, e3, h⟩ := obind h
      refine qE.iald hd9 e3 rfl rfl ?_
      obtain ⟨σ4, e5, h⟩ := obind h
      refine qE.iastM hd9 e5 rfl rfl ?_
      refine qE.steps 2 hd9 (s' := (60, [(3, .int (i3 + Int32.ofInt 1)), (0, .ref 64), (2, .int i2)], [], (x, σ4, y))) rfl ?_
      exact qE.wk (ih h) ⟨rfl, rfl, rfl, trivial⟩ rfl
set_option maxRecDepth 20000 in
theorem t_m_drop_138_l36 {S : Nat × (Nat → Int32)} {d : Nat} {x : qC} {y : Int64 × Nat} (hd : 10 ≤ d) : ∀ (n : Nat) {i2 : Int32} {σ : qC} {p : qC}, m_drop_138_l36 n i2 σ = some p → qE S d jm_12_drop_138 (36, [(0, .ref 64), (2, .int i2)], [], (x, σ, y)) ((.inl none, (x, p, y))) := by
  have hd9 : 9 ≤ d := by omega
  intro n
  induction n with
  | zero =>
    intros
    rename_i h
    unfold m_drop_138_l36 at h
    cases h
  | succ n ih =>
    intro i2 σ p h
    unfold m_drop_138_l36 at h
    refine qE.steps 4 hd9 (s' := (if σ.1 6408 ≤ i2 then 103 else 44, [(0, .ref 64), (2, .int i2)], [], (x, σ, y))) rfl ?_
    by_cases c1 : σ.1 6408 ≤ i2
    · rw [if_pos c1] at h
      rw [if_pos c1]
      obtain rfl := Option.some.inj h
      exact qE.ret hd9 rfl rfl
    · rw [if_neg c1] at h
      rw [if_neg c1]
      refine qE.steps 8 hd9 (s' := (56, [(0, .ref 64), (2, .int i2)], [.int (i2 + (Int32.ofInt 1)), .ref 67, .int i2, .ref 67], (x, σ, y))) rfl ?_
      obtain ⟨x2, e3, h⟩ := obind h
      refine qE.iald hd9 e3 rfl rfl ?_
      obtain ⟨σ4, e5, h⟩ := obind h
      refine qE.iastM hd9 e5 rfl rfl ?_
      refine qE.steps 2 hd9 (s' := (60, [(3, .int (Int32.ofInt 0)), (0, .ref 64), (2, .int i2)], [], (x, σ4, y))) rfl ?_
      exact qE.wk (t_m_drop_138_l60 hd ih qF h) ⟨rfl, rfl, rfl, trivial⟩ rfl
set_option maxRecDepth 20000 in
theorem t_m_drop_138 {S : Nat × (Nat → Int32)} {d : Nat} {x : qC} {y : Int64 × Nat} {i1 : Int32} {σ : qC} {p : qC} (hd : 10 ≤ d) (h : m_drop_138 i1 σ = some p) : qE S d jm_12_drop_138 (0, [(0, .ref 64), (1, .int i1)], [], (x, σ, y)) ((.inl none, (x, p, y))) := by
  have hd9 : 9 ≤ d := by omega
  unfold m_drop_138 at h
  refine qE.steps 7 hd9 (s' := (9, [(0, .ref 64), (1, .int i1)], [.int ((σ.1 6408) - (Int32.ofInt 1)), .int (Int32.ofInt 0), .int i1, .ref 64], (x, σ, y))) rfl ?_
  refine qE.call hd9 rfl rfl rfl rfl (t_m_in_129 (by omega) rfl) ?_
  refine qE.steps 0 hd9 (s' := (12, [(0, .ref 64), (1, .int i1)], [.int (m_in_129 i1 (Int32.ofInt 0) ((σ.1 6408) - (Int32.ofInt 1))), .ref 64], (x, σ, y))) rfl ?_
  obtain ⟨p1, e2, h⟩ := obind h
  refine qE.call hd9 rfl rfl rfl rfl (t_m_bad_130 (by omega) e2) ?_
  refine qE.steps 0 hd9 (s' := (15, [(0, .ref 64), (1, .int i1)], [.int p1.1], (x, p1.2, y))) rfl ?_
  refine qE.steps 1 hd9 (s' := (if p1.1 = 0 then 19 else 18, [(0, .ref 64), (1, .int i1)], [], (x, p1.2, y))) rfl ?_
  by_cases c3 : p1.1 = 0
  · rw [if_pos c3] at h
    rw [if_pos c3]
    obtain ⟨σ4, e5, h⟩ := qlet_ex h
    refine qE.steps 3 hd9 (s' := (24, [(0, .ref 64), (1, .int i1)], [], (x, σ4, y))) (by subst e5; rfl) ?_
    obtain ⟨σ6, e7, h⟩ := qlet_ex h
    refine qE.steps 6 hd9 (s' := (34, [(0, .ref 64), (1, .int i1)], [], (x, σ6, y))) (by subst e7; rfl) ?_
    refine qE.steps 2 hd9 (s' := (36, [(2, .int i1), (0, .ref 64), (1, .int i1)], [], (x, σ6, y))) rfl ?_
    exact qE.wk (t_m_drop_138_l36 hd qF h) ⟨rfl, rfl, trivial⟩ rfl
  · rw [if_neg c3] at h
    rw [if_neg c3]
    obtain rfl := Option.some.inj h
    exact qE.ret hd9 rfl rfl
def m_goal_144 (i1 : Int32) (i2 : Int32) (i3 : Int32) (i4 : Int32) (i5 : Int32) (σ : qC) : Option (Int32 × qC) := (aput σ 78 14000 (σ.1 6428) i1).bind (fun σ1 => (aput σ1 79 14000 (σ1.1 6428) i2).bind (fun σ3 => (aput σ3 80 14000 (σ3.1 6428) i3).bind (fun σ5 => (aput σ5 81 14000 (σ5.1 6428) i4).bind (fun σ7 => (aput σ7 82 14000 (σ7.1 6428) i5).bind (fun σ9 => qlet (upS σ9 6428 ((σ9.1 6428) + (Int32.ofInt 1))) (fun σ11 => some ((σ11.1 6428) - (Int32.ofInt 1), σ11)))))))
set_option maxRecDepth 20000 in
theorem t_m_goal_144 {S : Nat × (Nat → Int32)} {d : Nat} {x : qC} {y : Int64 × Nat} {i1 : Int32} {i2 : Int32} {i3 : Int32} {i4 : Int32} {i5 : Int32} {σ : qC} {p : (Int32 × qC)} (hd : 9 ≤ d) (h : m_goal_144 i1 i2 i3 i4 i5 σ = some p) : qE S d jm_12_goal_144 (0, [(0, .ref 64), (1, .int i1), (2, .int i2), (3, .int i3), (4, .int i4), (5, .int i5)], [], (x, σ, y)) ((.inl (some (.int p.1)), (x, p.2, y))) := by
  have hd9 : 9 ≤ d := by omega
  unfold m_goal_144 at h
  refine qE.steps 5 hd9 (s' := (9, [(0, .ref 64), (1, .int i1), (2, .int i2), (3, .int i3), (4, .int i4), (5, .int i5)], [.int i1, .int (σ.1 6428), .ref 78], (x, σ, y))) rfl ?_
  obtain ⟨σ1, e2, h⟩ := obind h
  refine qE.iastM hd9 e2 rfl rfl ?_
  refine qE.steps 5 hd9 (s' := (19, [(0, .ref 64), (1, .int i1), (2, .int i2), (3, .int i3), (4, .int i4), (5, .int i5)], [.int i2, .int (σ1.1 6428), .ref 79], (x, σ1, y))) rfl ?_
  obtain ⟨σ3, e4, h⟩ := obind h
  refine qE.iastM hd9 e4 rfl rfl ?_
  refine qE.steps 5 hd9 (s' := (29, [(0, .ref 64), (1, .int i1), (2, .int i2), (3, .int i3), (4, .int i4), (5, .int i5)], [.int i3, .int (σ3.1 6428), .ref 80], (x, σ3, y))) rfl ?_
  obtain ⟨σ5, e6, h⟩ := obind h
  refine qE.iastM hd9 e6 rfl rfl ?_
  refine qE.steps 5 hd9 (s' := (40, [(0, .ref 64), (1, .int i1), (2, .int i2), (3, .int i3), (4, .int i4), (5, .int i5)], [.int i4, .int (σ5.1 6428), .ref 81], (x, σ5, y))) rfl ?_
  obtain ⟨σ7, e8, h⟩ := obind h
  refine qE.iastM hd9 e8 rfl rfl ?_
  refine qE.steps 5 hd9 (s' := (51, [(0, .ref 64), (1, .int i1), (2, .int i2), (3, .int i3), (4, .int i4), (5, .int i5)], [.int i5, .int (σ7.1 6428), .ref 82], (x, σ7, y))) rfl ?_
  obtain ⟨σ9, e10, h⟩ := obind h
  refine qE.iastM hd9 e10 rfl rfl ?_
  obtain ⟨σ11, e12, h⟩ := qlet_ex h
  refine qE.steps 6 hd9 (s' := (62, [(0, .ref 64), (1, .int i1), (2, .int i2), (3, .int i3), (4, .int i4), (5, .int i5)], [], (x, σ11, y))) (by subst e12; rfl) ?_
  refine qE.steps 4 hd9 (s' := (68, [(0, .ref 64), (1, .int i1), (2, .int i2), (3, .int i3), (4, .int i4), (5, .int i5)], [.int ((σ11.1 6428) - (Int32.ofInt 1))], (x, σ11, y))) rfl ?_
  obtain rfl := Option.some.inj h
  exact qE.ret hd9 rfl rfl
def m_at_143 (i1 : Int32) (σ : qC) : Option Int32 := if σ.1 6413 ≤ i1 then some (Int32.ofInt 0) else (aget (σ.2 66) 624 i1).bind (fun x2 => some x2)
set_option maxRecDepth 20000 in
theorem t_m_at_143 {S : Nat × (Nat → Int32)} {d : Nat} {x : qC} {y : Int64 × Nat} {i1 : Int32} {σ : qC} {p : Int32} (hd : 9 ≤ d) (h : m_at_143 i1 σ = some p) : qE S d jm_12_at_143 (0, [(0, .ref 64), (1, .int i1)], [], (x, σ, y)) ((.inl (some (.int p)), (x, σ, y))) := by
  have hd9 : 9 ≤ d := by omega
  unfold m_at_143 at h
  refine qE.steps 4 hd9 (s' := (if σ.1 6413 ≤ i1 then 17 else 8, [(0, .ref 64), (1, .int i1)], [], (x, σ, y))) rfl ?_
  by_cases c1 : σ.1 6413 ≤ i1
  · rw [if_pos c1] at h
    rw [if_pos c1]
    refine qE.steps 1 hd9 (s' := (18, [(0, .ref 64), (1, .int i1)], [.int (Int32.ofInt 0)], (x, σ, y))) rfl ?_
    obtain rfl := Option.some.inj h
    exact qE.ret hd9 rfl rfl
  · rw [if_neg c1] at h
    rw [if_neg c1]
    refine qE.steps 3 hd9 (s' := (13, [(0, .ref 64), (1, .int i1)], [.int i1, .ref 66], (x, σ, y))) rfl ?_
    obtain ⟨x2, e3, h⟩ := obind h
    refine qE.iald hd9 e3 rfl rfl ?_
    refine qE.steps 1 hd9 (s' := (18, [(0, .ref 64), (1, .int i1)], [.int x2], (x, σ, y))) rfl ?_
    obtain rfl := Option.some.inj h
    exact qE.ret hd9 rfl rfl
def m_cell_146 (i1 : Int32) (σ : qC) : Option (Int32 × qC) := (aput σ 72 24000 (σ.1 6425) i1).bind (fun σ1 => (aput σ1 73 24000 (σ1.1 6425) (Int32.ofInt 0)).bind (fun σ3 => qlet (upS σ3 6425 ((σ3.1 6425) + (Int32.ofInt 1))) (fun σ5 => some ((σ5.1 6425) - (Int32.ofInt 1), σ5))))
set_option maxRecDepth 20000 in
theorem t_m_cell_146 {S : Nat × (Nat → Int32)} {d : Nat} {x : qC} {y : Int64 × Nat} {i1 : Int32} {σ : qC} {p : (Int32 × qC)} (hd : 9 ≤ d) (h : m_cell_146 i1 σ = some p) : qE S d jm_12_cell_146 (0, [(0, .ref 64), (1, .int i1)], [], (x, σ, y)) ((.inl (some (.int p.1)), (x, p.2, y))) := by
  have hd9 : 9 ≤ d := by omega
  unfold m_cell_146 at h
  refine qE.steps 5 hd9 (s' := (9, [(0, .ref 64), (1, .int i1)], [.int i1, .int (σ.1 6425), .ref 72], (x, σ, y))) rfl ?_
  obtain ⟨σ1, e2, h⟩ := obind h
  refine qE.iastM hd9 e2 rfl rfl ?_
  refine qE.steps 5 hd9 (s' := (19, [(0, .ref 64), (1, .int i1)], [.int (Int32.ofInt 0), .int (σ1.1 6425), .ref 73], (x, σ1, y))) rfl ?_
  obtain ⟨σ3, e4, h⟩ := obind h
  refine qE.iastM hd9 e4 rfl rfl ?_
  obtain ⟨σ5, e6, h⟩ := qlet_ex h
  refine qE.steps 6 hd9 (s' := (30, [(0, .ref 64), (1, .int i1)], [], (x, σ5, y))) (by subst e6; rfl) ?_
  refine qE.steps 4 hd9 (s' := (36, [(0, .ref 64), (1, .int i1)], [.int ((σ5.1 6425) - (Int32.ofInt 1))], (x, σ5, y))) rfl ?_
  obtain rfl := Option.some.inj h
  exact qE.ret hd9 rfl rfl
def m_hang_147 (i1 : Int32) (i2 : Int32) (σ : qC) : Option qC := (aget (σ.2 68) 8 i1).bind (fun x1 => (aget (σ.2 73) 24000 x1).bind (fun x3 => (aput σ 74 72000 ((x1 * (Int32.ofInt 3)) + x3) i2).bind (fun σ5 => (aget (σ5.2 73) 24000 x1).bind (fun x7 => (aput σ5 73 24000 x1 (x7 + (Int32.ofInt 1))).bind (fun σ9 => some σ9)))))
set_option maxRecDepth 20000 in
theorem t_m_hang_147 {S : Nat × (Nat → Int32)} {d : Nat} {x : qC} {y : Int64 × Nat} {i1 : Int32} {i2 : Int32} {σ : qC} {p : qC} (hd : 9 ≤ d) (h : m_hang_147 i1 i2 σ = some p) : qE S d jm_12_hang_147 (0, [(0, .ref 64), (1, .int i1), (2, .int i2)], [], (x, σ, y)) ((.inl none, (x, p, y))) := by
  have hd9 : 9 ≤ d := by omega
  unfold m_hang_147 at h
  refine qE.steps 3 hd9 (s' := (5, [(0, .ref 64), (1, .int i1), (2, .int i2)], [.int i1, .ref 68], (x, σ, y))) rfl ?_
  obtain ⟨x1, e2, h⟩ := obind h
  refine qE.iald hd9 e2 rfl rfl ?_
  refine qE.steps 9 hd9 (s' := (19, [(3, .int x1), (0, .ref 64), (1, .int i1), (2, .int i2)], [.int x1, .ref 73, .int (x1 * (Int32.ofInt 3)), .ref 74], (x, σ, y))) rfl ?_
  obtain ⟨x3, e4, h⟩ := obind h
  refine qE.iald hd9 e4 rfl rfl ?_
  refine qE.steps 2 hd9 (s' := (22, [(3, .int x1), (0, .ref 64), (1, .int i1), (2, .int i2)], [.int i2, .int ((x1 * (Int32.ofInt 3)) + x3), .ref 74], (x, σ, y))) rfl ?_
  obtain ⟨σ5, e6, h⟩ := obind h
  refine qE.iastM hd9 e6 rfl rfl ?_
  refine qE.steps 4 hd9 (s' := (29, [(3, .int x1), (0, .ref 64), (1, .int i1), (2, .int i2)], [.int x1, .ref 73, .int x1, .ref 73], (x, σ5, y))) rfl ?_
  obtain ⟨x7, e8, h⟩ := obind h
  refine qE.iald hd9 e8 rfl rfl ?_
  refine qE.steps 2 hd9 (s' := (32, [(3, .int x1), (0, .ref 64), (1, .int i1), (2, .int i2)], [.int (x7 + (Int32.ofInt 1)), .int x1, .ref 73], (x, σ5, y))) rfl ?_
  obtain ⟨σ9, e10, h⟩ := obind h
  refine qE.iastM hd9 e10 rfl rfl ?_
  obtain rfl := Option.some.inj h
  exact qE.ret hd9 rfl rfl
