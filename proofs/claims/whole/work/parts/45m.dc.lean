/-! BY PROGRAM (wip/whole/gendc.py): each method as a function over the numbers -/
def m_build_145_l102 (K2 : Int32 → qC → Option (Int32 × qC)) : Nat → Int32 → Int32 → qC → Option (Int32 × qC)
  | 0, _, _, _ => none
  | n + 1, i1, i3, σ => if i1 ≤ 0 then if i1 = 0 then some (i3, σ) else qlet (upS σ 6412 ((σ.1 6412) + (Int32.ofInt 1))) (fun σ3 => K2 i1 σ3) else (m_at_143 (σ.1 6412) σ).bind (fun p5 => if p5 = Int32.ofInt 41 then qlet (upS σ 6412 ((σ.1 6412) + (Int32.ofInt 1))) (fun σ8 => (aget (σ8.2 68) 8 i1).bind (fun x10 => (m_build_145_l102 K2 n) (i1 + Int32.ofInt (-1)) x10 σ8)) else if i1 = 0 then some (i3, σ) else qlet (upS σ 6412 ((σ.1 6412) + (Int32.ofInt 1))) (fun σ13 => K2 i1 σ13))
def m_build_145_l2 : Nat → Int32 → qC → Option (Int32 × qC)
  | 0, _, _ => none
  | n + 1, i1, σ => (m_at_143 (σ.1 6412) σ).bind (fun p1 => if m_in_129 p1 (Int32.ofInt 65) (Int32.ofInt 90) = 0 then (m_cell_146 p1 σ).bind (fun p4 => qlet (upS p4.2 6412 ((p4.2.1 6412) + (Int32.ofInt 1))) (fun σ6 => if i1 ≤ 0 then if p4.1 < 0 then m_build_145_l102 (m_build_145_l2 n) qF i1 p4.1 σ6 else (m_at_143 (σ6.1 6412) σ6).bind (fun p10 => if p10 = Int32.ofInt 40 then qlet (upS σ6 6412 ((σ6.1 6412) + (Int32.ofInt 1))) (fun σ13 => (aput σ13 68 8 (i1 + Int32.ofInt 1) p4.1).bind (fun σ15 => (m_build_145_l2 n) (i1 + Int32.ofInt 1) σ15)) else m_build_145_l102 (m_build_145_l2 n) qF i1 p4.1 σ6) else (m_hang_147 i1 p4.1 σ6).bind (fun p17 => if p4.1 < 0 then m_build_145_l102 (m_build_145_l2 n) qF i1 p4.1 p17 else (m_at_143 (p17.1 6412) p17).bind (fun p20 => if p20 = Int32.ofInt 40 then qlet (upS p17 6412 ((p17.1 6412) + (Int32.ofInt 1))) (fun σ23 => (aput σ23 68 8 (i1 + Int32.ofInt 1) p4.1).bind (fun σ25 => (m_build_145_l2 n) (i1 + Int32.ofInt 1) σ25)) else m_build_145_l102 (m_build_145_l2 n) qF i1 p4.1 p17)))) else (aget (σ.2 70) 26 (p1 - (Int32.ofInt 65))).bind (fun x27 => qlet (upS σ 6412 ((σ.1 6412) + (Int32.ofInt 1))) (fun σ29 => if i1 ≤ 0 then if (Int32.ofInt (-1)) - x27 < 0 then m_build_145_l102 (m_build_145_l2 n) qF i1 ((Int32.ofInt (-1)) - x27) σ29 else (m_at_143 (σ29.1 6412) σ29).bind (fun p33 => if p33 = Int32.ofInt 40 then qlet (upS σ29 6412 ((σ29.1 6412) + (Int32.ofInt 1))) (fun σ36 => (aput σ36 68 8 (i1 + Int32.ofInt 1) ((Int32.ofInt (-1)) - x27)).bind (fun σ38 => (m_build_145_l2 n) (i1 + Int32.ofInt 1) σ38)) else m_build_145_l102 (m_build_145_l2 n) qF i1 ((Int32.ofInt (-1)) - x27) σ29) else (m_hang_147 i1 ((Int32.ofInt (-1)) - x27) σ29).bind (fun p40 => if (Int32.ofInt (-1)) - x27 < 0 then m_build_145_l102 (m_build_145_l2 n) qF i1 ((Int32.ofInt (-1)) - x27) p40 else (m_at_143 (p40.1 6412) p40).bind (fun p43 => if p43 = Int32.ofInt 40 then qlet (upS p40 6412 ((p40.1 6412) + (Int32.ofInt 1))) (fun σ46 => (aput σ46 68 8 (i1 + Int32.ofInt 1) ((Int32.ofInt (-1)) - x27)).bind (fun σ48 => (m_build_145_l2 n) (i1 + Int32.ofInt 1) σ48)) else m_build_145_l102 (m_build_145_l2 n) qF i1 ((Int32.ofInt (-1)) - x27) p40)))))
def m_build_145 (σ : qC) : Option (Int32 × qC) := m_build_145_l2 qF (Int32.ofInt 0) σ
set_option maxRecDepth 20000 in
theorem t_m_build_145_l102 {S : Nat × (Nat → Int32)} {d : Nat} {x : qC} {y : Int64 × Nat} (hd : 10 ≤ d) {K2 : Int32 → qC → Option (Int32 × qC)} (hK2 : ∀ {i1 : Int32} {σ : qC} {p : (Int32 × qC)}, K2 i1 σ = some p → qE S d jm_12_build_145 (2, [(0, .ref 64), (1, .int i1)], [], (x, σ, y)) ((.inl (some (.int p.1)), (x, p.2, y)))) : ∀ (n : Nat) {i1 : Int32} {i3 : Int32} {σ : qC} {p : (Int32 × qC)}, m_build_145_l102 K2 n i1 i3 σ = some p → qE S d jm_12_build_145 (102, [(0, .ref 64), (1, .int i1), (3, .int i3)], [], (x, σ, y)) ((.inl (some (.int p.1)), (x, p.2, y))) := by
  have hd9 : 9 ≤ d := by omega
  intro n
  induction n with
  | zero =>
    intros
    rename_i h
    unfold m_build_145_l102 at h
    cases h
  | succ n ih =>
    intro i1 i3 σ p h
    unfold m_build_145_l102 at h
    refine qE.steps 2 hd9 (s' := (if i1 ≤ 0 then 142 else 106, [(0, .ref 64), (1, .int i1), (3, .int i3)], [], (x, σ, y))) rfl ?_
    by_cases c1 : i1 ≤ 0
    · rw [if_pos c1] at h
      rw [if_pos c1]
      refine qE.steps 2 hd9 (s' := (if ¬ (i1 = 0) then 148 else 146, [(0, .ref 64), (1, .int i1), (3, .int i3)], [], (x, σ, y))) rfl ?_
      by_cases c2 : i1 = 0
      · rw [if_pos c2] at h
        rw [if_neg (not_not_intro c2)]
        refine qE.steps 1 hd9 (s' := (147, [(0, .ref 64), (1, .int i1), (3, .int i3)], [.int i3], (x, σ, y))) rfl ?_
        obtain rfl := Option.some.inj h
        exact qE.ret hd9 rfl rfl
      · rw [if_neg c2] at h
        rw [if_pos c2]
        obtain ⟨σ3, e4, h⟩ := qlet_ex h
        refine qE.steps 6 hd9 (s' := (158, [(0, .ref 64), (1, .int i1), (3, .int i3)], [], (x, σ3, y))) (by subst e4; rfl) ?_
        refine qE.steps 1 hd9 (s' := (2, [(0, .ref 64), (1, .int i1), (3, .int i3)], [], (x, σ3, y))) rfl ?_
        exact qE.wk (hK2 h) ⟨rfl, rfl, trivial⟩ rfl
    · rw [if_neg c1] at h
      rw [if_neg c1]
      refine qE.steps 3 hd9 (s' := (111, [(0, .ref 64), (1, .int i1), (3, .int i3)], [.int (σ.1 6412), .ref 64], (x, σ, y))) rfl ?_
      obtain ⟨p5, e6, h⟩ := obind h
      refine qE.call hd9 rfl rfl rfl rfl (t_m_at_143 (by omega) e6) ?_
      refine qE.steps 0 hd9 (s' := (114, [(0, .ref 64), (1, .int i1), (3, .int i3)], [.int p5], (x, σ, y))) rfl ?_
      refine qE.steps 2 hd9 (s' := (if ¬ (p5 = Int32.ofInt 41) then 142 else 119, [(0, .ref 64), (1, .int i1), (3, .int i3)], [], (x, σ, y))) rfl ?_
      by_cases c7 : p5 = Int32.ofInt 41
      · rw [if_pos c7] at h
        rw [if_neg (not_not_intro c7)]
        obtain ⟨σ8, e9, h⟩ := qlet_ex h
        refine qE.steps 6 hd9 (s' := (129, [(0, .ref 64), (1, .int i1), (3, .int i3)], [], (x, σ8, y))) (by subst e9; rfl) ?_
        refine qE.steps 3 hd9 (s' := (134, [(0, .ref 64), (1, .int i1), (3, .int i3)], [.int i1, .ref 68], (x, σ8, y))) rfl ?_
        obtain ⟨x10, e11, h⟩ := obind h
        refine qE.iald hd9 e11 rfl rfl ?_
        refine qE.steps 3 hd9 (s' := (102, [(1, .int (i1 + Int32.ofInt (-1))), (3, .int x10), (0, .ref 64)], [], (x, σ8, y))) rfl ?_
        exact qE.wk (ih h) ⟨rfl, rfl, rfl, trivial⟩ rfl
      · rw [if_neg c7] at h
        rw [if_pos c7]
        refine qE.steps 2 hd9 (s' := (if ¬ (i1 = 0) then 148 else 146, [(0, .ref 64), (1, .int i1), (3, .int i3)], [], (x, σ, y))) rfl ?_
        by_cases c12 : i1 = 0
        · rw [if_pos c12] at h
          rw [if_neg (not_not_intro c12)]
          refine qE.steps 1 hd9 (s' := (147, [(0, .ref 64), (1, .int i1), (3, .int i3)], [.int i3], (x, σ, y))) rfl ?_
          obtain rfl := Option.some.inj h
          exact qE.ret hd9 rfl rfl
        · rw [if_neg c12] at h
          rw [if_pos c12]
          obtain ⟨σ13, e14, h⟩ := qlet_ex h
          refine qE.steps 6 hd9 (s' := (158, [(0, .ref 64), (1, .int i1), (3, .int i3)], [], (x, σ13, y))) (by subst e14; rfl) ?_
          refine qE.steps 1 hd9 (s' := (2, [(0, .ref 64), (1, .int i1), (3, .int i3)], [], (x, σ13, y))) rfl ?_
          exact qE.wk (hK2 h) ⟨rfl, rfl, trivial⟩ rfl
set_option maxRecDepth 20000 in
theorem t_m_build_145_l2 {S : Nat × (Nat → Int32)} {d : Nat} {x : qC} {y : Int64 × Nat} (hd : 10 ≤ d) : ∀ (n : Nat) {i1 : Int32} {σ : qC} {p : (Int32 × qC)}, m_build_145_l2 n i1 σ = some p → qE S d jm_12_build_145 (2, [(0, .ref 64), (1, .int i1)], [], (x, σ, y)) ((.inl (some (.int p.1)), (x, p.2, y))) := by
  have hd9 : 9 ≤ d := by omega
  intro n
  induction n with
  | zero =>
    intros
    rename_i h
    unfold m_build_145_l2 at h
    cases h
  | succ n ih =>
    intro i1 σ p h
    unfold m_build_145_l2 at h
    refine qE.steps 3 hd9 (s' := (7, [(0, .ref 64), (1, .int i1)], [.int (σ.1 6412), .ref 64], (x, σ, y))) rfl ?_
    obtain ⟨p1, e2, h⟩ := obind h
    refine qE.call hd9 rfl rfl rfl rfl (t_m_at_143 (by omega) e2) ?_
    refine qE.steps 0 hd9 (s' := (10, [(0, .ref 64), (1, .int i1)], [.int p1], (x, σ, y))) rfl ?_
    refine qE.steps 4 hd9 (s' := (16, [(2, .int p1), (0, .ref 64), (1, .int i1)], [.int (Int32.ofInt 90), .int (Int32.ofInt 65), .int p1], (x, σ, y))) rfl ?_
    refine qE.call hd9 rfl rfl rfl rfl (t_m_in_129 (by omega) rfl) ?_
    refine qE.steps 0 hd9 (s' := (19, [(2, .int p1), (0, .ref 64), (1, .int i1)], [.int (m_in_129 p1 (Int32.ofInt 65) (Int32.ofInt 90))], (x, σ, y))) rfl ?_
    refine qE.steps 1 hd9 (s' := (if m_in_129 p1 (Int32.ofInt 65) (Int32.ofInt 90) = 0 then 36 else 22, [(2, .int p1), (0, .ref 64), (1, .int i1)], [], (x, σ, y))) rfl ?_
    by_cases c3 : m_in_129 p1 (Int32.ofInt 65) (Int32.ofInt 90) = 0
    · rw [if_pos c3] at h
      rw [if_pos c3]
      refine qE.steps 2 hd9 (s' := (38, [(2, .int p1), (0, .ref 64), (1, .int i1)], [.int p1, .ref 64], (x, σ, y))) rfl ?_
      obtain ⟨p4, e5, h⟩ := obind h
      refine qE.call hd9 rfl rfl rfl rfl (t_m_cell_146 (by omega) e5) ?_
      refine qE.steps 0 hd9 (s' := (41, [(2, .int p1), (0, .ref 64), (1, .int i1)], [.int p4.1], (x, p4.2, y))) rfl ?_
      obtain ⟨σ6, e7, h⟩ := qlet_ex h
      refine qE.steps 7 hd9 (s' := (52, [(3, .int p4.1), (2, .int p1), (0, .ref 64), (1, .int i1)], [], (x, σ6, y))) (by subst e7; rfl) ?_
      refine qE.steps 2 hd9 (s' := (if i1 ≤ 0 then 62 else 56, [(3, .int p4.1), (2, .int p1), (0, .ref 64), (1, .int i1)], [], (x, σ6, y))) rfl ?_
      by_cases c8 : i1 ≤ 0
      · rw [if_pos c8] at h
        rw [if_pos c8]
        refine qE.steps 2 hd9 (s' := (if p4.1 < 0 then 102 else 66, [(3, .int p4.1), (2, .int p1), (0, .ref 64), (1, .int i1)], [], (x, σ6, y))) rfl ?_
        by_cases c9 : p4.1 < 0
        · rw [if_pos c9] at h
          rw [if_pos c9]
          exact qE.wk (t_m_build_145_l102 hd ih qF h) ⟨rfl, rfl, rfl, trivial⟩ rfl
        · rw [if_neg c9] at h
          rw [if_neg c9]
          refine qE.steps 3 hd9 (s' := (71, [(3, .int p4.1), (2, .int p1), (0, .ref 64), (1, .int i1)], [.int (σ6.1 6412), .ref 64], (x, σ6, y))) rfl ?_
          obtain ⟨p10, e11, h⟩ := obind h
          refine qE.call hd9 rfl rfl rfl rfl (t_m_at_143 (by omega) e11) ?_
          refine qE.steps 0 hd9 (s' := (74, [(3, .int p4.1), (2, .int p1), (0, .ref 64), (1, .int i1)], [.int p10], (x, σ6, y))) rfl ?_
          refine qE.steps 2 hd9 (s' := (if ¬ (p10 = Int32.ofInt 40) then 102 else 79, [(3, .int p4.1), (2, .int p1), (0, .ref 64), (1, .int i1)], [], (x, σ6, y))) rfl ?_
          by_cases c12 : p10 = Int32.ofInt 40
          · rw [if_pos c12] at h
            rw [if_neg (not_not_intro c12)]
            obtain ⟨σ13, e14, h⟩ := qlet_ex h
            refine qE.steps 6 hd9 (s' := (89, [(3, .int p4.1), (2, .int p1), (0, .ref 64), (1, .int i1)], [], (x, σ13, y))) (by subst e14; rfl) ?_
            refine qE.steps 5 hd9 (s' := (98, [(1, .int (i1 + Int32.ofInt 1)), (3, .int p4.1), (2, .int p1), (0, .ref 64)], [.int p4.1, .int (i1 + Int32.ofInt 1), .ref 68], (x, σ13, y))) rfl ?_
            obtain ⟨σ15, e16, h⟩ := obind h
            refine qE.iastM hd9 e16 rfl rfl ?_
            refine qE.steps 1 hd9 (s' := (2, [(1, .int (i1 + Int32.ofInt 1)), (3, .int p4.1), (2, .int p1), (0, .ref 64)], [], (x, σ15, y))) rfl ?_
            exact qE.wk (ih h) ⟨rfl, rfl, trivial⟩ rfl
          · rw [if_neg c12] at h
            rw [if_pos c12]
            exact qE.wk (t_m_build_145_l102 hd ih qF h) ⟨rfl, rfl, rfl, trivial⟩ rfl
      · rw [if_neg c8] at h
        rw [if_neg c8]
        refine qE.steps 3 hd9 (s' := (59, [(3, .int p4.1), (2, .int p1), (0, .ref 64), (1, .int i1)], [.int p4.1, .int i1, .ref 64], (x, σ6, y))) rfl ?_
        obtain ⟨p17, e18, h⟩ := obind h
        refine qE.call hd9 rfl rfl rfl rfl (t_m_hang_147 (by omega) e18) ?_
        refine qE.steps 0 hd9 (s' := (62, [(3, .int p4.1), (2, .int p1), (0, .ref 64), (1, .int i1)], [], (x, p17, y))) rfl ?_
        refine qE.steps 2 hd9 (s' := (if p4.1 < 0 then 102 else 66, [(3, .int p4.1), (2, .int p1), (0, .ref 64), (1, .int i1)], [], (x, p17, y))) rfl ?_
        by_cases c19 : p4.1 < 0
        · rw [if_pos c19] at h
          rw [if_pos c19]
          exact qE.wk (t_m_build_145_l102 hd ih qF h) ⟨rfl, rfl, rfl, trivial⟩ rfl
        · rw [if_neg c19] at h
          rw [if_neg c19]
          refine qE.steps 3 hd9 (s' := (71, [(3, .int p4.1), (2, .int p1), (0, .ref 64), (1, .int i1)], [.int (p17.1 6412), .ref 64], (x, p17, y))) rfl ?_
          obtain ⟨p20, e21, h⟩ := obind h
          refine qE.call hd9 rfl rfl rfl rfl (t_m_at_143 (by omega) e21) ?_
          refine qE.steps 0 hd9 (s' := (74, [(3, .int p4.1), (2, .int p1), (0, .ref 64), (1, .int i1)], [.int p20], (x, p17, y))) rfl ?_
          refine qE.steps 2 hd9 (s' := (if ¬ (p20 = Int32.ofInt 40) then 102 else 79, [(3, .int p4.1), (2, .int p1), (0, .ref 64), (1, .int i1)], [], (x, p17, y))) rfl ?_
          by_cases c22 : p20 = Int32.ofInt 40
          · rw [if_pos c22] at h
            rw [if_neg (not_not_intro c22)]
            obtain ⟨σ23, e24, h⟩ := qlet_ex h
            refine qE.steps 6 hd9 (s' := (89, [(3, .int p4.1), (2, .int p1), (0, .ref 64), (1, .int i1)], [], (x, σ23, y))) (by subst e24; rfl) ?_
            refine qE.steps 5 hd9 (s' := (98, [(1, .int (i1 + Int32.ofInt 1)), (3, .int p4.1), (2, .int p1), (0, .ref 64)], [.int p4.1, .int (i1 + Int32.ofInt 1), .ref 68], (x, σ23, y))) rfl ?_
            obtain ⟨σ25, e26, h⟩ := obind h
            refine qE.iastM hd9 e26 rfl rfl ?_
            refine qE.steps 1 hd9 (s' := (2, [(1, .int (i1 + Int32.ofInt 1)), (3, .int p4.1), (2, .int p1), (0, .ref 64)], [], (x, σ25, y))) rfl ?_
            exact qE.wk (ih h) ⟨rfl, rfl, trivial⟩ rfl
          · rw [if_neg c22] at h
            rw [if_pos c22]
            exact qE.wk (t_m_build_145_l102 hd ih qF h) ⟨rfl, rfl, rfl, trivial⟩ rfl
    · rw [if_neg c3] at h
      rw [if_neg c3]
      refine qE.steps 6 hd9 (s' := (31, [(2, .int p1), (0, .ref 64), (1, .int i1)], [.int (p1 - (Int32.ofInt 65)), .ref 70, .int (Int32.ofInt (-1))], (x, σ, y))) rfl ?_
      obtain ⟨x27, e28, h⟩ := obind h
      refine qE.iald hd9 e28 rfl rfl ?_
      obtain ⟨σ29, e30, h⟩ := qlet_ex h
      refine qE.steps 9 hd9 (s' := (52, [(3, .int ((Int32.ofInt (-1)) - x27)), (2, .int p1), (0, .ref 64), (1, .int i1)], [], (x, σ29, y))) (by subst e30; rfl) ?_
      refine qE.steps 2 hd9 (s' := (if i1 ≤ 0 then 62 else 56, [(3, .int ((Int32.ofInt (-1)) - x27)), (2, .int p1), (0, .ref 64), (1, .int i1)], [], (x, σ29, y))) rfl ?_
      by_cases c31 : i1 ≤ 0
      · rw [if_pos c31] at h
        rw [if_pos c31]
        refine qE.steps 2 hd9 (s' := (if (Int32.ofInt (-1)) - x27 < 0 then 102 else 66, [(3, .int ((Int32.ofInt (-1)) - x27)), (2, .int p1), (0, .ref 64), (1, .int i1)], [], (x, σ29, y))) rfl ?_
        by_cases c32 : (Int32.ofInt (-1)) - x27 < 0
        · rw [if_pos c32] at h
          rw [if_pos c32]
          exact qE.wk (t_m_build_145_l102 hd ih qF h) ⟨rfl, rfl, rfl, trivial⟩ rfl
        · rw [if_neg c32] at h
          rw [if_neg c32]
          refine qE.steps 3 hd9 (s' := (71, [(3, .int ((Int32.ofInt (-1)) - x27)), (2, .int p1), (0, .ref 64), (1, .int i1)], [.int (σ29.1 6412), .ref 64], (x, σ29, y))) rfl ?_
          obtain ⟨p33, e34, h⟩ := obind h
          refine qE.call hd9 rfl rfl rfl rfl (t_m_at_143 (by omega) e34) ?_
          refine qE.steps 0 hd9 (s' := (74, [(3, .int ((Int32.ofInt (-1)) - x27)), (2, .int p1), (0, .ref 64), (1, .int i1)], [.int p33], (x, σ29, y))) rfl ?_
          refine qE.steps 2 hd9 (s' := (if ¬ (p33 = Int32.ofInt 40) then 102 else 79, [(3, .int ((Int32.ofInt (-1)) - x27)), (2, .int p1), (0, .ref 64), (1, .int i1)], [], (x, σ29, y))) rfl ?_
          by_cases c35 : p33 = Int32.ofInt 40
          · rw [if_pos c35] at h
            rw [if_neg (not_not_intro c35)]
            obtain ⟨σ36, e37, h⟩ := qlet_ex h
            refine qE.steps 6 hd9 (s' := (89, [(3, .int ((Int32.ofInt (-1)) - x27)), (2, .int p1), (0, .ref 64), (1, .int i1)], [], (x, σ36, y))) (by subst e37; rfl) ?_
            refine qE.steps 5 hd9 (s' := (98, [(1, .int (i1 + Int32.ofInt 1)), (3, .int ((Int32.ofInt (-1)) - x27)), (2, .int p1), (0, .ref 64)], [.int ((Int32.ofInt (-1)) - x27), .int (i1 + Int32.ofInt 1), .ref 68], (x, σ36, y))) rfl ?_
            obtain ⟨σ38, e39, h⟩ := obind h
            refine qE.iastM hd9 e39 rfl rfl ?_
            refine qE.steps 1 hd9 (s' := (2, [(1, .int (i1 + Int32.ofInt 1)), (3, .int ((Int32.ofInt (-1)) - x27)), (2, .int p1), (0, .ref 64)], [], (x, σ38, y))) rfl ?_
            exact qE.wk (ih h) ⟨rfl, rfl, trivial⟩ rfl
          · rw [if_neg c35] at h
            rw [if_pos c35]
            exact qE.wk (t_m_build_145_l102 hd ih qF h) ⟨rfl, rfl, rfl, trivial⟩ rfl
      · rw [if_neg c31] at h
        rw [if_neg c31]
        refine qE.steps 3 hd9 (s' := (59, [(3, .int ((Int32.ofInt (-1)) - x27)), (2, .int p1), (0, .ref 64), (1, .int i1)], [.int ((Int32.ofInt (-1)) - x27), .int i1, .ref 64], (x, σ29, y))) rfl ?_
        obtain ⟨p40, e41, h⟩ := obind h
        refine qE.call hd9 rfl rfl rfl rfl (t_m_hang_147 (by omega) e41) ?_
        refine qE.steps 0 hd9 (s' := (62, [(3, .int ((Int32.ofInt (-1)) - x27)), (2, .int p1), (0, .ref 64), (1, .int i1)], [], (x, p40, y))) rfl ?_
        refine qE.steps 2 hd9 (s' := (if (Int32.ofInt (-1)) - x27 < 0 then 102 else 66, [(3, .int ((Int32.ofInt (-1)) - x27)), (2, .int p1), (0, .ref 64), (1, .int i1)], [], (x, p40, y))) rfl ?_
        by_cases c42 : (Int32.ofInt (-1)) - x27 < 0
        · rw [if_pos c42] at h
          rw [if_pos c42]
          exact qE.wk (t_m_build_145_l102 hd ih qF h) ⟨rfl, rfl, rfl, trivial⟩ rfl
        · rw [if_neg c42] at h
          rw [if_neg c42]
          refine qE.steps 3 hd9 (s' := (71, [(3, .int ((Int32.ofInt (-1)) - x27)), (2, .int p1), (0, .ref 64), (1, .int i1)], [.int (p40.1 6412), .ref 64], (x, p40, y))) rfl ?_
          obtain ⟨p43, e44, h⟩ := obind h
          refine qE.call hd9 rfl rfl rfl rfl (t_m_at_143 (by omega) e44) ?_
          refine qE.steps 0 hd9 (s' := (74, [(3, .int ((Int32.ofInt (-1)) - x27)), (2, .int p1), (0, .ref 64), (1, .int i1)], [.int p43], (x, p40, y))) rfl ?_
          refine qE.steps 2 hd9 (s' := (if ¬ (p43 = Int32.ofInt 40) then 102 else 79, [(3, .int ((Int32.ofInt (-1)) - x27)), (2, .int p1), (0, .ref 64), (1, .int i1)], [], (x, p40, y))) rfl ?_
          by_cases c45 : p43 = Int32.ofInt 40
          · rw [if_pos c45] at h
            rw [if_neg (not_not_intro c45)]
            obtain ⟨σ46, e47, h⟩ := qlet_ex h
            refine qE.steps 6 hd9 (s' := (89, [(3, .int ((Int32.ofInt (-1)) - x27)), (2, .int p1), (0, .ref 64), (1, .int i1)], [], (x, σ46, y))) (by subst e47; rfl) ?_
            refine qE.steps 5 hd9 (s' := (98, [(1, .int (i1 + Int32.ofInt 1)), (3, .int ((Int32.ofInt (-1)) - x27)), (2, .int p1), (0, .ref 64)], [.int ((Int32.ofInt (-1)) - x27), .int (i1 + Int32.ofInt 1), .ref 68], (x, σ46, y))) rfl ?_
            obtain ⟨σ48, e49, h⟩ := obind h
            refine qE.iastM hd9 e49 rfl rfl ?_
            refine qE.steps 1 hd9 (s' := (2, [(1, .int (i1 + Int32.ofInt 1)), (3, .int ((Int32.ofInt (-1)) - x27)), (2, .int p1), (0, .ref 64)], [], (x, σ48, y))) rfl ?_
            exact qE.wk (ih h) ⟨rfl, rfl, trivial⟩ rfl
          · rw [if_neg c45] at h
            rw [if_pos c45]
            exact qE.wk (t_m_build_145_l102 hd ih qF h) ⟨rfl, rfl, rfl, trivial⟩ rfl
set_option maxRecDepth 20000 in
theorem t_m_build_145 {S : Nat × (Nat → Int32)} {d : Nat} {x : qC} {y : Int64 × Nat} {σ : qC} {p : (Int32 × qC)} (hd : 10 ≤ d) (h : m_build_145 σ = some p) : qE S d jm_12_build_145 (0, [(0, .ref 64)], [], (x, σ, y)) ((.inl (some (.int p.1)), (x, p.2, y))) := by
  have hd9 : 9 ≤ d := by omega
  unfold m_build_145 at h
  refine qE.steps 2 hd9 (s' := (2, [(1, .int (Int32.ofInt 0)), (0, .ref 64)], [], (x, σ, y))) rfl ?_
  exact qE.wk (t_m_build_145_l2 hd qF h) ⟨rfl, rfl, trivial⟩ rfl
def m_buildGoals_142_j188 (K5 : Int32 → Int32 → Int32 → Int32 → qC → Option (Int32 × qC)) (i1 : Int32) (i2 : Int32) (i3 : Int32) (i5 : Int32) (σ : qC) : Option (Int32 × qC) := K5 i1 i2 i3 i5 σ
def m_buildGoals_142_j158 (K5 : Int32 → Int32 → Int32 → Int32 → qC → Option (Int32 × qC)) (i1 : Int32) (i2 : Int32) (i3 : Int32) (i4 : Int32) (i5 : Int32) (σ : qC) : Option (Int32 × qC) := qlet (upS σ 6412 ((σ.1 6412) + (Int32.ofInt 1))) (fun σ1 => if i4 < 0 then m_buildGoals_142_j188 K5 i1 i2 i5 i5 σ1 else (aput σ1 82 14000 i4 i5).bind (fun σ4 => m_buildGoals_142_j188 K5 i1 i2 i3 i5 σ4))
def m_buildGoals_142_j132 (K5 : Int32 → Int32 → Int32 → Int32 → qC → Option (Int32 × qC)) (i1 : Int32) (i2 : Int32) (i3 : Int32) (i4 : Int32) (i6 : Int32) (i8 : Int32) (σ : qC) : Option (Int32 × qC) := if i8 = Int32.ofInt 1 then (m_goal_144 i8 i6 (Int32.ofInt 0) i1 i2 σ).bind (fun p2 => m_buildGoals_142_j158 K5 i1 i2 i3 i4 p2.1 p2.2) else (m_build_145 σ).bind (fun p4 => (m_goal_144 i8 i6 p4.1 i1 i2 p4.2).bind (fun p6 => m_buildGoals_142_j158 K5 i1 i2 i3 i4 p6.1 p6.2))
def m_buildGoals_142_l5 : Nat → Int32 → Int32 → Int32 → Int32 → qC → Option (Int32 × qC)
  | 0, _, _, _, _, _ => none
  | n + 1, i1, i2, i3, i4, σ => if σ.1 6413 ≤ σ.1 6412 then if 0 ≤ i3 then some (i3, σ) else some (i2, σ) else (m_at_143 (σ.1 6412) σ).bind (fun p3 => if p3 = Int32.ofInt 33 then qlet (upS σ 6412 ((σ.1 6412) + (Int32.ofInt 1))) (fun σ6 => (m_goal_144 (Int32.ofInt 0) (Int32.ofInt 0) (Int32.ofInt 0) i1 i2 σ6).bind (fun p8 => m_buildGoals_142_j158 (m_buildGoals_142_l5 n) i1 i2 i3 i4 p8.1 p8.2)) else (m_build_145 σ).bind (fun p10 => (m_at_143 (p10.2.1 6412) p10.2).bind (fun p12 => if p12 = Int32.ofInt 61 then qlet (upS p10.2 6412 ((p10.2.1 6412) + (Int32.ofInt 1))) (fun σ15 => m_buildGoals_142_j132 (m_buildGoals_142_l5 n) i1 i2 i3 i4 p10.1 (Int32.ofInt 2) σ15) else if p12 = Int32.ofInt 126 then qlet (upS p10.2 6412 ((p10.2.1 6412) + (Int32.ofInt 1))) (fun σ18 => m_buildGoals_142_j132 (m_buildGoals_142_l5 n) i1 i2 i3 i4 p10.1 (Int32.ofInt 3) σ18) else if p12 = Int32.ofInt 60 then qlet (upS p10.2 6412 ((p10.2.1 6412) + (Int32.ofInt 1))) (fun σ21 => m_buildGoals_142_j132 (m_buildGoals_142_l5 n) i1 i2 i3 i4 p10.1 (Int32.ofInt 4) σ21) else if p12 = Int32.ofInt 63 then qlet (upS p10.2 6412 ((p10.2.1 6412) + (Int32.ofInt 1))) (fun σ24 => m_buildGoals_142_j132 (m_buildGoals_142_l5 n) i1 i2 i3 i4 p10.1 (Int32.ofInt 5) σ24) else m_buildGoals_142_j132 (m_buildGoals_142_l5 n) i1 i2 i3 i4 p10.1 (Int32.ofInt 1) p10.2)))
def m_buildGoals_142 (i1 : Int32) (i2 : Int32) (σ : qC) : Option (Int32 × qC) := m_buildGoals_142_l5 qF i1 i2 (Int32.ofInt (-1)) (Int32.ofInt (-1)) σ
set_option maxRecDepth 20000 in
theorem t_m_buildGoals_142_j188 {S : Nat × (Nat → Int32)} {d : Nat} {x : qC} {y : Int64 × Nat} (hd : 11 ≤ d) {K5 : Int32 → Int32 → Int32 → Int32 → qC → Option (Int32 × qC)} (hK5 : ∀ {i1 : Int32} {i2 : Int32} {i3 : Int32} {i4 : Int32} {σ : qC} {p : (Int32 × qC)}, K5 i1 i2 i3 i4 σ = some p → qE S d jm_12_buildGoals_142 (5, [(0, .ref 64), (1, .int i1), (2, .int i2), (3, .int i3), (4, .int i4)], [], (x, σ, y)) ((.inl (some (.int p.1)), (x, p.2, y)))) {i1 : Int32} {i2 : Int32} {i3 : Int32} {i5 : Int32} {σ : qC} {p : (Int32 × qC)} (h : m_buildGoals_142_j188 K5 i1 i2 i3 i5 σ = some p) : qE S d jm_12_buildGoals_142 (188, [(0, .ref 64), (1, .int i1), (2, .int i2), (3, .int i3), (5, .int i5)], [], (x, σ, y)) ((.inl (some (.int p.1)), (x, p.2, y))) := by
  have hd9 : 9 ≤ d := by omega
  unfold m_buildGoals_142_j188 at h
  refine qE.steps 3 hd9 (s' := (5, [(4, .int i5), (0, .ref 64), (1, .int i1), (2, .int i2), (3, .int i3), (5, .int i5)], [], (x, σ, y))) rfl ?_
  exact qE.wk (hK5 h) ⟨rfl, rfl, rfl, rfl, rfl, trivial⟩ rfl
set_option maxRecDepth 20000 in
theorem t_m_buildGoals_142_j158 {S : Nat × (Nat → Int32)} {d : Nat} {x : qC} {y : Int64 × Nat} (hd : 11 ≤ d) {K5 : Int32 → Int32 → Int32 → Int32 → qC → Option (Int32 × qC)} (hK5 : ∀ {i1 : Int32} {i2 : Int32} {i3 : Int32} {i4 : Int32} {σ : qC} {p : (Int32 × qC)}, K5 i1 i2 i3 i4 σ = some p → qE S d jm_12_buildGoals_142 (5, [(0, .ref 64), (1, .int i1), (2, .int i2), (3, .int i3), (4, .int i4)], [], (x, σ, y)) ((.inl (some (.int p.1)), (x, p.2, y)))) {i1 : Int32} {i2 : Int32} {i3 : Int32} {i4 : Int32} {i5 : Int32} {σ : qC} {p : (Int32 × qC)} (h : m_buildGoals_142_j158 K5 i1 i2 i3 i4 i5 σ = some p) : qE S d jm_12_buildGoals_142 (158, [(0, .ref 64), (1, .int i1), (2, .int i2), (3, .int i3), (4, .int i4), (5, .int i5)], [], (x, σ, y)) ((.inl (some (.int p.1)), (x, p.2, y))) := by
  have hd9 : 9 ≤ d := by omega
  unfold m_buildGoals_142_j158 at h
  obtain ⟨σ1, e2, h⟩ := qlet_ex h
  refine qE.steps 6 hd9 (s' := (168, [(0, .ref 64), (1, .int i1), (2, .int i2), (3, .int i3), (4, .int i4), (5, .int i5)], [], (x, σ1, y))) (by subst e2; rfl) ?_
  refine qE.steps 2 hd9 (s' := (if i4 < 0 then 185 else 173, [(0, .ref 64), (1, .int i1), (2, .int i2), (3, .int i3), (4, .int i4), (5, .int i5)], [], (x, σ1, y))) rfl ?_
  by_cases c3 : i4 < 0
  · rw [if_pos c3] at h
    rw [if_pos c3]
    refine qE.steps 2 hd9 (s' := (188, [(3, .int i5), (0, .ref 64), (1, .int i1), (2, .int i2), (4, .int i4), (5, .int i5)], [], (x, σ1, y))) rfl ?_
    exact qE.wk (t_m_buildGoals_142_j188 hd hK5 h) ⟨rfl, rfl, rfl, rfl, rfl, trivial⟩ rfl
  · rw [if_neg c3] at h
    rw [if_neg c3]
    refine qE.steps 4 hd9 (s' := (181, [(0, .ref 64), (1, .int i1), (2, .int i2), (3, .int i3), (4, .int i4), (5, .int i5)], [.int i5, .int i4, .ref 82], (x, σ1, y))) rfl ?_
    obtain ⟨σ4, e5, h⟩ := obind h
    refine qE.iastM hd9 e5 rfl rfl ?_
    refine qE.steps 1 hd9 (s' := (188, [(0, .ref 64), (1, .int i1), (2, .int i2), (3, .int i3), (4, .int i4), (5, .int i5)], [], (x, σ4, y))) rfl ?_
    exact qE.wk (t_m_buildGoals_142_j188 hd hK5 h) ⟨rfl, rfl, rfl, rfl, rfl, trivial⟩ rfl
set_option maxRecDepth 20000 in
theorem t_m_buildGoals_142_j132 {S : Nat × (Nat → Int32)} {d : Nat} {x : qC} {y : Int64 × Nat} (hd : 11 ≤ d) {K5 : Int32 → Int32 → Int32 → Int32 → qC → Option (Int32 × qC)} (hK5 : ∀ {i1 : Int32} {i2 : Int32} {i3 : Int32} {i4 : Int32} {σ : qC} {p : (Int32 × qC)}, K5 i1 i2 i3 i4 σ = some p → qE S d jm_12_buildGoals_142 (5, [(0, .ref 64), (1, .int i1), (2, .int i2), (3, .int i3), (4, .int i4)], [], (x, σ, y)) ((.inl (some (.int p.1)), (x, p.2, y)))) {i1 : Int32} {i2 : Int32} {i3 : Int32} {i4 : Int32} {i6 : Int32} {i8 : Int32} {σ : qC} {p : (Int32 × qC)} (h : m_buildGoals_142_j132 K5 i1 i2 i3 i4 i6 i8 σ = some p) : qE S d jm_12_buildGoals_142 (132, [(0, .ref 64), (1, .int i1), (2, .int i2), (3, .int i3), (4, .int i4), (6, .int i6), (8, .int i8)], [], (x, σ, y)) ((.inl (some (.int p.1)), (x, p.2, y))) := by
  have hd9 : 9 ≤ d := by omega
  unfold m_buildGoals_142_j132 at h
  refine qE.steps 6 hd9 (s' := (if ¬ (i8 = Int32.ofInt 1) then 147 else 143, [(0, .ref 64), (1, .int i1), (2, .int i2), (3, .int i3), (4, .int i4), (6, .int i6), (8, .int i8)], [.int i6, .int i8, .ref 64], (x, σ, y))) rfl ?_
  by_cases c1 : i8 = Int32.ofInt 1
  · rw [if_pos c1] at h
    rw [if_neg (not_not_intro c1)]
    refine qE.steps 4 hd9 (s' := (153, [(0, .ref 64), (1, .int i1), (2, .int i2), (3, .int i3), (4, .int i4), (6, .int i6), (8, .int i8)], [.int i2, .int i1, .int (Int32.ofInt 0), .int i6, .int i8, .ref 64], (x, σ, y))) rfl ?_
    obtain ⟨p2, e3, h⟩ := obind h
    refine qE.call hd9 rfl rfl rfl rfl (t_m_goal_144 (by omega) e3) ?_
    refine qE.steps 0 hd9 (s' := (156, [(0, .ref 64), (1, .int i1), (2, .int i2), (3, .int i3), (4, .int i4), (6, .int i6), (8, .int i8)], [.int p2.1], (x, p2.2, y))) rfl ?_
    refine qE.steps 1 hd9 (s' := (158, [(5, .int p2.1), (0, .ref 64), (1, .int i1), (2, .int i2), (3, .int i3), (4, .int i4), (6, .int i6), (8, .int i8)], [], (x, p2.2, y))) rfl ?_
    exact qE.wk (t_m_buildGoals_142_j158 hd hK5 h) ⟨rfl, rfl, rfl, rfl, rfl, rfl, trivial⟩ rfl
  · rw [if_neg c1] at h
    rw [if_pos c1]
    refine qE.steps 1 hd9 (s' := (148, [(0, .ref 64), (1, .int i1), (2, .int i2), (3, .int i3), (4, .int i4), (6, .int i6), (8, .int i8)], [.ref 64, .int i6, .int i8, .ref 64], (x, σ, y))) rfl ?_
    obtain ⟨p4, e5, h⟩ := obind h
    refine qE.call hd9 rfl rfl rfl rfl (t_m_build_145 (by omega) e5) ?_
    refine qE.steps 0 hd9 (s' := (151, [(0, .ref 64), (1, .int i1), (2, .int i2), (3, .int i3), (4, .int i4), (6, .int i6), (8, .int i8)], [.int p4.1, .int i6, .int i8, .ref 64], (x, p4.2, y))) rfl ?_
    refine qE.steps 2 hd9 (s' := (153, [(0, .ref 64), (1, .int i1), (2, .int i2), (3, .int i3), (4, .int i4), (6, .int i6), (8, .int i8)], [.int i2, .int i1, .int p4.1, .int i6, .int i8, .ref 64], (x, p4.2, y))) rfl ?_
    obtain ⟨p6, e7, h⟩ := obind h
    refine qE.call hd9 rfl rfl rfl rfl (t_m_goal_144 (by omega) e7) ?_
    refine qE.steps 0 hd9 (s' := (156, [(0, .ref 64), (1, .int i1), (2, .int i2), (3, .int i3), (4, .int i4), (6, .int i6), (8, .int i8)], [.int p6.1], (x, p6.2, y))) rfl ?_
    refine qE.steps 1 hd9 (s' := (158, [(5, .int p6.1), (0, .ref 64), (1, .int i1), (2, .int i2), (3, .int i3), (4, .int i4), (6, .int i6), (8, .int i8)], [], (x, p6.2, y))) rfl ?_
    exact qE.wk (t_m_buildGoals_142_j158 hd hK5 h) ⟨rfl, rfl, rfl, rfl, rfl, rfl, trivial⟩ rfl
set_option maxRecDepth 20000 in
theorem t_m_buildGoals_142_l5 {S : Nat × (Nat → Int32)} {d : Nat} {x : qC} {y : Int64 × Nat} (hd : 11 ≤ d) : ∀ (n : Nat) {i1 : Int32} {i2 : Int32} {i3 : Int32} {i4 : Int32} {σ : qC} {p : (Int32 × qC)}, m_buildGoals_142_l5 n i1 i2 i3 i4 σ = some p → qE S d jm_12_buildGoals_142 (5, [(0, .ref 64), (1, .int i1), (2, .int i2), (3, .int i3), (4, .int i4)], [], (x, σ, y)) ((.inl (some (.int p.1)), (x, p.2, y))) := by
  have hd9 : 9 ≤ d := by omega
  intro n
  induction n with
  | zero =>
    intros
    rename_i h
    unfold m_buildGoals_142_l5 at h
    cases h
  | succ n ih =>
    intro i1 i2 i3 i4 σ p h
    unfold m_buildGoals_142_l5 at h
    refine qE.steps 5 hd9 (s' := (if σ.1 6413 ≤ σ.1 6412 then 195 else 16, [(0, .ref 64), (1, .int i1), (2, .int i2), (3, .int i3), (4, .int i4)], [], (x, σ, y))) rfl ?_
    by_cases c1 : σ.1 6413 ≤ σ.1 6412
    · rw [if_pos c1] at h
      rw [if_pos c1]
      refine qE.steps 2 hd9 (s' := (if 0 ≤ i3 then 203 else 199, [(0, .ref 64), (1, .int i1), (2, .int i2), (3, .int i3), (4, .int i4)], [], (x, σ, y))) rfl ?_
      by_cases c2 : 0 ≤ i3
      · rw [if_pos c2] at h
        rw [if_pos c2]
        refine qE.steps 1 hd9 (s' := (204, [(0, .ref 64), (1, .int i1), (2, .int i2), (3, .int i3), (4, .int i4)], [.int i3], (x, σ, y))) rfl ?_
        obtain rfl := Option.some.inj h
        exact qE.ret hd9 rfl rfl
      · rw [if_neg c2] at h
        rw [if_neg c2]
        refine qE.steps 2 hd9 (s' := (204, [(0, .ref 64), (1, .int i1), (2, .int i2), (3, .int i3), (4, .int i4)], [.int i2], (x, σ, y))) rfl ?_
        obtain rfl := Option.some.inj h
        exact qE.ret hd9 rfl rfl
    · rw [if_neg c1] at h
      rw [if_neg c1]
      refine qE.steps 3 hd9 (s' := (21, [(0, .ref 64), (1, .int i1), (2, .int i2), (3, .int i3), (4, .int i4)], [.int (σ.1 6412), .ref 64], (x, σ, y))) rfl ?_
      obtain ⟨p3, e4, h⟩ := obind h
      refine qE.call hd9 rfl rfl rfl rfl (t_m_at_143 (by omega) e4) ?_
      refine qE.steps 0 hd9 (s' := (24, [(0, .ref 64), (1, .int i1), (2, .int i2), (3, .int i3), (4, .int i4)], [.int p3], (x, σ, y))) rfl ?_
      refine qE.steps 2 hd9 (s' := (if ¬ (p3 = Int32.ofInt 33) then 53 else 29, [(0, .ref 64), (1, .int i1), (2, .int i2), (3, .int i3), (4, .int i4)], [], (x, σ, y))) rfl ?_
      by_cases c5 : p3 = Int32.ofInt 33
      · rw [if_pos c5] at h
        rw [if_neg (not_not_intro c5)]
        obtain ⟨σ6, e7, h⟩ := qlet_ex h
        refine qE.steps 6 hd9 (s' := (39, [(0, .ref 64), (1, .int i1), (2, .int i2), (3, .int i3), (4, .int i4)], [], (x, σ6, y))) (by subst e7; rfl) ?_
        refine qE.steps 6 hd9 (s' := (45, [(0, .ref 64), (1, .int i1), (2, .int i2), (3, .int i3), (4, .int i4)], [.int i2, .int i1, .int (Int32.ofInt 0), .int (Int32.ofInt 0), .int (Int32.ofInt 0), .ref 64], (x, σ6, y))) rfl ?_
        obtain ⟨p8, e9, h⟩ := obind h
        refine qE.call hd9 rfl rfl rfl rfl (t_m_goal_144 (by omega) e9) ?_
        refine qE.steps 0 hd9 (s' := (48, [(0, .ref 64), (1, .int i1), (2, .int i2), (3, .int i3), (4, .int i4)], [.int p8.1], (x, p8.2, y))) rfl ?_
        refine qE.steps 2 hd9 (s' := (158, [(5, .int p8.1), (0, .ref 64), (1, .int i1), (2, .int i2), (3, .int i3), (4, .int i4)], [], (x, p8.2, y))) rfl ?_
        exact qE.wk (t_m_buildGoals_142_j158 hd ih h) ⟨rfl, rfl, rfl, rfl, rfl, rfl, trivial⟩ rfl
      · rw [if_neg c5] at h
        rw [if_pos c5]
        refine qE.steps 1 hd9 (s' := (54, [(0, .ref 64), (1, .int i1), (2, .int i2), (3, .int i3), (4, .int i4)], [.ref 64], (x, σ, y))) rfl ?_
        obtain ⟨p10, e11, h⟩ := obind h
        refine qE.call hd9 rfl rfl rfl rfl (t_m_build_145 (by omega) e11) ?_
        refine qE.steps 0 hd9 (s' := (57, [(0, .ref 64), (1, .int i1), (2, .int i2), (3, .int i3), (4, .int i4)], [.int p10.1], (x, p10.2, y))) rfl ?_
        refine qE.steps 4 hd9 (s' := (64, [(6, .int p10.1), (0, .ref 64), (1, .int i1), (2, .int i2), (3, .int i3), (4, .int i4)], [.int (p10.2.1 6412), .ref 64], (x, p10.2, y))) rfl ?_
        obtain ⟨p12, e13, h⟩ := obind h
        refine qE.call hd9 rfl rfl rfl rfl (t_m_at_143 (by omega) e13) ?_
        refine qE.steps 0 hd9 (s' := (67, [(6, .int p10.1), (0, .ref 64), (1, .int i1), (2, .int i2), (3, .int i3), (4, .int i4)], [.int p12], (x, p10.2, y))) rfl ?_
        refine qE.steps 4 hd9 (s' := (if ¬ (p12 = Int32.ofInt 61) then 80 else 76, [(7, .int p12), (6, .int p10.1), (0, .ref 64), (1, .int i1), (2, .int i2), (3, .int i3), (4, .int i4)], [], (x, p10.2, y))) rfl ?_
        by_cases c14 : p12 = Int32.ofInt 61
        · rw [if_pos c14] at h
          rw [if_neg (not_not_intro c14)]
          obtain ⟨σ15, e16, h⟩ := qlet_ex h
          refine qE.steps 12 hd9 (s' := (132, [(8, .int (Int32.ofInt 2)), (7, .int p12), (6, .int p10.1), (0, .ref 64), (1, .int i1), (2, .int i2), (3, .int i3), (4, .int i4)], [], (x, σ15, y))) (by subst e16; rfl) ?_
          exact qE.wk (t_m_buildGoals_142_j132 hd ih h) ⟨rfl, rfl, rfl, rfl, rfl, rfl, rfl, trivial⟩ rfl
        · rw [if_neg c14] at h
          rw [if_pos c14]
          refine qE.steps 3 hd9 (s' := (if ¬ (p12 = Int32.ofInt 126) then 91 else 87, [(7, .int p12), (6, .int p10.1), (0, .ref 64), (1, .int i1), (2, .int i2), (3, .int i3), (4, .int i4)], [], (x, p10.2, y))) rfl ?_
          by_cases c17 : p12 = Int32.ofInt 126
          · rw [if_pos c17] at h
            rw [if_neg (not_not_intro c17)]
            obtain ⟨σ18, e19, h⟩ := qlet_ex h
            refine qE.steps 12 hd9 (s' := (132, [(8, .int (Int32.ofInt 3)), (7, .int p12), (6, .int p10.1), (0, .ref 64), (1, .int i1), (2, .int i2), (3, .int i3), (4, .int i4)], [], (x, σ18, y))) (by subst e19; rfl) ?_
            exact qE.wk (t_m_buildGoals_142_j132 hd ih h) ⟨rfl, rfl, rfl, rfl, rfl, rfl, rfl, trivial⟩ rfl
          · rw [if_neg c17] at h
            rw [if_pos c17]
            refine qE.steps 3 hd9 (s' := (if ¬ (p12 = Int32.ofInt 60) then 102 else 98, [(7, .int p12), (6, .int p10.1), (0, .ref 64), (1, .int i1), (2, .int i2), (3, .int i3), (4, .int i4)], [], (x, p10.2, y))) rfl ?_
            by_cases c20 : p12 = Int32.ofInt 60
            · rw [if_pos c20] at h
              rw [if_neg (not_not_intro c20)]
              obtain ⟨σ21, e22, h⟩ := qlet_ex h
              refine qE.steps 12 hd9 (s' := (132, [(8, .int (Int32.ofInt 4)), (7, .int p12), (6, .int p10.1), (0, .ref 64), (1, .int i1), (2, .int i2), (3, .int i3), (4, .int i4)], [], (x, σ21, y))) (by subst e22; rfl) ?_
              exact qE.wk (t_m_buildGoals_142_j132 hd ih h) ⟨rfl, rfl, rfl, rfl, rfl, rfl, rfl, trivial⟩ rfl
            · rw [if_neg c20] at h
              rw [if_pos c20]
              refine qE.steps 3 hd9 (s' := (if ¬ (p12 = Int32.ofInt 63) then 113 else 109, [(7, .int p12), (6, .int p10.1), (0, .ref 64), (1, .int i1), (2, .int i2), (3, .int i3), (4, .int i4)], [], (x, p10.2, y))) rfl ?_
              by_cases c23 : p12 = Int32.ofInt 63
              · rw [if_pos c23] at h
                rw [if_neg (not_not_intro c23)]
                obtain ⟨σ24, e25, h⟩ := qlet_ex h
                refine qE.steps 12 hd9 (s' := (132, [(8, .int (Int32.ofInt 5)), (7, .int p12), (6, .int p10.1), (0, .ref 64), (1, .int i1), (2, .int i2), (3, .int i3), (4, .int i4)], [], (x, σ24, y))) (by subst e25; rfl) ?_
                exact qE.wk (t_m_buildGoals_142_j132 hd ih h) ⟨rfl, rfl, rfl, rfl, rfl, rfl, rfl, trivial⟩ rfl
              · rw [if_neg c23] at h
                rw [if_pos c23]
                refine qE.steps 5 hd9 (s' := (132, [(8, .int (Int32.ofInt 1)), (7, .int p12), (6, .int p10.1), (0, .ref 64), (1, .int i1), (2, .int i2), (3, .int i3), (4, .int i4)], [], (x, p10.2, y))) rfl ?_
                exact qE.wk (t_m_buildGoals_142_j132 hd ih h) ⟨rfl, rfl, rfl, rfl, rfl, rfl, rfl, trivial⟩ rfl
set_option maxRecDepth 20000 in
theorem t_m_buildGoals_142 {S : Nat × (Nat → Int32)} {d : Nat} {x : qC} {y : Int64 × Nat} {i1 : Int32} {i2 : Int32} {σ : qC} {p : (Int32 × qC)} (hd : 11 ≤ d) (h : m_buildGoals_142 i1 i2 σ = some p) : qE S d jm_12_buildGoals_142 (0, [(0, .ref 64), (1, .int i1), (2, .int i2)], [], (x, σ, y)) ((.inl (some (.int p.1)), (x, p.2, y))) := by
  have hd9 : 9 ≤ d := by omega
  unfold m_buildGoals_142 at h
  refine qE.steps 4 hd9 (s' := (5, [(4, .int (Int32.ofInt (-1))), (3, .int (Int32.ofInt (-1))), (0, .ref 64), (1, .int i1), (2, .int i2)], [], (x, σ, y))) rfl ?_
  exact qE.wk (t_m_buildGoals_142_l5 hd qF h) ⟨rfl, rfl, rfl, rfl, rfl, trivial⟩ rfl
def m_step_157 (σ : qC) : Option (Int32 × qC) := if σ.1 6430 = Int32.ofInt 500 then qlet (upS σ 6411 (Int32.ofInt 3)) (fun σ2 => if σ2.1 6411 = 0 then some (Int32.ofInt 1, σ2) else some (Int32.ofInt 0, σ2)) else qlet (upS σ 6430 ((σ.1 6430) + (Int32.ofInt 1))) (fun σ5 => if σ5.1 6411 = 0 then some (Int32.ofInt 1, σ5) else some (Int32.ofInt 0, σ5))
set_option maxRecDepth 20000 in
theorem t_m_step_157 {S : Nat × (Nat → Int32)} {d : Nat} {x : qC} {y : Int64 × Nat} {σ : qC} {p : (Int32 × qC)} (hd : 9 ≤ d) (h : m_step_157 σ = some p) : qE S d jm_12_step_157 (0, [(0, .ref 64)], [], (x, σ, y)) ((.inl (some (.int p.1)), (x, p.2, y))) := by
  have hd9 : 9 ≤ d := by omega
  unfold m_step_157 at h
  refine qE.steps 4 hd9 (s' := (if ¬ (σ.1 6430 = Int32.ofInt 500) then 18 else 10, [(0, .ref 64)], [], (x, σ, y))) rfl ?_
  by_cases c1 : σ.1 6430 = Int32.ofInt 500
  · rw [if_pos c1] at h
    rw [if_neg (not_not_intro c1)]
    obtain ⟨σ2, e3, h⟩ := qlet_ex h
    refine qE.steps 3 hd9 (s' := (15, [(0, .ref 64)], [], (x, σ2, y))) (by subst e3; rfl) ?_
    refine qE.steps 4 hd9 (s' := (if ¬ (σ2.1 6411 = 0) then 39 else 35, [(0, .ref 64)], [], (x, σ2, y))) rfl ?_
    by_cases c4 : σ2.1 6411 = 0
    · rw [if_pos c4] at h
      rw [if_neg (not_not_intro c4)]
      refine qE.steps 2 hd9 (s' := (40, [(0, .ref 64)], [.int (Int32.ofInt 1)], (x, σ2, y))) rfl ?_
      obtain rfl := Option.some.inj h
      exact qE.ret hd9 rfl rfl
    · rw [if_neg c4] at h
      rw [if_pos c4]
      refine qE.steps 1 hd9 (s' := (40, [(0, .ref 64)], [.int (Int32.ofInt 0)], (x, σ2, y))) rfl ?_
      obtain rfl := Option.some.inj h
      exact qE.ret hd9 rfl rfl
  · rw [if_neg c1] at h
    rw [if_pos c1]
    obtain ⟨σ5, e6, h⟩ := qlet_ex h
    refine qE.steps 6 hd9 (s' := (28, [(0, .ref 64)], [], (x, σ5, y))) (by subst e6; rfl) ?_
    refine qE.steps 3 hd9 (s' := (if ¬ (σ5.1 6411 = 0) then 39 else 35, [(0, .ref 64)], [], (x, σ5, y))) rfl ?_
    by_cases c7 : σ5.1 6411 = 0
    · rw [if_pos c7] at h
      rw [if_neg (not_not_intro c7)]
      refine qE.steps 2 hd9 (s' := (40, [(0, .ref 64)], [.int (Int32.ofInt 1)], (x, σ5, y))) rfl ?_
      obtain rfl := Option.some.inj h
      exact qE.ret hd9 rfl rfl
    · rw [if_neg c7] at h
      rw [if_pos c7]
      refine qE.steps 1 hd9 (s' := (40, [(0, .ref 64)], [.int (Int32.ofInt 0)], (x, σ5, y))) rfl ?_
      obtain rfl := Option.some.inj h
      exact qE.ret hd9 rfl rfl
