/-! BY PROGRAM (wip/whole/gendc.py): each method as a function over the numbers -/
def m_apart_165 (i1 : Int32) (i2 : Int32) (i3 : Int32) (σ : qC) : Option (Int32 × qC) := (m_test_162 i1 i2 σ).bind (fun p1 => if p1.1 = Int32.ofInt 2 then some (Int32.ofInt 0, p1.2) else qlet (upS p1.2 6429 i3) (fun σ4 => if p1.1 = 0 then some (Int32.ofInt 1, σ4) else (aput σ4 87 600 (σ4.1 6435) i1).bind (fun σ7 => (aput σ7 88 600 (σ7.1 6435) i2).bind (fun σ9 => (aput σ9 89 600 (σ9.1 6435) (Int32.ofInt 0)).bind (fun σ11 => qlet (upS σ11 6435 ((σ11.1 6435) + (Int32.ofInt 1))) (fun σ13 => some (Int32.ofInt 1, σ13)))))))
set_option maxRecDepth 20000 in
theorem t_m_apart_165 {S : Nat × (Nat → Int32)} {d : Nat} {x : qC} {y : Int64 × Nat} {i1 : Int32} {i2 : Int32} {i3 : Int32} {σ : qC} {p : (Int32 × qC)} (hd : 13 ≤ d) (h : m_apart_165 i1 i2 i3 σ = some p) : qE S d jm_12_apart_165 (0, [(0, .ref 64), (1, .int i1), (2, .int i2), (3, .int i3)], [], (x, σ, y)) ((.inl (some (.int p.1)), (x, p.2, y))) := by
  have hd9 : 9 ≤ d := by omega
  unfold m_apart_165 at h
  refine qE.steps 3 hd9 (s' := (3, [(0, .ref 64), (1, .int i1), (2, .int i2), (3, .int i3)], [.int i2, .int i1, .ref 64], (x, σ, y))) rfl ?_
  obtain ⟨p1, e2, h⟩ := obind h
  refine qE.call hd9 rfl rfl rfl rfl (t_m_test_162 (by omega) e2) ?_
  refine qE.steps 0 hd9 (s' := (6, [(0, .ref 64), (1, .int i1), (2, .int i2), (3, .int i3)], [.int p1.1], (x, p1.2, y))) rfl ?_
  refine qE.steps 4 hd9 (s' := (if ¬ (p1.1 = Int32.ofInt 2) then 16 else 14, [(4, .int p1.1), (0, .ref 64), (1, .int i1), (2, .int i2), (3, .int i3)], [], (x, p1.2, y))) rfl ?_
  by_cases c3 : p1.1 = Int32.ofInt 2
  · rw [if_pos c3] at h
    rw [if_neg (not_not_intro c3)]
    refine qE.steps 1 hd9 (s' := (15, [(4, .int p1.1), (0, .ref 64), (1, .int i1), (2, .int i2), (3, .int i3)], [.int (Int32.ofInt 0)], (x, p1.2, y))) rfl ?_
    obtain rfl := Option.some.inj h
    exact qE.ret hd9 rfl rfl
  · rw [if_neg c3] at h
    rw [if_pos c3]
    obtain ⟨σ4, e5, h⟩ := qlet_ex h
    refine qE.steps 3 hd9 (s' := (21, [(4, .int p1.1), (0, .ref 64), (1, .int i1), (2, .int i2), (3, .int i3)], [], (x, σ4, y))) (by subst e5; rfl) ?_
    refine qE.steps 2 hd9 (s' := (if ¬ (p1.1 = 0) then 28 else 26, [(4, .int p1.1), (0, .ref 64), (1, .int i1), (2, .int i2), (3, .int i3)], [], (x, σ4, y))) rfl ?_
    by_cases c6 : p1.1 = 0
    · rw [if_pos c6] at h
      rw [if_neg (not_not_intro c6)]
      refine qE.steps 1 hd9 (s' := (27, [(4, .int p1.1), (0, .ref 64), (1, .int i1), (2, .int i2), (3, .int i3)], [.int (Int32.ofInt 1)], (x, σ4, y))) rfl ?_
      obtain rfl := Option.some.inj h
      exact qE.ret hd9 rfl rfl
    · rw [if_neg c6] at h
      rw [if_pos c6]
      refine qE.steps 5 hd9 (s' := (37, [(4, .int p1.1), (0, .ref 64), (1, .int i1), (2, .int i2), (3, .int i3)], [.int i1, .int (σ4.1 6435), .ref 87], (x, σ4, y))) rfl ?_
      obtain ⟨σ7, e8, h⟩ := obind h
      refine qE.iastM hd9 e8 rfl rfl ?_
      refine qE.steps 5 hd9 (s' := (47, [(4, .int p1.1), (0, .ref 64), (1, .int i1), (2, .int i2), (3, .int i3)], [.int i2, .int (σ7.1 6435), .ref 88], (x, σ7, y))) rfl ?_
      obtain ⟨σ9, e10, h⟩ := obind h
      refine qE.iastM hd9 e10 rfl rfl ?_
      refine qE.steps 5 hd9 (s' := (57, [(4, .int p1.1), (0, .ref 64), (1, .int i1), (2, .int i2), (3, .int i3)], [.int (Int32.ofInt 0), .int (σ9.1 6435), .ref 89], (x, σ9, y))) rfl ?_
      obtain ⟨σ11, e12, h⟩ := obind h
      refine qE.iastM hd9 e12 rfl rfl ?_
      obtain ⟨σ13, e14, h⟩ := qlet_ex h
      refine qE.steps 6 hd9 (s' := (68, [(4, .int p1.1), (0, .ref 64), (1, .int i1), (2, .int i2), (3, .int i3)], [], (x, σ13, y))) (by subst e14; rfl) ?_
      refine qE.steps 1 hd9 (s' := (69, [(4, .int p1.1), (0, .ref 64), (1, .int i1), (2, .int i2), (3, .int i3)], [.int (Int32.ofInt 1)], (x, σ13, y))) rfl ?_
      obtain rfl := Option.some.inj h
      exact qE.ret hd9 rfl rfl
def m_less_166 (i1 : Int32) (i2 : Int32) (i3 : Int32) (σ : qC) : Option (Int32 × qC) := (m_value_158 i1 σ).bind (fun p1 => (m_value_158 i2 σ).bind (fun p3 => qlet (upS σ 6429 i3) (fun σ5 => if p1 < 0 then qlet (upS σ5 6411 (Int32.ofInt 4)) (fun σ8 => some (Int32.ofInt 0, σ8)) else if p3 < 0 then qlet (upS σ5 6411 (Int32.ofInt 4)) (fun σ11 => some (Int32.ofInt 0, σ11)) else (aget (σ5.2 72) 24000 p1).bind (fun x13 => if m_in_129 x13 (Int32.ofInt 48) (Int32.ofInt 57) = 0 then qlet (upS σ5 6411 (Int32.ofInt 4)) (fun σ16 => some (Int32.ofInt 0, σ16)) else (aget (σ5.2 72) 24000 p3).bind (fun x18 => if m_in_129 x18 (Int32.ofInt 48) (Int32.ofInt 57) = 0 then qlet (upS σ5 6411 (Int32.ofInt 4)) (fun σ21 => some (Int32.ofInt 0, σ21)) else (aget (σ5.2 72) 24000 p1).bind (fun x23 => (aget (σ5.2 72) 24000 p3).bind (fun x25 => if x25 ≤ x23 then some (Int32.ofInt 0, σ5) else some (Int32.ofInt 1, σ5))))))))
set_option maxRecDepth 20000 in
theorem t_m_less_166 {S : Nat × (Nat → Int32)} {d : Nat} {x : qC} {y : Int64 × Nat} {i1 : Int32} {i2 : Int32} {i3 : Int32} {σ : qC} {p : (Int32 × qC)} (hd : 10 ≤ d) (h : m_less_166 i1 i2 i3 σ = some p) : qE S d jm_12_less_166 (0, [(0, .ref 64), (1, .int i1), (2, .int i2), (3, .int i3)], [], (x, σ, y)) ((.inl (some (.int p.1)), (x, p.2, y))) := by
  have hd9 : 9 ≤ d := by omega
  unfold m_less_166 at h
  refine qE.steps 2 hd9 (s' := (2, [(0, .ref 64), (1, .int i1), (2, .int i2), (3, .int i3)], [.int i1, .ref 64], (x, σ, y))) rfl ?_
  obtain ⟨p1, e2, h⟩ := obind h
  refine qE.call hd9 rfl rfl rfl rfl (t_m_value_158 (by omega) e2) ?_
  refine qE.steps 0 hd9 (s' := (5, [(0, .ref 64), (1, .int i1), (2, .int i2), (3, .int i3)], [.int p1], (x, σ, y))) rfl ?_
  refine qE.steps 3 hd9 (s' := (9, [(4, .int p1), (0, .ref 64), (1, .int i1), (2, .int i2), (3, .int i3)], [.int i2, .ref 64], (x, σ, y))) rfl ?_
  obtain ⟨p3, e4, h⟩ := obind h
  refine qE.call hd9 rfl rfl rfl rfl (t_m_value_158 (by omega) e4) ?_
  refine qE.steps 0 hd9 (s' := (12, [(4, .int p1), (0, .ref 64), (1, .int i1), (2, .int i2), (3, .int i3)], [.int p3], (x, σ, y))) rfl ?_
  obtain ⟨σ5, e6, h⟩ := qlet_ex h
  refine qE.steps 4 hd9 (s' := (19, [(5, .int p3), (4, .int p1), (0, .ref 64), (1, .int i1), (2, .int i2), (3, .int i3)], [], (x, σ5, y))) (by subst e6; rfl) ?_
  refine qE.steps 2 hd9 (s' := (if p1 < 0 then 63 else 24, [(5, .int p3), (4, .int p1), (0, .ref 64), (1, .int i1), (2, .int i2), (3, .int i3)], [], (x, σ5, y))) rfl ?_
  by_cases c7 : p1 < 0
  · rw [if_pos c7] at h
    rw [if_pos c7]
    obtain ⟨σ8, e9, h⟩ := qlet_ex h
    refine qE.steps 3 hd9 (s' := (68, [(5, .int p3), (4, .int p1), (0, .ref 64), (1, .int i1), (2, .int i2), (3, .int i3)], [], (x, σ8, y))) (by subst e9; rfl) ?_
    refine qE.steps 1 hd9 (s' := (69, [(5, .int p3), (4, .int p1), (0, .ref 64), (1, .int i1), (2, .int i2), (3, .int i3)], [.int (Int32.ofInt 0)], (x, σ8, y))) rfl ?_
    obtain rfl := Option.some.inj h
    exact qE.ret hd9 rfl rfl
  · rw [if_neg c7] at h
    rw [if_neg c7]
    refine qE.steps 2 hd9 (s' := (if p3 < 0 then 63 else 29, [(5, .int p3), (4, .int p1), (0, .ref 64), (1, .int i1), (2, .int i2), (3, .int i3)], [], (x, σ5, y))) rfl ?_
    by_cases c10 : p3 < 0
    · rw [if_pos c10] at h
      rw [if_pos c10]
      obtain ⟨σ11, e12, h⟩ := qlet_ex h
      refine qE.steps 3 hd9 (s' := (68, [(5, .int p3), (4, .int p1), (0, .ref 64), (1, .int i1), (2, .int i2), (3, .int i3)], [], (x, σ11, y))) (by subst e12; rfl) ?_
      refine qE.steps 1 hd9 (s' := (69, [(5, .int p3), (4, .int p1), (0, .ref 64), (1, .int i1), (2, .int i2), (3, .int i3)], [.int (Int32.ofInt 0)], (x, σ11, y))) rfl ?_
      obtain rfl := Option.some.inj h
      exact qE.ret hd9 rfl rfl
    · rw [if_neg c10] at h
      rw [if_neg c10]
      refine qE.steps 3 hd9 (s' := (35, [(5, .int p3), (4, .int p1), (0, .ref 64), (1, .int i1), (2, .int i2), (3, .int i3)], [.int p1, .ref 72], (x, σ5, y))) rfl ?_
      obtain ⟨x13, e14, h⟩ := obind h
      refine qE.iald hd9 e14 rfl rfl ?_
      refine qE.steps 2 hd9 (s' := (40, [(5, .int p3), (4, .int p1), (0, .ref 64), (1, .int i1), (2, .int i2), (3, .int i3)], [.int (Int32.ofInt 57), .int (Int32.ofInt 48), .int x13], (x, σ5, y))) rfl ?_
      refine qE.call hd9 rfl rfl rfl rfl (t_m_in_129 (by omega) rfl) ?_
      refine qE.steps 0 hd9 (s' := (43, [(5, .int p3), (4, .int p1), (0, .ref 64), (1, .int i1), (2, .int i2), (3, .int i3)], [.int (m_in_129 x13 (Int32.ofInt 48) (Int32.ofInt 57))], (x, σ5, y))) rfl ?_
      refine qE.steps 1 hd9 (s' := (if m_in_129 x13 (Int32.ofInt 48) (Int32.ofInt 57) = 0 then 63 else 46, [(5, .int p3), (4, .int p1), (0, .ref 64), (1, .int i1), (2, .int i2), (3, .int i3)], [], (x, σ5, y))) rfl ?_
      by_cases c15 : m_in_129 x13 (Int32.ofInt 48) (Int32.ofInt 57) = 0
      · rw [if_pos c15] at h
        rw [if_pos c15]
        obtain ⟨σ16, e17, h⟩ := qlet_ex h
        refine qE.steps 3 hd9 (s' := (68, [(5, .int p3), (4, .int p1), (0, .ref 64), (1, .int i1), (2, .int i2), (3, .int i3)], [], (x, σ16, y))) (by subst e17; rfl) ?_
        refine qE.steps 1 hd9 (s' := (69, [(5, .int p3), (4, .int p1), (0, .ref 64), (1, .int i1), (2, .int i2), (3, .int i3)], [.int (Int32.ofInt 0)], (x, σ16, y))) rfl ?_
        obtain rfl := Option.some.inj h
        exact qE.ret hd9 rfl rfl
      · rw [if_neg c15] at h
        rw [if_neg c15]
        refine qE.steps 3 hd9 (s' := (52, [(5, .int p3), (4, .int p1), (0, .ref 64), (1, .int i1), (2, .int i2), (3, .int i3)], [.int p3, .ref 72], (x, σ5, y))) rfl ?_
        obtain ⟨x18, e19, h⟩ := obind h
        refine qE.iald hd9 e19 rfl rfl ?_
        refine qE.steps 2 hd9 (s' := (57, [(5, .int p3), (4, .int p1), (0, .ref 64), (1, .int i1), (2, .int i2), (3, .int i3)], [.int (Int32.ofInt 57), .int (Int32.ofInt 48), .int x18], (x, σ5, y))) rfl ?_
        refine qE.call hd9 rfl rfl rfl rfl (t_m_in_129 (by omega) rfl) ?_
        refine qE.steps 0 hd9 (s' := (60, [(5, .int p3), (4, .int p1), (0, .ref 64), (1, .int i1), (2, .int i2), (3, .int i3)], [.int (m_in_129 x18 (Int32.ofInt 48) (Int32.ofInt 57))], (x, σ5, y))) rfl ?_
        refine qE.steps 1 hd9 (s' := (if ¬ (m_in_129 x18 (Int32.ofInt 48) (Int32.ofInt 57) = 0) then 70 else 63, [(5, .int p3), (4, .int p1), (0, .ref 64), (1, .int i1), (2, .int i2), (3, .int i3)], [], (x, σ5, y))) rfl ?_
        by_cases c20 : m_in_129 x18 (Int32.ofInt 48) (Int32.ofInt 57) = 0
        · rw [if_pos c20] at h
          rw [if_neg (not_not_intro c20)]
          obtain ⟨σ21, e22, h⟩ := qlet_ex h
          refine qE.steps 3 hd9 (s' := (68, [(5, .int p3), (4, .int p1), (0, .ref 64), (1, .int i1), (2, .int i2), (3, .int i3)], [], (x, σ21, y))) (by subst e22; rfl) ?_
          refine qE.steps 1 hd9 (s' := (69, [(5, .int p3), (4, .int p1), (0, .ref 64), (1, .int i1), (2, .int i2), (3, .int i3)], [.int (Int32.ofInt 0)], (x, σ21, y))) rfl ?_
          obtain rfl := Option.some.inj h
          exact qE.ret hd9 rfl rfl
        · rw [if_neg c20] at h
          rw [if_pos c20]
          refine qE.steps 3 hd9 (s' := (76, [(5, .int p3), (4, .int p1), (0, .ref 64), (1, .int i1), (2, .int i2), (3, .int i3)], [.int p1, .ref 72], (x, σ5, y))) rfl ?_
          obtain ⟨x23, e24, h⟩ := obind h
          refine qE.iald hd9 e24 rfl rfl ?_
          refine qE.steps 3 hd9 (s' := (83, [(5, .int p3), (4, .int p1), (0, .ref 64), (1, .int i1), (2, .int i2), (3, .int i3)], [.int p3, .ref 72, .int x23], (x, σ5, y))) rfl ?_
          obtain ⟨x25, e26, h⟩ := obind h
          refine qE.iald hd9 e26 rfl rfl ?_
          refine qE.steps 1 hd9 (s' := (if x25 ≤ x23 then 91 else 87, [(5, .int p3), (4, .int p1), (0, .ref 64), (1, .int i1), (2, .int i2), (3, .int i3)], [], (x, σ5, y))) rfl ?_
          by_cases c27 : x25 ≤ x23
          · rw [if_pos c27] at h
            rw [if_pos c27]
            refine qE.steps 1 hd9 (s' := (92, [(5, .int p3), (4, .int p1), (0, .ref 64), (1, .int i1), (2, .int i2), (3, .int i3)], [.int (Int32.ofInt 0)], (x, σ5, y))) rfl ?_
            obtain rfl := Option.some.inj h
            exact qE.ret hd9 rfl rfl
          · rw [if_neg c27] at h
            rw [if_neg c27]
            refine qE.steps 2 hd9 (s' := (92, [(5, .int p3), (4, .int p1), (0, .ref 64), (1, .int i1), (2, .int i2), (3, .int i3)], [.int (Int32.ofInt 1)], (x, σ5, y))) rfl ?_
            obtain rfl := Option.some.inj h
            exact qE.ret hd9 rfl rfl
def m_sleep_167 (i1 : Int32) (i2 : Int32) (i3 : Int32) (σ : qC) : Option (Int32 × qC) := (m_value_158 i1 σ).bind (fun p1 => qlet (upS σ 6429 i3) (fun σ3 => if p1 < 0 then (aput σ3 85 1200 (σ3.1 6434) i2).bind (fun σ6 => (aput σ6 86 1200 (σ6.1 6434) (Int32.ofInt (-1))).bind (fun σ8 => qlet (upS σ8 6434 ((σ8.1 6434) + (Int32.ofInt 1))) (fun σ10 => (m_follow_161 ((Int32.ofInt (-1)) - p1) ((σ10.1 6434) - (Int32.ofInt 1)) ((σ10.1 6434) - (Int32.ofInt 1)) σ10).bind (fun p12 => some (Int32.ofInt 1, p12))))) else (m_goal_144 (Int32.ofInt 1) i2 (Int32.ofInt 0) (Int32.ofInt 0) i3 σ3).bind (fun p14 => qlet (upS p14.2 6429 p14.1) (fun σ16 => some (Int32.ofInt 1, σ16)))))
set_option maxRecDepth 20000 in
theorem t_m_sleep_167 {S : Nat × (Nat → Int32)} {d : Nat} {x : qC} {y : Int64 × Nat} {i1 : Int32} {i2 : Int32} {i3 : Int32} {σ : qC} {p : (Int32 × qC)} (hd : 11 ≤ d) (h : m_sleep_167 i1 i2 i3 σ = some p) : qE S d jm_12_sleep_167 (0, [(0, .ref 64), (1, .int i1), (2, .int i2), (3, .int i3)], [], (x, σ, y)) ((.inl (some (.int p.1)), (x, p.2, y))) := by
  have hd9 : 9 ≤ d := by omega
  unfold m_sleep_167 at h
  refine qE.steps 2 hd9 (s' := (2, [(0, .ref 64), (1, .int i1), (2, .int i2), (3, .int i3)], [.int i1, .ref 64], (x, σ, y))) rfl ?_
  obtain ⟨p1, e2, h⟩ := obind h
  refine qE.call hd9 rfl rfl rfl rfl (t_m_value_158 (by omega) e2) ?_
  refine qE.steps 0 hd9 (s' := (5, [(0, .ref 64), (1, .int i1), (2, .int i2), (3, .int i3)], [.int p1], (x, σ, y))) rfl ?_
  obtain ⟨σ3, e4, h⟩ := qlet_ex h
  refine qE.steps 4 hd9 (s' := (12, [(4, .int p1), (0, .ref 64), (1, .int i1), (2, .int i2), (3, .int i3)], [], (x, σ3, y))) (by subst e4; rfl) ?_
  refine qE.steps 2 hd9 (s' := (if p1 < 0 then 33 else 17, [(4, .int p1), (0, .ref 64), (1, .int i1), (2, .int i2), (3, .int i3)], [], (x, σ3, y))) rfl ?_
  by_cases c5 : p1 < 0
  · rw [if_pos c5] at h
    rw [if_pos c5]
    refine qE.steps 5 hd9 (s' := (42, [(4, .int p1), (0, .ref 64), (1, .int i1), (2, .int i2), (3, .int i3)], [.int i2, .int (σ3.1 6434), .ref 85], (x, σ3, y))) rfl ?_
    obtain ⟨σ6, e7, h⟩ := obind h
    refine qE.iastM hd9 e7 rfl rfl ?_
    refine qE.steps 5 hd9 (s' := (52, [(4, .int p1), (0, .ref 64), (1, .int i1), (2, .int i2), (3, .int i3)], [.int (Int32.ofInt (-1)), .int (σ6.1 6434), .ref 86], (x, σ6, y))) rfl ?_
    obtain ⟨σ8, e9, h⟩ := obind h
    refine qE.iastM hd9 e9 rfl rfl ?_
    obtain ⟨σ10, e11, h⟩ := qlet_ex h
    refine qE.steps 6 hd9 (s' := (63, [(4, .int p1), (0, .ref 64), (1, .int i1), (2, .int i2), (3, .int i3)], [], (x, σ10, y))) (by subst e11; rfl) ?_
    refine qE.steps 12 hd9 (s' := (80, [(4, .int p1), (0, .ref 64), (1, .int i1), (2, .int i2), (3, .int i3)], [.int ((σ10.1 6434) - (Int32.ofInt 1)), .int ((σ10.1 6434) - (Int32.ofInt 1)), .int ((Int32.ofInt (-1)) - p1), .ref 64], (x, σ10, y))) rfl ?_
    obtain ⟨p12, e13, h⟩ := obind h
    refine qE.call hd9 rfl rfl rfl rfl (t_m_follow_161 (by omega) e13) ?_
    refine qE.steps 0 hd9 (s' := (83, [(4, .int p1), (0, .ref 64), (1, .int i1), (2, .int i2), (3, .int i3)], [], (x, p12, y))) rfl ?_
    refine qE.steps 1 hd9 (s' := (84, [(4, .int p1), (0, .ref 64), (1, .int i1), (2, .int i2), (3, .int i3)], [.int (Int32.ofInt 1)], (x, p12, y))) rfl ?_
    obtain rfl := Option.some.inj h
    exact qE.ret hd9 rfl rfl
  · rw [if_neg c5] at h
    rw [if_neg c5]
    refine qE.steps 7 hd9 (s' := (24, [(4, .int p1), (0, .ref 64), (1, .int i1), (2, .int i2), (3, .int i3)], [.int i3, .int (Int32.ofInt 0), .int (Int32.ofInt 0), .int i2, .int (Int32.ofInt 1), .ref 64, .ref 64], (x, σ3, y))) rfl ?_
    obtain ⟨p14, e15, h⟩ := obind h
    refine qE.call hd9 rfl rfl rfl rfl (t_m_goal_144 (by omega) e15) ?_
    refine qE.steps 0 hd9 (s' := (27, [(4, .int p1), (0, .ref 64), (1, .int i1), (2, .int i2), (3, .int i3)], [.int p14.1, .ref 64], (x, p14.2, y))) rfl ?_
    obtain ⟨σ16, e17, h⟩ := qlet_ex h
    refine qE.steps 1 hd9 (s' := (30, [(4, .int p1), (0, .ref 64), (1, .int i1), (2, .int i2), (3, .int i3)], [], (x, σ16, y))) (by subst e17; rfl) ?_
    refine qE.steps 2 hd9 (s' := (84, [(4, .int p1), (0, .ref 64), (1, .int i1), (2, .int i2), (3, .int i3)], [.int (Int32.ofInt 1)], (x, σ16, y))) rfl ?_
    obtain rfl := Option.some.inj h
    exact qE.ret hd9 rfl rfl
def m_perform_163 (i1 : Int32) (σ : qC) : Option (Int32 × qC) := (aget (σ.2 82) 14000 i1).bind (fun x1 => (aget (σ.2 79) 14000 i1).bind (fun x3 => (aget (σ.2 80) 14000 i1).bind (fun x5 => (aget (σ.2 78) 14000 i1).bind (fun x7 => if x7 = Int32.ofInt 0 then (aget (σ.2 81) 14000 i1).bind (fun x10 => if σ.1 6433 ≤ x10 then qlet (upS σ 6429 x1) (fun σ13 => some (Int32.ofInt 1, σ13)) else (aget (σ.2 81) 14000 i1).bind (fun x15 => qlet (upS σ 6433 x15) (fun σ17 => qlet (upS σ17 6429 x1) (fun σ19 => some (Int32.ofInt 1, σ19))))) else if x7 = Int32.ofInt 1 then (m_call_164 x3 x1 σ).bind (fun p22 => if p22.1 = 0 ∨ p22.1 = 1 then some (p22.1, p22.2) else none) else if x7 = Int32.ofInt 2 then qlet (upS σ 6436 (Int32.ofInt 0)) (fun σ26 => (m_pair_154 x3 x5 σ26).bind (fun p28 => (m_unify_155 x1 p28).bind (fun p30 => if p30.1 = 0 ∨ p30.1 = 1 then some (p30.1, p30.2) else none))) else if x7 = Int32.ofInt 3 then (m_apart_165 x3 x5 x1 σ).bind (fun p34 => if p34.1 = 0 ∨ p34.1 = 1 then some (p34.1, p34.2) else none) else if x7 = Int32.ofInt 4 then (m_less_166 x3 x5 x1 σ).bind (fun p38 => if p38.1 = 0 ∨ p38.1 = 1 then some (p38.1, p38.2) else none) else (m_sleep_167 x3 x5 x1 σ).bind (fun p41 => if p41.1 = 0 ∨ p41.1 = 1 then some (p41.1, p41.2) else none)))))
set_option maxRecDepth 20000 in
theorem t_m_perform_163 {S : Nat × (Nat → Int32)} {d : Nat} {x : qC} {y : Int64 × Nat} {i1 : Int32} {σ : qC} {p : (Int32 × qC)} (hd : 16 ≤ d) (h : m_perform_163 i1 σ = some p) : qE S d jm_12_perform_163 (0, [(0, .ref 64), (1, .int i1)], [], (x, σ, y)) ((.inl (some (.int p.1)), (x, p.2, y))) := by
  have hd9 : 9 ≤ d := by omega
  unfold m_perform_163 at h
  refine qE.steps 3 hd9 (s' := (5, [(0, .ref 64), (1, .int i1)], [.int i1, .ref 82], (x, σ, y))) rfl ?_
  obtain ⟨x1, e2, h⟩ := obind h
  refine qE.iald hd9 e2 rfl rfl ?_
  refine qE.steps 4 hd9 (s' := (12, [(2, .int x1), (0, .ref 64), (1, .int i1)], [.int i1, .ref 79], (x, σ, y))) rfl ?_
  obtain ⟨x3, e4, h⟩ := obind h
  refine qE.iald hd9 e4 rfl rfl ?_
  refine qE.steps 4 hd9 (s' := (19, [(3, .int x3), (2, .int x1), (0, .ref 64), (1, .int i1)], [.int i1, .ref 80], (x, σ, y))) rfl ?_
  obtain ⟨x5, e6, h⟩ := obind h
  refine qE.iald hd9 e6 rfl rfl ?_
  refine qE.steps 4 hd9 (s' := (27, [(4, .int x5), (3, .int x3), (2, .int x1), (0, .ref 64), (1, .int i1)], [.int i1, .ref 78], (x, σ, y))) rfl ?_
  obtain ⟨x7, e8, h⟩ := obind h
  refine qE.iald hd9 e8 rfl rfl ?_
  by_cases c9 : x7 = Int32.ofInt 0
  · rw [if_pos c9] at h
    refine qE.jmp (pc' := 64) (st' := []) hd9 (by rw [c9]; rfl) rfl rfl rfl ?_
    refine qE.steps 5 hd9 (s' := (73, [(4, .int x5), (3, .int x3), (2, .int x1), (0, .ref 64), (1, .int i1)], [.int i1, .ref 81, .int (σ.1 6433)], (x, σ, y))) rfl ?_
    obtain ⟨x10, e11, h⟩ := obind h
    refine qE.iald hd9 e11 rfl rfl ?_
    refine qE.steps 1 hd9 (s' := (if σ.1 6433 ≤ x10 then 87 else 77, [(4, .int x5), (3, .int x3), (2, .int x1), (0, .ref 64), (1, .int i1)], [], (x, σ, y))) rfl ?_
    by_cases c12 : σ.1 6433 ≤ x10
    · rw [if_pos c12] at h
      rw [if_pos c12]
      obtain ⟨σ13, e14, h⟩ := qlet_ex h
      refine qE.steps 3 hd9 (s' := (92, [(4, .int x5), (3, .int x3), (2, .int x1), (0, .ref 64), (1, .int i1)], [], (x, σ13, y))) (by subst e14; rfl) ?_
      refine qE.steps 1 hd9 (s' := (93, [(4, .int x5), (3, .int x3), (2, .int x1), (0, .ref 64), (1, .int i1)], [.int (Int32.ofInt 1)], (x, σ13, y))) rfl ?_
      obtain rfl := Option.some.inj h
      exact qE.ret hd9 rfl rfl
    · rw [if_neg c12] at h
      rw [if_neg c12]
      refine qE.steps 4 hd9 (s' := (83, [(4, .int x5), (3, .int x3), (2, .int x1), (0, .ref 64), (1, .int i1)], [.int i1, .ref 81, .ref 64], (x, σ, y))) rfl ?_
      obtain ⟨x15, e16, h⟩ := obind h
      refine qE.iald hd9 e16 rfl rfl ?_
      obtain ⟨σ17, e18, h⟩ := qlet_ex h
      refine qE.steps 1 hd9 (s' := (87, [(4, .int x5), (3, .int x3), (2, .int x1), (0, .ref 64), (1, .int i1)], [], (x, σ17, y))) (by subst e18; rfl) ?_
      obtain ⟨σ19, e20, h⟩ := qlet_ex h
      refine qE.steps 3 hd9 (s' := (92, [(4, .int x5), (3, .int x3), (2, .int x1), (0, .ref 64), (1, .int i1)], [], (x, σ19, y))) (by subst e20; rfl) ?_
      refine qE.steps 1 hd9 (s' := (93, [(4, .int x5), (3, .int x3), (2, .int x1), (0, .ref 64), (1, .int i1)], [.int (Int32.ofInt 1)], (x, σ19, y))) rfl ?_
      obtain rfl := Option.some.inj h
      exact qE.ret hd9 rfl rfl
  rw [if_neg c9] at h
  by_cases c21 : x7 = Int32.ofInt 1
  · rw [if_pos c21] at h
    refine qE.jmp (pc' := 94) (st' := []) hd9 (by rw [c21]; rfl) rfl rfl rfl ?_
    refine qE.steps 3 hd9 (s' := (97, [(4, .int x5), (3, .int x3), (2, .int x1), (0, .ref 64), (1, .int i1)], [.int x1, .int x3, .ref 64], (x, σ, y))) rfl ?_
    obtain ⟨p22, e23, h⟩ := obind h
    refine qE.call hd9 rfl rfl rfl rfl (t_m_call_164 (by omega) e23) ?_
    refine qE.steps 0 hd9 (s' := (100, [(4, .int x5), (3, .int x3), (2, .int x1), (0, .ref 64), (1, .int i1)], [.int p22.1], (x, p22.2, y))) rfl ?_
    by_cases c24 : p22.1 = 0 ∨ p22.1 = 1
    case neg => rw [if_neg c24] at h; cases h
    rw [if_pos c24] at h
    obtain rfl := Option.some.inj h
    exact qE.ret hd9 rfl (by rcases c24 with c24 | c24 <;> (show qat jT0 jm_12_perform_163 (100, [(4, .int x5), (3, .int x3), (2, .int x1), (0, .ref 64), (1, .int i1)], [.int p22.1], (x, p22.2, y)) = some (.inl (some (.int p22.1)))) <;> rw [c24] <;> rfl)
  rw [if_neg c21] at h
  by_cases c25 : x7 = Int32.ofInt 2
  · rw [if_pos c25] at h
    refine qE.jmp (pc' := 101) (st' := []) hd9 (by rw [c25]; rfl) rfl rfl rfl ?_
    obtain ⟨σ26, e27, h⟩ := qlet_ex h
    refine qE.steps 3 hd9 (s' := (106, [(4, .int x5), (3, .int x3), (2, .int x1), (0, .ref 64), (1, .int i1)], [], (x, σ26, y))) (by subst e27; rfl) ?_
    refine qE.steps 3 hd9 (s' := (110, [(4, .int x5), (3, .int x3), (2, .int x1), (0, .ref 64), (1, .int i1)], [.int x5, .int x3, .ref 64], (x, σ26, y))) rfl ?_
    obtain ⟨p28, e29, h⟩ := obind h
    refine qE.call hd9 rfl rfl rfl rfl (t_m_pair_154 (by omega) e29) ?_
    refine qE.steps 0 hd9 (s' := (113, [(4, .int x5), (3, .int x3), (2, .int x1), (0, .ref 64), (1, .int i1)], [], (x, p28, y))) rfl ?_
    refine qE.steps 2 hd9 (s' := (115, [(4, .int x5), (3, .int x3), (2, .int x1), (0, .ref 64), (1, .int i1)], [.int x1, .ref 64], (x, p28, y))) rfl ?_
    obtain ⟨p30, e31, h⟩ := obind h
    refine qE.call hd9 rfl rfl rfl rfl (t_m_unify_155 (by omega) e31) ?_
    refine qE.steps 0 hd9 (s' := (118, [(4, .int x5), (3, .int x3), (2, .int x1), (0, .ref 64), (1, .int i1)], [.int p30.1], (x, p30.2, y))) rfl ?_
    by_cases c32 : p30.1 = 0 ∨ p30.1 = 1
    case neg => rw [if_neg c32] at h; cases h
    rw [if_pos c32] at h
    obtain rfl := Option.some.inj h
    exact qE.ret hd9 rfl (by rcases c32 with c32 | c32 <;> (show qat jT0 jm_12_perform_163 (118, [(4, .int x5), (3, .int x3), (2, .int x1), (0, .ref 64), (1, .int i1)], [.int p30.1], (x, p30.2, y)) = some (.inl (some (.int p30.1)))) <;> rw [c32] <;> rfl)
  rw [if_neg c25] at h
  by_cases c33 : x7 = Int32.ofInt 3
  · rw [if_pos c33] at h
    refine qE.jmp (pc' := 119) (st' := []) hd9 (by rw [c33]; rfl) rfl rfl rfl ?_
    refine qE.steps 4 hd9 (s' := (124, [(4, .int x5), (3, .int x3), (2, .int x1), (0, .ref 64), (1, .int i1)], [.int x1, .int x5, .int x3, .ref 64], (x, σ, y))) rfl ?_
    obtain ⟨p34, e35, h⟩ := obind h
    refine qE.call hd9 rfl rfl rfl rfl (t_m_apart_165 (by omega) e35) ?_
    refine qE.steps 0 hd9 (s' := (127, [(4, .int x5), (3, .int x3), (2, .int x1), (0, .ref 64), (1, .int i1)], [.int p34.1], (x, p34.2, y))) rfl ?_
    by_cases c36 : p34.1 = 0 ∨ p34.1 = 1
    case neg => rw [if_neg c36] at h; cases h
    rw [if_pos c36] at h
    obtain rfl := Option.some.inj h
    exact qE.ret hd9 rfl (by rcases c36 with c36 | c36 <;> (show qat jT0 jm_12_perform_163 (127, [(4, .int x5), (3, .int x3), (2, .int x1), (0, .ref 64), (1, .int i1)], [.int p34.1], (x, p34.2, y)) = some (.inl (some (.int p34.1)))) <;> rw [c36] <;> rfl)
  rw [if_neg c33] at h
  by_cases c37 : x7 = Int32.ofInt 4
  · rw [if_pos c37] at h
    refine qE.jmp (pc' := 128) (st' := []) hd9 (by rw [c37]; rfl) rfl rfl rfl ?_
    refine qE.steps 4 hd9 (s' := (133, [(4, .int x5), (3, .int x3), (2, .int x1), (0, .ref 64), (1, .int i1)], [.int x1, .int x5, .int x3, .ref 64], (x, σ, y))) rfl ?_
    obtain ⟨p38, e39, h⟩ := obind h
    refine qE.call hd9 rfl rfl rfl rfl (t_m_less_166 (by omega) e39) ?_
    refine qE.steps 0 hd9 (s' := (136, [(4, .int x5), (3, .int x3), (2, .int x1), (0, .ref 64), (1, .int i1)], [.int p38.1], (x, p38.2, y))) rfl ?_
    by_cases c40 : p38.1 = 0 ∨ p38.1 = 1
    case neg => rw [if_neg c40] at h; cases h
    rw [if_pos c40] at h
    obtain rfl := Option.some.inj h
    exact qE.ret hd9 rfl (by rcases c40 with c40 | c40 <;> (show qat jT0 jm_12_perform_163 (136, [(4, .int x5), (3, .int x3), (2, .int x1), (0, .ref 64), (1, .int i1)], [.int p38.1], (x, p38.2, y)) = some (.inl (some (.int p38.1)))) <;> rw [c40] <;> rfl)
  rw [if_neg c37] at h
  refine qE.jmp (pc' := 137) (st' := []) hd9 (jsw_def (fun kk h1 h2 => by rcases (by omega : kk = 0 ∨ kk = 1 ∨ kk = 2 ∨ kk = 3 ∨ kk = 4) with rfl | rfl | rfl | rfl | rfl <;> assumption) rfl) rfl rfl rfl ?_
  refine qE.steps 4 hd9 (s' := (142, [(4, .int x5), (3, .int x3), (2, .int x1), (0, .ref 64), (1, .int i1)], [.int x1, .int x5, .int x3, .ref 64], (x, σ, y))) rfl ?_
  obtain ⟨p41, e42, h⟩ := obind h
  refine qE.call hd9 rfl rfl rfl rfl (t_m_sleep_167 (by omega) e42) ?_
  refine qE.steps 0 hd9 (s' := (145, [(4, .int x5), (3, .int x3), (2, .int x1), (0, .ref 64), (1, .int i1)], [.int p41.1], (x, p41.2, y))) rfl ?_
  by_cases c43 : p41.1 = 0 ∨ p41.1 = 1
  case neg => rw [if_neg c43] at h; cases h
  rw [if_pos c43] at h
  obtain rfl := Option.some.inj h
  exact qE.ret hd9 rfl (by rcases c43 with c43 | c43 <;> (show qat jT0 jm_12_perform_163 (145, [(4, .int x5), (3, .int x3), (2, .int x1), (0, .ref 64), (1, .int i1)], [.int p41.1], (x, p41.2, y)) = some (.inl (some (.int p41.1)))) <;> rw [c43] <;> rfl)
def m_back_149_l0 : Nat → qC → Option (Int32 × qC)
  | 0, _ => none
  | n + 1, σ => if σ.1 6433 ≤ 0 then some (Int32.ofInt 0, σ) else if σ.1 6411 = 0 then (aget (σ.2 95) 600 ((σ.1 6433) - (Int32.ofInt 1))).bind (fun x3 => (aget (σ.2 94) 600 ((σ.1 6433) - (Int32.ofInt 1))).bind (fun x5 => (m_nextFit_150 (x3 + (Int32.ofInt 1)) x5 σ).bind (fun p7 => (aget (σ.2 100) 600 ((σ.1 6433) - (Int32.ofInt 1))).bind (fun x9 => (m_undo_152 x9 σ).bind (fun p11 => (aget (p11.2 97) 600 ((σ.1 6433) - (Int32.ofInt 1))).bind (fun x13 => qlet (upS p11 6425 x13) (fun σ15 => (aget (σ15.2 98) 600 ((σ.1 6433) - (Int32.ofInt 1))).bind (fun x17 => qlet (upS σ15 6426 x17) (fun σ19 => (aget (σ19.2 99) 600 ((σ.1 6433) - (Int32.ofInt 1))).bind (fun x21 => qlet (upS σ19 6428 x21) (fun σ23 => (aget (σ23.2 101) 600 ((σ.1 6433) - (Int32.ofInt 1))).bind (fun x25 => qlet (upS σ23 6434 x25) (fun σ27 => (aget (σ27.2 102) 600 ((σ.1 6433) - (Int32.ofInt 1))).bind (fun x29 => qlet (upS σ27 6435 x29) (fun σ31 => (aput σ31 95 600 ((σ.1 6433) - (Int32.ofInt 1)) p7).bind (fun σ33 => if p7 = σ33.1 6408 then qlet (upS σ33 6433 ((σ33.1 6433) - (Int32.ofInt 1))) (fun σ36 => (aget (σ36.2 96) 600 ((σ.1 6433) - (Int32.ofInt 1))).bind (fun x38 => (m_take_153 x3 x5 x38 ((σ.1 6433) - (Int32.ofInt 1)) σ36).bind (fun p40 => if p40.1 = 0 then (m_back_149_l0 n) p40.2 else some (Int32.ofInt 1, p40.2)))) else (aget (σ33.2 96) 600 ((σ.1 6433) - (Int32.ofInt 1))).bind (fun x43 => (m_take_153 x3 x5 x43 ((σ.1 6433) - (Int32.ofInt 1)) σ33).bind (fun p45 => if p45.1 = 0 then (m_back_149_l0 n) p45.2 else some (Int32.ofInt 1, p45.2))))))))))))))))))) else some (Int32.ofInt 0, σ)
def m_back_149 (σ : qC) : Option (Int32 × qC) := m_back_149_l0 qF σ
set_option maxRecDepth 20000 in
theorem t_m_back_149_l0 {S : Nat × (Nat → Int32)} {d : Nat} {x : qC} {y : Int64 × Nat} (hd : 15 ≤ d) : ∀ (n : Nat) {σ : qC} {p : (Int32 × qC)}, m_back_149_l0 n σ = some p → qE S d jm_12_back_149 (0, [(0, .ref 64)], [], (x, σ, y)) ((.inl (some (.int p.1)), (x, p.2, y))) := by
  have hd9 : 9 ≤ d := by omega
  intro n
  induction n with
  | zero =>
    intros
    rename_i h
    unfold m_back_149_l0 at h
    cases h
  | succ n ih =>
    intro σ p h
    unfold m_back_149_l0 at h
    refine qE.steps 3 hd9 (s' := (if σ.1 6433 ≤ 0 then 153 else 7, [(0, .ref 64)], [], (x, σ, y))) rfl ?_
    by_cases c1 : σ.1 6433 ≤ 0
    · rw [if_pos c1] at h
      rw [if_pos c1]
      refine qE.steps 1 hd9 (s' := (154, [(0, .ref 64)], [.int (Int32.ofInt 0)], (x, σ, y))) rfl ?_
      obtain rfl := Option.some.inj h
      exact qE.ret hd9 rfl rfl
    · rw [if_neg c1] at h
      rw [if_neg c1]
      refine qE.steps 3 hd9 (s' := (if ¬ (σ.1 6411 = 0) then 153 else 14, [(0, .ref 64)], [], (x, σ, y))) rfl ?_
      by_cases c2 : σ.1 6411 = 0
      · rw [if_pos c2] at h
        rw [if_neg (not_not_intro c2)]
        refine qE.steps 8 hd9 (s' := (26, [(1, .int ((σ.1 6433) - (Int32.ofInt 1))), (0, .ref 64)], [.int ((σ.1 6433) - (Int32.ofInt 1)), .ref 95], (x, σ, y))) rfl ?_
        obtain ⟨x3, e4, h⟩ := obind h
        refine qE.iald hd9 e4 rfl rfl ?_
        refine qE.steps 4 hd9 (s' := (33, [(2, .int x3), (1, .int ((σ.1 6433) - (Int32.ofInt 1))), (0, .ref 64)], [.int ((σ.1 6433) - (Int32.ofInt 1)), .ref 94], (x, σ, y))) rfl ?_
        obtain ⟨x5, e6, h⟩ := obind h
        refine qE.iald hd9 e6 rfl rfl ?_
        refine qE.steps 6 hd9 (s' := (40, [(3, .int x5), (2, .int x3), (1, .int ((σ.1 6433) - (Int32.ofInt 1))), (0, .ref 64)], [.int x5, .int (x3 + (Int32.ofInt 1)), .ref 64], (x, σ, y))) rfl ?_
        obtain ⟨p7, e8, h⟩ := obind h
        refine qE.call hd9 rfl rfl rfl rfl (t_m_nextFit_150 (by omega) e8) ?_
        refine qE.steps 0 hd9 (s' := (43, [(3, .int x5), (2, .int x3), (1, .int ((σ.1 6433) - (Int32.ofInt 1))), (0, .ref 64)], [.int p7], (x, σ, y))) rfl ?_
        refine qE.steps 5 hd9 (s' := (51, [(4, .int p7), (3, .int x5), (2, .int x3), (1, .int ((σ.1 6433) - (Int32.ofInt 1))), (0, .ref 64)], [.int ((σ.1 6433) - (Int32.ofInt 1)), .ref 100, .ref 64], (x, σ, y))) rfl ?_
        obtain ⟨x9, e10, h⟩ := obind h
        refine qE.iald hd9 e10 rfl rfl ?_
        obtain ⟨p11, e12, h⟩ := obind h
        refine qE.call hd9 rfl rfl rfl rfl (t_m_undo_152 (by omega) e12) ?_
        refine qE.steps 0 hd9 (s' := (55, [(4, .int p7), (3, .int x5), (2, .int x3), (1, .int ((σ.1 6433) - (Int32.ofInt 1))), (0, .ref 64)], [], (x, p11, y))) rfl ?_
        refine qE.steps 4 hd9 (s' := (61, [(4, .int p7), (3, .int x5), (2, .int x3), (1, .int ((σ.1 6433) - (Int32.ofInt 1))), (0, .ref 64)], [.int ((σ.1 6433) - (Int32.ofInt 1)), .ref 97, .ref 64], (x, p11, y))) rfl ?_
        obtain ⟨x13, e14, h⟩ := obind h
        refine qE.iald hd9 e14 rfl rfl ?_
        obtain ⟨σ15, e16, h⟩ := qlet_ex h
        refine qE.steps 1 hd9 (s' := (65, [(4, .int p7), (3, .int x5), (2, .int x3), (1, .int ((σ.1 6433) - (Int32.ofInt 1))), (0, .ref 64)], [], (x, σ15, y))) (by subst e16; rfl) ?_
        refine qE.steps 4 hd9 (s' := (71, [(4, .int p7), (3, .int x5), (2, .int x3), (1, .int ((σ.1 6433) - (Int32.ofInt 1))), (0, .ref 64)], [.int ((σ.1 6433) - (Int32.ofInt 1)), .ref 98, .ref 64], (x, σ15, y))) rfl ?_
        obtain ⟨x17, e18, h⟩ := obind h
        refine qE.iald hd9 e18 rfl rfl ?_
        obtain ⟨σ19, e20, h⟩ := qlet_ex h
        refine qE.steps 1 hd9 (s' := (75, [(4, .int p7), (3, .int x5), (2, .int x3), (1, .int ((σ.1 6433) - (Int32.ofInt 1))), (0, .ref 64)], [], (x, σ19, y))) (by subst e20; rfl) ?_
        refine qE.steps 4 hd9 (s' := (81, [(4, .int p7), (3, .int x5), (2, .int x3), (1, .int ((σ.1 6433) - (Int32.ofInt 1))), (0, .ref 64)], [.int ((σ.1 6433) - (Int32.ofInt 1)), .ref 99, .ref 64], (x, σ19, y))) rfl ?_
        obtain ⟨x21, e22, h⟩ := obind h
        refine qE.iald hd9 e22 rfl rfl ?_
        obtain ⟨σ23, e24, h⟩ := qlet_ex h
        refine qE.steps 1 hd9 (s' := (85, [(4, .int p7), (3, .int x5), (2, .int x3), (1, .int ((σ.1 6433) - (Int32.ofInt 1))), (0, .ref 64)], [], (x, σ23, y))) (by subst e24; rfl) ?_
        refine qE.steps 4 hd9 (s' := (91, [(4, .int p7), (3, .int x5), (2, .int x3), (1, .int ((σ.1 6433) - (Int32.ofInt 1))), (0, .ref 64)], [.int ((σ.1 6433) - (Int32.ofInt 1)), .ref 101, .ref 64], (x, σ23, y))) rfl ?_
        obtain ⟨x25, e26, h⟩ := obind h
        refine qE.iald hd9 e26 rfl rfl ?_
        obtain ⟨σ27, e28, h⟩ := qlet_ex h
        refine qE.steps 1 hd9 (s' := (95, [(4, .int p7), (3, .int x5), (2, .int x3), (1, .int ((σ.1 6433) - (Int32.ofInt 1))), (0, .ref 64)], [], (x, σ27, y))) (by subst e28; rfl) ?_
        refine qE.steps 4 hd9 (s' := (101, [(4, .int p7), (3, .int x5), (2, .int x3), (1, .int ((σ.1 6433) - (Int32.ofInt 1))), (0, .ref 64)], [.int ((σ.1 6433) - (Int32.ofInt 1)), .ref 102, .ref 64], (x, σ27, y))) rfl ?_
        obtain ⟨x29, e30, h⟩ := obind h
        refine qE.iald hd9 e30 rfl rfl ?_
        obtain ⟨σ31, e32, h⟩ := qlet_ex h
        refine qE.steps 1 hd9 (s' := (105, [(4, .int p7), (3, .int x5), (2, .int x3), (1, .int ((σ.1 6433) - (Int32.ofInt 1))), (0, .ref 64)], [], (x, σ31, y))) (by subst e32; rfl) ?_
        refine qE.steps 4 hd9 (s' := (112, [(4, .int p7), (3, .int x5), (2, .int x3), (1, .int ((σ.1 6433) - (Int32.ofInt 1))), (0, .ref 64)], [.int p7, .int ((σ.1 6433) - (Int32.ofInt 1)), .ref 95], (x, σ31, y))) rfl ?_
        obtain ⟨σ33, e34, h⟩ := obind h
        refine qE.iastM hd9 e34 rfl rfl ?_
        refine qE.steps 4 hd9 (s' := (if ¬ (p7 = σ33.1 6408) then 132 else 122, [(4, .int p7), (3, .int x5), (2, .int x3), (1, .int ((σ.1 6433) - (Int32.ofInt 1))), (0, .ref 64)], [], (x, σ33, y))) rfl ?_
        by_cases c35 : p7 = σ33.1 6408
        · rw [if_pos c35] at h
          rw [if_neg (not_not_intro c35)]
          obtain ⟨σ36, e37, h⟩ := qlet_ex h
          refine qE.steps 6 hd9 (s' := (132, [(4, .int p7), (3, .int x5), (2, .int x3), (1, .int ((σ.1 6433) - (Int32.ofInt 1))), (0, .ref 64)], [], (x, σ36, y))) (by subst e37; rfl) ?_
          refine qE.steps 6 hd9 (s' := (140, [(4, .int p7), (3, .int x5), (2, .int x3), (1, .int ((σ.1 6433) - (Int32.ofInt 1))), (0, .ref 64)], [.int ((σ.1 6433) - (Int32.ofInt 1)), .ref 96, .int x5, .int x3, .ref 64], (x, σ36, y))) rfl ?_
          obtain ⟨x38, e39, h⟩ := obind h
          refine qE.iald hd9 e39 rfl rfl ?_
          refine qE.steps 1 hd9 (s' := (142, [(4, .int p7), (3, .int x5), (2, .int x3), (1, .int ((σ.1 6433) - (Int32.ofInt 1))), (0, .ref 64)], [.int ((σ.1 6433) - (Int32.ofInt 1)), .int x38, .int x5, .int x3, .ref 64], (x, σ36, y))) rfl ?_
          obtain ⟨p40, e41, h⟩ := obind h
          refine qE.call hd9 rfl rfl rfl rfl (t_m_take_153 (by omega) e41) ?_
          refine qE.steps 0 hd9 (s' := (145, [(4, .int p7), (3, .int x5), (2, .int x3), (1, .int ((σ.1 6433) - (Int32.ofInt 1))), (0, .ref 64)], [.int p40.1], (x, p40.2, y))) rfl ?_
          refine qE.steps 1 hd9 (s' := (if p40.1 = 0 then 150 else 148, [(4, .int p7), (3, .int x5), (2, .int x3), (1, .int ((σ.1 6433) - (Int32.ofInt 1))), (0, .ref 64)], [], (x, p40.2, y))) rfl ?_
          by_cases c42 : p40.1 = 0
          · rw [if_pos c42] at h
            rw [if_pos c42]
            refine qE.steps 1 hd9 (s' := (0, [(4, .int p7), (3, .int x5), (2, .int x3), (1, .int ((σ.1 6433) - (Int32.ofInt 1))), (0, .ref 64)], [], (x, p40.2, y))) rfl ?_
            exact qE.wk (ih h) ⟨rfl, trivial⟩ rfl
          · rw [if_neg c42] at h
            rw [if_neg c42]
            refine qE.steps 1 hd9 (s' := (149, [(4, .int p7), (3, .int x5), (2, .int x3), (1, .int ((σ.1 6433) - (Int32.ofInt 1))), (0, .ref 64)], [.int (Int32.ofInt 1)], (x, p40.2, y))) rfl ?_
            obtain rfl := Option.some.inj h
            exact qE.ret hd9 rfl rfl
        · rw [if_neg c35] at h
          rw [if_pos c35]
          refine qE.steps 6 hd9 (s' := (140, [(4, .int p7), (3, .int x5), (2, .int x3), (1, .int ((σ.1 6433) - (Int32.ofInt 1))), (0, .ref 64)], [.int ((σ.1 6433) - (Int32.ofInt 1)), .ref 96, .int x5, .int x3, .ref 64], (x, σ33, y))) rfl ?_
          obtain ⟨x43, e44, h⟩ := obind h
          refine qE.iald hd9 e44 rfl rfl ?_
          refine qE.steps 1 hd9 (s' := (142, [(4, .int p7), (3, .int x5), (2, .int x3), (1, .int ((σ.1 6433) - (Int32.ofInt 1))), (0, .ref 64)], [.int ((σ.1 6433) - (Int32.ofInt 1)), .int x43, .int x5, .int x3, .ref 64], (x, σ33, y))) rfl ?_
          obtain ⟨p45, e46, h⟩ := obind h
          refine qE.call hd9 rfl rfl rfl rfl (t_m_take_153 (by omega) e46) ?_
          refine qE.steps 0 hd9 (s' := (145, [(4, .int p7), (3, .int x5), (2, .int x3), (1, .int ((σ.1 6433) - (Int32.ofInt 1))), (0, .ref 64)], [.int p45.1], (x, p45.2, y))) rfl ?_
          refine qE.steps 1 hd9 (s' := (if p45.1 = 0 then 150 else 148, [(4, .int p7), (3, .int x5), (2, .int x3), (1, .int ((σ.1 6433) - (Int32.ofInt 1))), (0, .ref 64)], [], (x, p45.2, y))) rfl ?_
          by_cases c47 : p45.1 = 0
          · rw [if_pos c47] at h
            rw [if_pos c47]
            refine qE.steps 1 hd9 (s' := (0, [(4, .int p7), (3, .int x5), (2, .int x3), (1, .int ((σ.1 6433) - (Int32.ofInt 1))), (0, .ref 64)], [], (x, p45.2, y))) rfl ?_
            exact qE.wk (ih h) ⟨rfl, trivial⟩ rfl
          · rw [if_neg c47] at h
            rw [if_neg c47]
            refine qE.steps 1 hd9 (s' := (149, [(4, .int p7), (3, .int x5), (2, .int x3), (1, .int ((σ.1 6433) - (Int32.ofInt 1))), (0, .ref 64)], [.int (Int32.ofInt 1)], (x, p45.2, y))) rfl ?_
            obtain rfl := Option.some.inj h
            exact qE.ret hd9 rfl rfl
      · rw [if_neg c2] at h
        rw [if_pos c2]
        refine qE.steps 1 hd9 (s' := (154, [(0, .ref 64)], [.int (Int32.ofInt 0)], (x, σ, y))) rfl ?_
        obtain rfl := Option.some.inj h
        exact qE.ret hd9 rfl rfl
set_option maxRecDepth 20000 in
theorem t_m_back_149 {S : Nat × (Nat → Int32)} {d : Nat} {x : qC} {y : Int64 × Nat} {σ : qC} {p : (Int32 × qC)} (hd : 15 ≤ d) (h : m_back_149 σ = some p) : qE S d jm_12_back_149 (0, [(0, .ref 64)], [], (x, σ, y)) ((.inl (some (.int p.1)), (x, p.2, y))) := by
  have hd9 : 9 ≤ d := by omega
  unfold m_back_149 at h
  exact qE.wk (t_m_back_149_l0 hd qF h) ⟨rfl, trivial⟩ rfl
