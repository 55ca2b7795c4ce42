/-! BY PROGRAM (wip/whole/gendc.py): each method as a function over the numbers -/
def m_back_149_l0 : Nat → qC → Option (Int32 × qC)
  | 0, _ => none
  | n + 1, σ => if σ.1 6433 ≤ 0 then some (Int32.ofInt 0, σ) else if σ.1 6411 = 0 then (aget (σ.2 95) 600 ((σ.1 6433) - (Int32.ofInt 1))).bind (fun x3 => (aget (σ.2 94) 600 ((σ.1 6433) - (Int32.ofInt 1))).bind (fun x5 => (m_nextFit_150 (x3 + (Int32.ofInt 1)) x5 σ).bind (fun p7 => (aget (σ.2 100) 600 ((σ.1 6433) - (Int32.ofInt 1))).bind (fun x9 => (m_undo_152 x9 σ).bind (fun p11 => (aget (p11.2 97) 600 ((σ.1 6433) - (Int32.ofInt 1))).bind (fun x13 => qlet (upS p11 6425 x13) (fun σ15 => (aget (σ15.2 98) 600 ((σ.1 6433) - (Int32.ofInt 1))).bind (fun x17 => qlet (upS σ15 6426 x17) (fun σ19 => (aget (σ19.2 99) 600 ((σ.1 6433) - (Int32.ofInt 1))).bind (fun x21 => qlet (upS σ19 6428 x21) (fun σ23 => (aget (σ23.2 101) 600 ((σ.1 6433) - (Int32.ofInt 1))).bind (fun x25 => qlet (upS σ23 6434 x25) (fun σ27 => (aget (σ27.2 102) 600 ((σ.1 6433) - (Int32.ofInt 1))).bind (fun x29 => qlet (upS σ27 6435 x29) (fun σ31 => (aput σ31 95 600 ((σ.1 6433) - (Int32.ofInt 1)) p7).bind (fun σ33 => if p7 = σ33.1 6408 then qlet (upS σ33 6433 ((σ33.1 6433) - (Int32.ofInt 1))) (fun σ36 => (aget (σ36.2 96) 600 ((σ.1 6433) - (Int32.ofInt 1))).bind (fun x38 => (m_take_153 x3 x5 x38 ((σ.1 6433) - (Int32.ofInt 1)) σ36).bind (fun p40 => if p40.1 = 0 then (m_back_149_l0 n) p40.2 else some (Int32.ofInt 1, p40.2)))) else (aget (σ33.2 96) 600 ((σ.1 6433) - (Int32.ofInt 1))).bind (fun x43 => (m_take_153 x3 x5 x43 ((σ.1 6433) - (Int32.ofInt 1)) σ33).bind (fun p45 => if p45.1 = 0 then (m_back_149_l0 n) p45.2 else some (Int32.ofInt 1, p45.2))))))))))))))))))) else some (Int32.ofInt 0, σ)
def m_back_149 (σ : qC) : Option (Int32 × qC) := m_back_149_l0 qF σ
theorem t_m_back_149_l0 {S : Nat × (Nat → Int32)} {d : Nat} {x : qC} {y : Int64 × Nat} (hd : 15 ≤ d) : ∀ (n : Nat) {σ : qC} {p : (Int32 × qC)}, m_back_149_l0 n σ = some p → qE S d jm_12_back_149 (0, [(0, .ref 64)], [], (x, σ, y)) ((.inl (some (.int p.1)), (x, p.2, y))) := by
  have hd9 : 9 ≤ d := by omega
  intro n
  induction n with
  | zero =>
    intros
    rename_i h
    unfold m_back_149_l0 at h
    cases h
  | succ n ih =>
    intro σ p h
    unfold m_back_149_l0 at h
    refine qE.steps 3 hd9 (s' := (if σ.1 6433 ≤ 0 then 153 else 7, [(0, .ref 64)], [], (x, σ, y))) rfl ?_
    by_cases c1 : σ.1 6433 ≤ 0
    · rw [if_pos c1] at h
      rw [if_pos c1]
      refine qE.steps 1 hd9 (s' := (154, [(0, .ref 64)], [.int (Int32.ofInt 0)], (x, σ, y))) rfl ?_
      obtain rfl := Option.some.inj h
      exact qE.ret hd9 rfl rfl
    · rw [if_neg c1] at h
      rw [if_neg c1]
      refine qE.steps 3 hd9 (s' := (if ¬ (σ.1 6411 = 0) then 153 else 14, [(0, .ref 64)], [], (x, σ, y))) rfl ?_
      by_cases c2 : σ.1 6411 = 0
      · rw [if_pos c2] at h
        rw [if_neg (not_not_intro c2)]
        refine qE.steps 8 hd9 (s' := (26, [(1, .int ((σ.1 6433) - (Int32.ofInt 1))), (0, .ref 64)], [.int ((σ.1 6433) - (Int32.ofInt 1)), .ref 95], (x, σ, y))) rfl ?_
        obtain ⟨x3, e4, h⟩ := obind h
        refine qE.iald hd9 e4 rfl rfl ?_
        refine qE.steps 4 hd9 (s' := (33, [(2, .int x3), (1, .int ((σ.1 6433) - (Int32.ofInt 1))), (0, .ref 64)], [.int ((σ.1 6433) - (Int32.ofInt 1)), .ref 94], (x, σ, y))) rfl ?_
        obtain ⟨x5, e6, h⟩ := obind h
        refine qE.iald hd9 e6 rfl rfl ?_
        refine qE.steps 6 hd9 (s' := (40, [(3, .int x5), (2, .int x3), (1, .int ((σ.1 6433) - (Int32.ofInt 1))), (0, .ref 64)], [.int x5, .int (x3 + (Int32.ofInt 1)), .ref 64], (x, σ, y))) rfl ?_
        obtain ⟨p7, e8, h⟩ := obind h
        refine qE.call hd9 rfl rfl rfl rfl (t_m_nextFit_150 (by omega) e8) ?_
        refine qE.steps 0 hd9 (s' := (43, [(3, .int x5), (2, .int x3), (1, .int ((σ.1 6433) - (Int32.ofInt 1))), (0, .ref 64)], [.int p7], (x, σ, y))) rfl ?_
        refine qE.steps 5 hd9 (s' := (51, [(4, .int p7), (3, .int x5), (2, .int x3), (1, .int ((σ.1 6433) - (Int32.ofInt 1))), (0, .ref 64)], [.int ((σ.1 6433) - (Int32.ofInt 1)), .ref 100, .ref 64], (x, σ, y))) rfl ?_
        obtain ⟨x9, e10, h⟩ := obind h
        refine qE.iald hd9 e10 rfl rfl ?_
        obtain ⟨p11, e12, h⟩ := obind h
        refine qE.call hd9 rfl rfl rfl rfl (t_m_undo_152 (by omega) e12) ?_
        refine qE.steps 0 hd9 (s' := (55, [(4, .int p7), (3, .int x5), (2, .int x3), (1, .int ((σ.1 6433) - (Int32.ofInt 1))), (0, .ref 64)], [], (x, p11, y))) rfl ?_
        refine qE.steps 4 hd9 (s' := (61, [(4, .int p7), (3, .int x5), (2, .int x3), (1, .int ((σ.1 6433) - (Int32.ofInt 1))), (0, .ref 64)], [.int ((σ.1 6433) - (Int32.ofInt 1)), .ref 97, .ref 64], (x, p11, y))) rfl ?_
        obtain ⟨x13, e14, h⟩ := obind h
        refine qE.iald hd9 e14 rfl rfl ?_
        obtain ⟨σ15, e16, h⟩ := qlet_ex h
        refine qE.steps 1 hd9 (s' := (65, [(4, .int p7), (3, .int x5), (2, .int x3), (1, .int ((σ.1 6433) - (Int32.ofInt 1))), (0, .ref 64)], [], (x, σ15, y))) (by subst e16; rfl) ?_
        refine qE.steps 4 hd9 (s' := (71, [(4, .int p7), (3, .int x5), (2, .int x3), (1, .int ((σ.1 6433) - (Int32.ofInt 1))), (0, .ref 64)], [.int ((σ.1 6433) - (Int32.ofInt 1)), .ref 98, .ref 64], (x, σ15, y))) rfl ?_
        obtain ⟨x17, e18, h⟩ := obind h
        refine qE.iald hd9 e18 rfl rfl ?_
        obtain ⟨σ19, e20, h⟩ := qlet_ex h
        refine qE.steps 1 hd9 (s' := (75, [(4, .int p7), (3, .int x5), (2, .int x3), (1, .int ((σ.1 6433) - (Int32.ofInt 1))), (0, .ref 64)], [], (x, σ19, y))) (by subst e20; rfl) ?_
        refine qE.steps 4 hd9 (s' := (81, [(4, .int p7), (3, .int x5), (2, .int x3), (1, .int ((σ.1 6433) - (Int32.ofInt 1))), (0, .ref 64)], [.int ((σ.1 6433) - (Int32.ofInt 1)), .ref 99, .ref 64], (x, σ19, y))) rfl ?_
        obtain ⟨x21, e22, h⟩ := obind h
        refine qE.iald hd9 e22 rfl rfl ?_
        obtain ⟨σ23, e24, h⟩ := qlet_ex h
        refine qE.steps 1 hd9 (s' := (85, [(4, .int p7), (3, .int x5), (2, .int x3), (1, .int ((σ.1 6433) - (Int32.ofInt 1))), (0, .ref 64)], [], (x, σ23, y))) (by subst e24; rfl) ?_
        refine qE.steps 4 hd9 (s' := (91, [(4, .int p7), (3, .int x5), (2, .int x3), (1, .int ((σ.1 6433) - (Int32.ofInt 1))), (0, .ref 64)], [.int ((σ.1 6433) - (Int32.ofInt 1)), .ref 101, .ref 64], (x, σ23, y))) rfl ?_
        obtain ⟨x25, e26, h⟩ := obind h
        refine qE.iald hd9 e26 rfl rfl ?_
        obtain ⟨σ27, e28, h⟩ := qlet_ex h
        refine qE.steps 1 hd9 (s' := (95, [(4, .int p7), (3, .int x5), (2, .int x3), (1, .int ((σ.1 6433) - (Int32.ofInt 1))), (0, .ref 64)], [], (x, σ27, y))) (by subst e28; rfl) ?_
        refine qE.steps 4 hd9 (s' := (101, [(4, .int p7), (3, .int x5), (2, .int x3), (1, .int ((σ.1 6433) - (Int32.ofInt 1))), (0, .ref 64)], [.int ((σ.1 6433) - (Int32.ofInt 1)), .ref 102, .ref 64], (x, σ27, y))) rfl ?_
        obtain ⟨x29, e30, h⟩ := obind h
        refine qE.iald hd9 e30 rfl rfl ?_
        obtain ⟨σ31, e32, h⟩ := qlet_ex h
        refine qE.steps 1 hd9 (s' := (105, [(4, .int p7), (3, .int x5), (2, .int x3), (1, .int ((σ.1 6433) - (Int32.ofInt 1))), (0, .ref 64)], [], (x, σ31, y))) (by subst e32; rfl) ?_
        refine qE.steps 4 hd9 (s' := (112, [(4, .int p7), (3, .int x5), (2, .int x3), (1, .int ((σ.1 6433) - (Int32.ofInt 1))), (0, .ref 64)], [.int p7, .int ((σ.1 6433) - (Int32.ofInt 1)), .ref 95], (x, σ31, y))) rfl ?_
        obtain ⟨σ33, e34, h⟩ := obind h
        refine qE.iastM hd9 e34 rfl rfl ?_
        refine qE.steps 4 hd9 (s' := (if ¬ (p7 = σ33.1 6408) then 132 else 122, [(4, .int p7), (3, .int x5), (2, .int x3), (1, .int ((σ.1 6433) - (Int32.ofInt 1))), (0, .ref 64)], [], (x, σ33, y))) rfl ?_
        by_cases c35 : p7 = σ33.1 6408
        · rw [if_pos c35] at h
          rw [if_neg (not_not_intro c35)]
          obtain ⟨σ36, e37, h⟩ := qlet_ex h
          refine qE.steps 6 hd9 (s' := (132, [(4, .int p7), (3, .int x5), (2, .int x3), (1, .int ((σ.1 6433) - (Int32.ofInt 1))), (0, .ref 64)], [], (x, σ36, y))) (by subst e37; rfl) ?_
          refine qE.steps 6 hd9 (s' := (140, [(4, .int p7), (3, .int x5), (2, .int x3), (1, .int ((σ.1 6433) - (Int32.ofInt 1))), (0, .ref 64)], [.int ((σ.1 6433) - (Int32.ofInt 1)), .ref 96, .int x5, .int x3, .ref 64], (x, σ36, y))) rfl ?_
          obtain ⟨x38, e39, h⟩ := obind h
          refine qE.iald hd9 e39 rfl rfl ?_
          refine qE.steps 1 hd9 (s' := (142, [(4, .int p7), (3, .int x5), (2, .int x3), (1, .int ((σ.1 6433) - (Int32.ofInt 1))), (0, .ref 64)], [.int ((σ.1 6433) - (Int32.ofInt 1)), .int x38, .int x5, .int x3, .ref 64], (x, σ36, y))) rfl ?_
          obtain ⟨p40, e41, h⟩ := obind h
          refine qE.call hd9 rfl rfl rfl rfl (t_m_take_153 (by omega) e41) ?_
          refine qE.steps 0 hd9 (s' := (145, [(4, .int p7), (3, .int x5), (2, .int x3), (1, .int ((σ.1 6433) - (Int32.ofInt 1))), (0, .ref 64)], [.int p40.1], (x, p40.2, y))) rfl ?_
          refine qE.steps 1 hd9 (s' := (if p40.1 = 0 then 150 else 148, [(4, .int p7), (3, .int x5), (2, .int x3), (1, .int ((σ.1 6433) - (Int32.ofInt 1))), (0, .ref 64)], [], (x, p40.2, y))) rfl ?_
          by_cases c42 : p40.1 = 0
          · rw [if_pos c42] at h
            rw [if_pos c42]
            refine qE.steps 1 hd9 (s' := (0, [(4, .int p7), (3, .int x5), (2, .int x3), (1, .int ((σ.1 6433) - (Int32.ofInt 1))), (0, .ref 64)], [], (x, p40.2, y))) rfl ?_
            exact qE.wk (ih h) ⟨rfl, trivial⟩ rfl
          · rw [if_neg c42] at h
            rw [if_neg c42]
            refine qE.steps 1 hd9 (s' := (149, [(4, .int p7), (3, .int x5), (2, .int x3), (1, .int ((σ.1 6433) - (Int32.ofInt 1))), (0, .ref 64)], [.int (Int32.ofInt 1)], (x, p40.2, y))) rfl ?_
            obtain rfl := Option.some.inj h
            exact qE.ret hd9 rfl rfl
        · rw [if_neg c35] at h
          rw [if_pos c35]
          refine qE.steps 6 hd9 (s' := (140, [(4, .int p7), (3, .int x5), (2, .int x3), (1, .int ((σ.1 6433) - (Int32.ofInt 1))), (0, .ref 64)], [.int ((σ.1 6433) - (Int32.ofInt 1)), .ref 96, .int x5, .int x3, .ref 64], (x, σ33, y))) rfl ?_
          obtain ⟨x43, e44, h⟩ := obind h
          refine qE.iald hd9 e44 rfl rfl ?_
          refine qE.steps 1 hd9 (s' := (142, [(4, .int p7), (3, .int x5), (2, .int x3), (1, .int ((σ.1 6433) - (Int32.ofInt 1))), (0, .ref 64)], [.int ((σ.1 6433) - (Int32.ofInt 1)), .int x43, .int x5, .int x3, .ref 64], (x, σ33, y))) rfl ?_
          obtain ⟨p45, e46, h⟩ := obind h
          refine qE.call hd9 rfl rfl rfl rfl (t_m_take_153 (by omega) e46) ?_
          refine qE.steps 0 hd9 (s' := (145, [(4, .int p7), (3, .int x5), (2, .int x3), (1, .int ((σ.1 6433) - (Int32.ofInt 1))), (0, .ref 64)], [.int p45.1], (x, p45.2, y))) rfl ?_
          refine qE.steps 1 hd9 (s' := (if p45.1 = 0 then 150 else 148, [(4, .int p7), (3, .int x5), (2, .int x3), (1, .int ((σ.1 6433) - (Int32.ofInt 1))), (0, .ref 64)], [], (x, p45.2, y))) rfl ?_
          by_cases c47 : p45.1 = 0
          · rw [if_pos c47] at h
            rw [if_pos c47]
            refine qE.steps 1 hd9 (s' := (0, [(4, .int p7), (3, .int x5), (2, .int x3), (1, .int ((σ.1 6433) - (Int32.ofInt 1))), (0, .ref 64)], [], (x, p45.2, y))) rfl ?_
            exact qE.wk (ih h) ⟨rfl, trivial⟩ rfl
          · rw [if_neg c47] at h
            rw [if_neg c47]
            refine qE.steps 1 hd9 (s' := (149, [(4, .int p7), (3, .int x5), (2, .int x3), (1, .int ((σ.1 6433) - (Int32.ofInt 1))), (0, .ref 64)], [.int (Int32.ofInt 1)], (x, p45.2, y))) rfl ?_
            obtain rfl := Option.some.inj h
            exact qE.ret hd9 rfl rfl
      · rw [if_neg c2] at h
        rw [if_pos c2]
        refine qE.steps 1 hd9 (s' := (154, [(0, .ref 64)], [.int (Int32.ofInt 0)], (x, σ, y))) rfl ?_
        obtain rfl := Option.some.inj h
        exact qE.ret hd9 rfl rfl
theorem t_m_back_149 {S : Nat × (Nat → Int32)} {d : Nat} {x : qC} {y : Int64 × Nat} {σ : qC} {p : (Int32 × qC)} (hd : 15 ≤ d) (h : m_back_149 σ = some p) : qE S d jm_12_back_149 (0, [(0, .ref 64)], [], (x, σ, y)) ((.inl (some (.int p.1)), (x, p.2, y))) := by
  have hd9 : 9 ≤ d := by omega
  unfold m_back_149 at h
  exact qE.wk (t_m_back_149_l0 hd qF h) ⟨rfl, trivial⟩ rfl
def m_seek_148_l17 : Nat → Int32 → qC → Option (Int32 × qC)
  | 0, _, _ => none
  | n + 1, i2, σ => if i2 = 0 then if σ.1 6411 = 0 then qlet (upS σ 6411 (Int32.ofInt 2)) (fun σ4 => if σ4.1 6411 ≤ 0 then qlet (upS σ4 6431 ((σ4.1 6431) + (Int32.ofInt 1))) (fun σ7 => some (σ7.1 6430, σ7)) else qlet (upS σ4 6438 (Int32.ofInt 0)) (fun σ9 => some (Int32.ofInt 0, σ9))) else if σ.1 6411 ≤ 0 then qlet (upS σ 6431 ((σ.1 6431) + (Int32.ofInt 1))) (fun σ12 => some (σ12.1 6430, σ12)) else qlet (upS σ 6438 (Int32.ofInt 0)) (fun σ14 => some (Int32.ofInt 0, σ14)) else if σ.1 6429 < 0 then if σ.1 6411 = 0 then if σ.1 6411 ≤ 0 then qlet (upS σ 6431 ((σ.1 6431) + (Int32.ofInt 1))) (fun σ20 => some (σ20.1 6430, σ20)) else qlet (upS σ 6438 (Int32.ofInt 0)) (fun σ22 => some (Int32.ofInt 0, σ22)) else if σ.1 6411 ≤ 0 then qlet (upS σ 6431 ((σ.1 6431) + (Int32.ofInt 1))) (fun σ25 => some (σ25.1 6430, σ25)) else qlet (upS σ 6438 (Int32.ofInt 0)) (fun σ27 => some (Int32.ofInt 0, σ27)) else if σ.1 6411 = 0 then (m_step_157 σ).bind (fun p30 => if p30.1 = 0 then if p30.2.1 6411 = 0 then if p30.2.1 6411 ≤ 0 then qlet (upS p30.2 6431 ((p30.2.1 6431) + (Int32.ofInt 1))) (fun σ36 => some (σ36.1 6430, σ36)) else qlet (upS p30.2 6438 (Int32.ofInt 0)) (fun σ38 => some (Int32.ofInt 0, σ38)) else if p30.2.1 6411 ≤ 0 then qlet (upS p30.2 6431 ((p30.2.1 6431) + (Int32.ofInt 1))) (fun σ41 => some (σ41.1 6430, σ41)) else qlet (upS p30.2 6438 (Int32.ofInt 0)) (fun σ43 => some (Int32.ofInt 0, σ43)) else (m_perform_163 (p30.2.1 6429) p30.2).bind (fun p45 => if p45.1 = 0 then if p45.2.1 6411 = 0 then (m_back_149 p45.2).bind (fun p49 => if p49.1 = 0 then (m_seek_148_l17 n) (Int32.ofInt 0) p49.2 else (m_seek_148_l17 n) (Int32.ofInt 1) p49.2) else (m_seek_148_l17 n) (Int32.ofInt 0) p45.2 else (m_seek_148_l17 n) (Int32.ofInt 1) p45.2)) else if σ.1 6411 ≤ 0 then qlet (upS σ 6431 ((σ.1 6431) + (Int32.ofInt 1))) (fun σ54 => some (σ54.1 6430, σ54)) else qlet (upS σ 6438 (Int32.ofInt 0)) (fun σ56 => some (Int32.ofInt 0, σ56))
def m_seek_148 (i1 : Int32) (σ : qC) : Option (Int32 × qC) := if i1 = 0 then m_seek_148_l17 qF (Int32.ofInt 1) σ else (m_back_149 σ).bind (fun p2 => if p2.1 = 0 then m_seek_148_l17 qF (Int32.ofInt 0) p2.2 else m_seek_148_l17 qF (Int32.ofInt 1) p2.2)
theorem t_m_seek_148_l17 {S : Nat × (Nat → Int32)} {d : Nat} {x : qC} {y : Int64 × Nat} (hd : 17 ≤ d) : ∀ (n : Nat) {i2 : Int32} {σ : qC} {p : (Int32 × qC)}, m_seek_148_l17 n i2 σ = some p → qE S d jm_12_seek_148 (17, [(0, .ref 64), (2, .int i2)], [], (x, σ, y)) ((.inl (some (.int p.1)), (x, p.2, y))) := by
  have hd9 : 9 ≤ d := by omega
  intro n
  induction n with
  | zero =>
    intros
    rename_i h
    unfold m_seek_148_l17 at h
    cases h
  | succ n ih =>
    intro i2 σ p h
    unfold m_seek_148_l17 at h
    refine qE.steps 2 hd9 (s' := (if i2 = 0 then 79 else 21, [(0, .ref 64), (2, .int i2)], [], (x, σ, y))) rfl ?_
    by_cases c1 : i2 = 0
    · rw [if_pos c1] at h
      rw [if_pos c1]
      refine qE.steps 3 hd9 (s' := (if ¬ (σ.1 6411 = 0) then 95 else 86, [(0, .ref 64), (2, .int i2)], [], (x, σ, y))) rfl ?_
      by_cases c2 : σ.1 6411 = 0
      · rw [if_pos c2] at h
        rw [if_neg (not_not_intro c2)]
        refine qE.steps 2 hd9 (s' := (if ¬ (i2 = 0) then 95 else 90, [(0, .ref 64), (2, .int i2)], [], (x, σ, y))) rfl ?_
        rw [if_neg (not_not_intro c1)]
        obtain ⟨σ4, e5, h⟩ := qlet_ex h
        refine qE.steps 3 hd9 (s' := (95, [(0, .ref 64), (2, .int i2)], [], (x, σ4, y))) (by subst e5; rfl) ?_
        refine qE.steps 3 hd9 (s' := (if σ4.1 6411 ≤ 0 then 109 else 102, [(0, .ref 64), (2, .int i2)], [], (x, σ4, y))) rfl ?_
        by_cases c6 : σ4.1 6411 ≤ 0
        · rw [if_pos c6] at h
          rw [if_pos c6]
          obtain ⟨σ7, e8, h⟩ := qlet_ex h
          refine qE.steps 6 hd9 (s' := (119, [(0, .ref 64), (2, .int i2)], [], (x, σ7, y))) (by subst e8; rfl) ?_
          refine qE.steps 2 hd9 (s' := (123, [(0, .ref 64), (2, .int i2)], [.int (σ7.1 6430)], (x, σ7, y))) rfl ?_
          obtain rfl := Option.some.inj h
          exact qE.ret hd9 rfl rfl
        · rw [if_neg c6] at h
          rw [if_neg c6]
          obtain ⟨σ9, e10, h⟩ := qlet_ex h
          refine qE.steps 3 hd9 (s' := (107, [(0, .ref 64), (2, .int i2)], [], (x, σ9, y))) (by subst e10; rfl) ?_
          refine qE.steps 1 hd9 (s' := (108, [(0, .ref 64), (2, .int i2)], [.int (Int32.ofInt 0)], (x, σ9, y))) rfl ?_
          obtain rfl := Option.some.inj h
          exact qE.ret hd9 rfl rfl
      · rw [if_neg c2] at h
        rw [if_pos c2]
        refine qE.steps 3 hd9 (s' := (if σ.1 6411 ≤ 0 then 109 else 102, [(0, .ref 64), (2, .int i2)], [], (x, σ, y))) rfl ?_
        by_cases c11 : σ.1 6411 ≤ 0
        · rw [if_pos c11] at h
          rw [if_pos c11]
          obtain ⟨σ12, e13, h⟩ := qlet_ex h
          refine qE.steps 6 hd9 (s' := (119, [(0, .ref 64), (2, .int i2)], [], (x, σ12, y))) (by subst e13; rfl) ?_
          refine qE.steps 2 hd9 (s' := (123, [(0, .ref 64), (2, .int i2)], [.int (σ12.1 6430)], (x, σ12, y))) rfl ?_
          obtain rfl := Option.some.inj h
          exact qE.ret hd9 rfl rfl
        · rw [if_neg c11] at h
          rw [if_neg c11]
          obtain ⟨σ14, e15, h⟩ := qlet_ex h
          refine qE.steps 3 hd9 (s' := (107, [(0, .ref 64), (2, .int i2)], [], (x, σ14, y))) (by subst e15; rfl) ?_
          refine qE.steps 1 hd9 (s' := (108, [(0, .ref 64), (2, .int i2)], [.int (Int32.ofInt 0)], (x, σ14, y))) rfl ?_
          obtain rfl := Option.some.inj h
          exact qE.ret hd9 rfl rfl
    · rw [if_neg c1] at h
      rw [if_neg c1]
      refine qE.steps 3 hd9 (s' := (if σ.1 6429 < 0 then 79 else 28, [(0, .ref 64), (2, .int i2)], [], (x, σ, y))) rfl ?_
      by_cases c16 : σ.1 6429 < 0
      · rw [if_pos c16] at h
        rw [if_pos c16]
        refine qE.steps 3 hd9 (s' := (if ¬ (σ.1 6411 = 0) then 95 else 86, [(0, .ref 64), (2, .int i2)], [], (x, σ, y))) rfl ?_
        by_cases c17 : σ.1 6411 = 0
        · rw [if_pos c17] at h
          rw [if_neg (not_not_intro c17)]
          refine qE.steps 2 hd9 (s' := (if ¬ (i2 = 0) then 95 else 90, [(0, .ref 64), (2, .int i2)], [], (x, σ, y))) rfl ?_
          rw [if_pos c1]
          refine qE.steps 3 hd9 (s' := (if σ.1 6411 ≤ 0 then 109 else 102, [(0, .ref 64), (2, .int i2)], [], (x, σ, y))) rfl ?_
          by_cases c19 : σ.1 6411 ≤ 0
          · rw [if_pos c19] at h
            rw [if_pos c19]
            obtain ⟨σ20, e21, h⟩ := qlet_ex h
            refine qE.steps 6 hd9 (s' := (119, [(0, .ref 64), (2, .int i2)], [], (x, σ20, y))) (by subst e21; rfl) ?_
            refine qE.steps 2 hd9 (s' := (123, [(0, .ref 64), (2, .int i2)], [.int (σ20.1 6430)], (x, σ20, y))) rfl ?_
            obtain rfl := Option.some.inj h
            exact qE.ret hd9 rfl rfl
          · rw [if_neg c19] at h
            rw [if_neg c19]
            obtain ⟨σ22, e23, h⟩ := qlet_ex h
            refine qE.steps 3 hd9 (s' := (107, [(0, .ref 64), (2, .int i2)], [], (x, σ22, y))) (by subst e23; rfl) ?_
            refine qE.steps 1 hd9 (s' := (108, [(0, .ref 64), (2, .int i2)], [.int (Int32.ofInt 0)], (x, σ22, y))) rfl ?_
            obtain rfl := Option.some.inj h
            exact qE.ret hd9 rfl rfl
        · rw [if_neg c17] at h
          rw [if_pos c17]
          refine qE.steps 3 hd9 (s' := (if σ.1 6411 ≤ 0 then 109 else 102, [(0, .ref 64), (2, .int i2)], [], (x, σ, y))) rfl ?_
          by_cases c24 : σ.1 6411 ≤ 0
          · rw [if_pos c24] at h
            rw [if_pos c24]
            obtain ⟨σ25, e26, h⟩ := qlet_ex h
            refine qE.steps 6 hd9 (s' := (119, [(0, .ref 64), (2, .int i2)], [], (x, σ25, y))) (by subst e26; rfl) ?_
            refine qE.steps 2 hd9 (s' := (123, [(0, .ref 64), (2, .int i2)], [.int (σ25.1 6430)], (x, σ25, y))) rfl ?_
            obtain rfl := Option.some.inj h
            exact qE.ret hd9 rfl rfl
          · rw [if_neg c24] at h
            rw [if_neg c24]
            obtain ⟨σ27, e28, h⟩ := qlet_ex h
            refine qE.steps 3 hd9 (s' := (107, [(0, .ref 64), (2, .int i2)], [], (x, σ27, y))) (by subst e28; rfl) ?_
            refine qE.steps 1 hd9 (s' := (108, [(0, .ref 64), (2, .int i2)], [.int (Int32.ofInt 0)], (x, σ27, y))) rfl ?_
            obtain rfl := Option.some.inj h
            exact qE.ret hd9 rfl rfl
      · rw [if_neg c16] at h
        rw [if_neg c16]
        refine qE.steps 3 hd9 (s' := (if ¬ (σ.1 6411 = 0) then 79 else 35, [(0, .ref 64), (2, .int i2)], [], (x, σ, y))) rfl ?_
        by_cases c29 : σ.1 6411 = 0
        · rw [if_pos c29] at h
          rw [if_neg (not_not_intro c29)]
          refine qE.steps 1 hd9 (s' := (36, [(0, .ref 64), (2, .int i2)], [.ref 64], (x, σ, y))) rfl ?_
          obtain ⟨p30, e31, h⟩ := obind h
          refine qE.call hd9 rfl rfl rfl rfl (t_m_step_157 (by omega) e31) ?_
          refine qE.steps 0 hd9 (s' := (39, [(0, .ref 64), (2, .int i2)], [.int p30.1], (x, p30.2, y))) rfl ?_
          refine qE.steps 1 hd9 (s' := (if ¬ (p30.1 = 0) then 45 else 42, [(0, .ref 64), (2, .int i2)], [], (x, p30.2, y))) rfl ?_
          by_cases c32 : p30.1 = 0
          · rw [if_pos c32] at h
            rw [if_neg (not_not_intro c32)]
            refine qE.steps 4 hd9 (s' := (if ¬ (p30.2.1 6411 = 0) then 95 else 86, [(0, .ref 64), (2, .int i2)], [], (x, p30.2, y))) rfl ?_
            by_cases c33 : p30.2.1 6411 = 0
            · rw [if_pos c33] at h
              rw [if_neg (not_not_intro c33)]
              refine qE.steps 2 hd9 (s' := (if ¬ (i2 = 0) then 95 else 90, [(0, .ref 64), (2, .int i2)], [], (x, p30.2, y))) rfl ?_
              rw [if_pos c1]
              refine qE.steps 3 hd9 (s' := (if p30.2.1 6411 ≤ 0 then 109 else 102, [(0, .ref 64), (2, .int i2)], [], (x, p30.2, y))) rfl ?_
              by_cases c35 : p30.2.1 6411 ≤ 0
              · rw [if_pos c35] at h
                rw [if_pos c35]
                obtain ⟨σ36, e37, h⟩ := qlet_ex h
                refine qE.steps 6 hd9 (s' := (119, [(0, .ref 64), (2, .int i2)], [], (x, σ36, y))) (by subst e37; rfl) ?_
                refine qE.steps 2 hd9 (s' := (123, [(0, .ref 64), (2, .int i2)], [.int (σ36.1 6430)], (x, σ36, y))) rfl ?_
                obtain rfl := Option.some.inj h
                exact qE.ret hd9 rfl rfl
              · rw [if_neg c35] at h
                rw [if_neg c35]
                obtain ⟨σ38, e39, h⟩ := qlet_ex h
                refine qE.steps 3 hd9 (s' := (107, [(0, .ref 64), (2, .int i2)], [], (x, σ38, y))) (by subst e39; rfl) ?_
                refine qE.steps 1 hd9 (s' := (108, [(0, .ref 64), (2, .int i2)], [.int (Int32.ofInt 0)], (x, σ38, y))) rfl ?_
                obtain rfl := Option.some.inj h
                exact qE.ret hd9 rfl rfl
            · rw [if_neg c33] at h
              rw [if_pos c33]
              refine qE.steps 3 hd9 (s' := (if p30.2.1 6411 ≤ 0 then 109 else 102, [(0, .ref 64), (2, .int i2)], [], (x, p30.2, y))) rfl ?_
              by_cases c40 : p30.2.1 6411 ≤ 0
              · rw [if_pos c40] at h
                rw [if_pos c40]
                obtain ⟨σ41, e42, h⟩ := qlet_ex h
                refine qE.steps 6 hd9 (s' := (119, [(0, .ref 64), (2, .int i2)], [], (x, σ41, y))) (by subst e42; rfl) ?_
                refine qE.steps 2 hd9 (s' := (123, [(0, .ref 64), (2, .int i2)], [.int (σ41.1 6430)], (x, σ41, y))) rfl ?_
                obtain rfl := Option.some.inj h
                exact qE.ret hd9 rfl rfl
              · rw [if_neg c40] at h
                rw [if_neg c40]
                obtain ⟨σ43, e44, h⟩ := qlet_ex h
                refine qE.steps 3 hd9 (s' := (107, [(0, .ref 64), (2, .int i2)], [], (x, σ43, y))) (by subst e44; rfl) ?_
                refine qE.steps 1 hd9 (s' := (108, [(0, .ref 64), (2, .int i2)], [.int (Int32.ofInt 0)], (x, σ43, y))) rfl ?_
                obtain rfl := Option.some.inj h
                exact qE.ret hd9 rfl rfl
          · rw [if_neg c32] at h
            rw [if_pos c32]
            refine qE.steps 3 hd9 (s' := (50, [(0, .ref 64), (2, .int i2)], [.int (p30.2.1 6429), .ref 64], (x, p30.2, y))) rfl ?_
            obtain ⟨p45, e46, h⟩ := obind h
            refine qE.call hd9 rfl rfl rfl rfl (t_m_perform_163 (by omega) e46) ?_
            refine qE.steps 0 hd9 (s' := (53, [(0, .ref 64), (2, .int i2)], [.int p45.1], (x, p45.2, y))) rfl ?_
            refine qE.steps 1 hd9 (s' := (if ¬ (p45.1 = 0) then 70 else 56, [(0, .ref 64), (2, .int i2)], [], (x, p45.2, y))) rfl ?_
            by_cases c47 : p45.1 = 0
            · rw [if_pos c47] at h
              rw [if_neg (not_not_intro c47)]
              refine qE.steps 3 hd9 (s' := (if ¬ (p45.2.1 6411 = 0) then 74 else 63, [(0, .ref 64), (2, .int i2)], [], (x, p45.2, y))) rfl ?_
              by_cases c48 : p45.2.1 6411 = 0
              · rw [if_pos c48] at h
                rw [if_neg (not_not_intro c48)]
                refine qE.steps 1 hd9 (s' := (64, [(0, .ref 64), (2, .int i2)], [.ref 64], (x, p45.2, y))) rfl ?_
                obtain ⟨p49, e50, h⟩ := obind h
                refine qE.call hd9 rfl rfl rfl rfl (t_m_back_149 (by omega) e50) ?_
                refine qE.steps 0 hd9 (s' := (67, [(0, .ref 64), (2, .int i2)], [.int p49.1], (x, p49.2, y))) rfl ?_
                refine qE.steps 1 hd9 (s' := (if p49.1 = 0 then 74 else 70, [(0, .ref 64), (2, .int i2)], [], (x, p49.2, y))) rfl ?_
                by_cases c51 : p49.1 = 0
                · rw [if_pos c51] at h
                  rw [if_pos c51]
                  refine qE.steps 3 hd9 (s' := (17, [(2, .int (Int32.ofInt 0)), (0, .ref 64)], [], (x, p49.2, y))) rfl ?_
                  exact qE.wk (ih h) ⟨rfl, rfl, trivial⟩ rfl
                · rw [if_neg c51] at h
                  rw [if_neg c51]
                  refine qE.steps 4 hd9 (s' := (17, [(2, .int (Int32.ofInt 1)), (0, .ref 64)], [], (x, p49.2, y))) rfl ?_
                  exact qE.wk (ih h) ⟨rfl, rfl, trivial⟩ rfl
              · rw [if_neg c48] at h
                rw [if_pos c48]
                refine qE.steps 3 hd9 (s' := (17, [(2, .int (Int32.ofInt 0)), (0, .ref 64)], [], (x, p45.2, y))) rfl ?_
                exact qE.wk (ih h) ⟨rfl, rfl, trivial⟩ rfl
            · rw [if_neg c47] at h
              rw [if_pos c47]
              refine qE.steps 4 hd9 (s' := (17, [(2, .int (Int32.ofInt 1)), (0, .ref 64)], [], (x, p45.2, y))) rfl ?_
              exact qE.wk (ih h) ⟨rfl, rfl, trivial⟩ rfl
        · rw [if_neg c29] at h
          rw [if_pos c29]
          refine qE.steps 3 hd9 (s' := (if ¬ (σ.1 6411 = 0) then 95 else 86, [(0, .ref 64), (2, .int i2)], [], (x, σ, y))) rfl ?_
          rw [if_pos c29]
          refine qE.steps 3 hd9 (s' := (if σ.1 6411 ≤ 0 then 109 else 102, [(0, .ref 64), (2, .int i2)], [], (x, σ, y))) rfl ?_
          by_cases c53 : σ.1 6411 ≤ 0
          · rw [if_pos c53] at h
            rw [if_pos c53]
            obtain ⟨σ54, e55, h⟩ := qlet_ex h
            refine qE.steps 6 hd9 (s' := (119, [(0, .ref 64), (2, .int i2)], [], (x, σ54, y))) (by subst e55; rfl) ?_
            refine qE.steps 2 hd9 (s' := (123, [(0, .ref 64), (2, .int i2)], [.int (σ54.1 6430)], (x, σ54, y))) rfl ?_
            obtain rfl := Option.some.inj h
            exact qE.ret hd9 rfl rfl
          · rw [if_neg c53] at h
            rw [if_neg c53]
            obtain ⟨σ56, e57, h⟩ := qlet_ex h
            refine qE.steps 3 hd9 (s' := (107, [(0, .ref 64), (2, .int i2)], [], (x, σ56, y))) (by subst e57; rfl) ?_
            refine qE.steps 1 hd9 (s' := (108, [(0, .ref 64), (2, .int i2)], [.int (Int32.ofInt 0)], (x, σ56, y))) rfl ?_
            obtain rfl := Option.some.inj h
            exact qE.ret hd9 rfl rfl
theorem t_m_seek_148 {S : Nat × (Nat → Int32)} {d : Nat} {x : qC} {y : Int64 × Nat} {i1 : Int32} {σ : qC} {p : (Int32 × qC)} (hd : 17 ≤ d) (h : m_seek_148 i1 σ = some p) : qE S d jm_12_seek_148 (0, [(0, .ref 64), (1, .int i1)], [], (x, σ, y)) ((.inl (some (.int p.1)), (x, p.2, y))) := by
  have hd9 : 9 ≤ d := by omega
  unfold m_seek_148 at h
  refine qE.steps 2 hd9 (s' := (if i1 = 0 then 11 else 4, [(0, .ref 64), (1, .int i1)], [], (x, σ, y))) rfl ?_
  by_cases c1 : i1 = 0
  · rw [if_pos c1] at h
    rw [if_pos c1]
    refine qE.steps 3 hd9 (s' := (17, [(2, .int (Int32.ofInt 1)), (0, .ref 64), (1, .int i1)], [], (x, σ, y))) rfl ?_
    exact qE.wk (t_m_seek_148_l17 hd qF h) ⟨rfl, rfl, trivial⟩ rfl
  · rw [if_neg c1] at h
    rw [if_neg c1]
    refine qE.steps 1 hd9 (s' := (5, [(0, .ref 64), (1, .int i1)], [.ref 64], (x, σ, y))) rfl ?_
    obtain ⟨p2, e3, h⟩ := obind h
    refine qE.call hd9 rfl rfl rfl rfl (t_m_back_149 (by omega) e3) ?_
    refine qE.steps 0 hd9 (s' := (8, [(0, .ref 64), (1, .int i1)], [.int p2.1], (x, p2.2, y))) rfl ?_
    refine qE.steps 1 hd9 (s' := (if p2.1 = 0 then 15 else 11, [(0, .ref 64), (1, .int i1)], [], (x, p2.2, y))) rfl ?_
    by_cases c4 : p2.1 = 0
    · rw [if_pos c4] at h
      rw [if_pos c4]
      refine qE.steps 2 hd9 (s' := (17, [(2, .int (Int32.ofInt 0)), (0, .ref 64), (1, .int i1)], [], (x, p2.2, y))) rfl ?_
      exact qE.wk (t_m_seek_148_l17 hd qF h) ⟨rfl, rfl, trivial⟩ rfl
    · rw [if_neg c4] at h
      rw [if_neg c4]
      refine qE.steps 3 hd9 (s' := (17, [(2, .int (Int32.ofInt 1)), (0, .ref 64), (1, .int i1)], [], (x, p2.2, y))) rfl ?_
      exact qE.wk (t_m_seek_148_l17 hd qF h) ⟨rfl, rfl, trivial⟩ rfl
