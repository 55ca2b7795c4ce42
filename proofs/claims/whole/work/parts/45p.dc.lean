/-! BY PROGRAM (wip/whole/gendc.py): each method as a function over the numbers -/
def m_take_153_l84 : Nat → Int32 → Int32 → Int32 → Int32 → qC → Option (Int32 × qC)
  | 0, _, _, _, _, _ => none
  | n + 1, i2, i5, i6, i7, σ => if i7 < 0 then (m_unify_155 i6 σ).bind (fun p2 => if p2.1 = 0 ∨ p2.1 = 1 then some (p2.1, p2.2) else none) else (aget (σ.2 74) 72000 ((i5 * (Int32.ofInt 3)) + i7)).bind (fun x5 => (aget (σ.2 74) 72000 ((i2 * (Int32.ofInt 3)) + i7)).bind (fun x7 => (m_pair_154 x5 x7 σ).bind (fun p9 => (m_take_153_l84 n) i2 i5 i6 (i7 + Int32.ofInt (-1)) p9)))
def m_take_153 (i1 : Int32) (i2 : Int32) (i3 : Int32) (i4 : Int32) (σ : qC) : Option (Int32 × qC) := qlet (upS σ 6412 (i1 * (Int32.ofInt 48))) (fun σ1 => (aget (σ1.2 67) 12 i1).bind (fun x3 => qlet (upS σ1 6413 ((σ1.1 6412) + x3)) (fun σ5 => (m_number_140 σ5).bind (fun p7 => (m_build_145 p7).bind (fun p9 => (m_at_143 (p9.2.1 6412) p9.2).bind (fun p11 => if p11 = Int32.ofInt 58 then qlet (upS p9.2 6412 ((p9.2.1 6412) + (Int32.ofInt 1))) (fun σ14 => (m_buildGoals_142 i4 i3 σ14).bind (fun p16 => qlet (upS p16.2 6436 (Int32.ofInt 0)) (fun σ18 => (aget (σ18.2 73) 24000 p9.1).bind (fun x20 => m_take_153_l84 qF i2 p9.1 p16.1 (x20 - (Int32.ofInt 1)) σ18)))) else qlet (upS p9.2 6436 (Int32.ofInt 0)) (fun σ22 => (aget (σ22.2 73) 24000 p9.1).bind (fun x24 => m_take_153_l84 qF i2 p9.1 i3 (x24 - (Int32.ofInt 1)) σ22))))))))
theorem t_m_take_153_l84 {S : Nat × (Nat → Int32)} {d : Nat} {x : qC} {y : Int64 × Nat} (hd : 14 ≤ d) : ∀ (n : Nat) {i2 : Int32} {i5 : Int32} {i6 : Int32} {i7 : Int32} {σ : qC} {p : (Int32 × qC)}, m_take_153_l84 n i2 i5 i6 i7 σ = some p → qE S d jm_12_take_153 (84, [(0, .ref 64), (2, .int i2), (5, .int i5), (6, .int i6), (7, .int i7)], [], (x, σ, y)) ((.inl (some (.int p.1)), (x, p.2, y))) := by
  have hd9 : 9 ≤ d := by omega
  intro n
  induction n with
  | zero =>
    intros
    rename_i h
    unfold m_take_153_l84 at h
    cases h
  | succ n ih =>
    intro i2 i5 i6 i7 σ p h
    unfold m_take_153_l84 at h
    refine qE.steps 2 hd9 (s' := (if i7 < 0 then 122 else 89, [(0, .ref 64), (2, .int i2), (5, .int i5), (6, .int i6), (7, .int i7)], [], (x, σ, y))) rfl ?_
    by_cases c1 : i7 < 0
    · rw [if_pos c1] at h
      rw [if_pos c1]
      refine qE.steps 2 hd9 (s' := (125, [(0, .ref 64), (2, .int i2), (5, .int i5), (6, .int i6), (7, .int i7)], [.int i6, .ref 64], (x, σ, y))) rfl ?_
      obtain ⟨p2, e3, h⟩ := obind h
      refine qE.call hd9 rfl rfl rfl rfl (t_m_unify_155 (by omega) e3) ?_
      refine qE.steps 0 hd9 (s' := (128, [(0, .ref 64), (2, .int i2), (5, .int i5), (6, .int i6), (7, .int i7)], [.int p2.1], (x, p2.2, y))) rfl ?_
      by_cases c4 : p2.1 = 0 ∨ p2.1 = 1
      case neg => rw [if_neg c4] at h; cases h
      rw [if_pos c4] at h
      obtain rfl := Option.some.inj h
      exact qE.ret hd9 rfl (by rcases c4 with c4 | c4 <;> (show qat jT0 jm_12_take_153 (128, [(0, .ref 64), (2, .int i2), (5, .int i5), (6, .int i6), (7, .int i7)], [.int p2.1], (x, p2.2, y)) = some (.inl (some (.int p2.1)))) <;> rw [c4] <;> rfl)
    · rw [if_neg c1] at h
      rw [if_neg c1]
      refine qE.steps 8 hd9 (s' := (101, [(0, .ref 64), (2, .int i2), (5, .int i5), (6, .int i6), (7, .int i7)], [.int ((i5 * (Int32.ofInt 3)) + i7), .ref 74, .ref 64], (x, σ, y))) rfl ?_
      obtain ⟨x5, e6, h⟩ := obind h
      refine qE.iald hd9 e6 rfl rfl ?_
      refine qE.steps 7 hd9 (s' := (112, [(0, .ref 64), (2, .int i2), (5, .int i5), (6, .int i6), (7, .int i7)], [.int ((i2 * (Int32.ofInt 3)) + i7), .ref 74, .int x5, .ref 64], (x, σ, y))) rfl ?_
      obtain ⟨x7, e8, h⟩ := obind h
      refine qE.iald hd9 e8 rfl rfl ?_
      obtain ⟨p9, e10, h⟩ := obind h
      refine qE.call hd9 rfl rfl rfl rfl (t_m_pair_154 (by omega) e10) ?_
      refine qE.steps 0 hd9 (s' := (116, [(0, .ref 64), (2, .int i2), (5, .int i5), (6, .int i6), (7, .int i7)], [], (x, p9, y))) rfl ?_
      refine qE.steps 2 hd9 (s' := (84, [(7, .int (i7 + Int32.ofInt (-1))), (0, .ref 64), (2, .int i2), (5, .int i5), (6, .int i6)], [], (x, p9, y))) rfl ?_
      exact qE.wk (ih h) ⟨rfl, rfl, rfl, rfl, rfl, trivial⟩ rfl
theorem t_m_take_153 {S : Nat × (Nat → Int32)} {d : Nat} {x : qC} {y : Int64 × Nat} {i1 : Int32} {i2 : Int32} {i3 : Int32} {i4 : Int32} {σ : qC} {p : (Int32 × qC)} (hd : 14 ≤ d) (h : m_take_153 i1 i2 i3 i4 σ = some p) : qE S d jm_12_take_153 (0, [(0, .ref 64), (1, .int i1), (2, .int i2), (3, .int i3), (4, .int i4)], [], (x, σ, y)) ((.inl (some (.int p.1)), (x, p.2, y))) := by
  have hd9 : 9 ≤ d := by omega
  unfold m_take_153 at h
  obtain ⟨σ1, e2, h⟩ := qlet_ex h
  refine qE.steps 5 hd9 (s' := (8, [(0, .ref 64), (1, .int i1), (2, .int i2), (3, .int i3), (4, .int i4)], [], (x, σ1, y))) (by subst e2; rfl) ?_
  refine qE.steps 6 hd9 (s' := (18, [(0, .ref 64), (1, .int i1), (2, .int i2), (3, .int i3), (4, .int i4)], [.int i1, .ref 67, .int (σ1.1 6412), .ref 64], (x, σ1, y))) rfl ?_
  obtain ⟨x3, e4, h⟩ := obind h
  refine qE.iald hd9 e4 rfl rfl ?_
  obtain ⟨σ5, e6, h⟩ := qlet_ex h
  refine qE.steps 2 hd9 (s' := (23, [(0, .ref 64), (1, .int i1), (2, .int i2), (3, .int i3), (4, .int i4)], [], (x, σ5, y))) (by subst e6; rfl) ?_
  refine qE.steps 1 hd9 (s' := (24, [(0, .ref 64), (1, .int i1), (2, .int i2), (3, .int i3), (4, .int i4)], [.ref 64], (x, σ5, y))) rfl ?_
  obtain ⟨p7, e8, h⟩ := obind h
  refine qE.call hd9 rfl rfl rfl rfl (t_m_number_140 (by omega) e8) ?_
  refine qE.steps 0 hd9 (s' := (27, [(0, .ref 64), (1, .int i1), (2, .int i2), (3, .int i3), (4, .int i4)], [], (x, p7, y))) rfl ?_
  refine qE.steps 1 hd9 (s' := (28, [(0, .ref 64), (1, .int i1), (2, .int i2), (3, .int i3), (4, .int i4)], [.ref 64], (x, p7, y))) rfl ?_
  obtain ⟨p9, e10, h⟩ := obind h
  refine qE.call hd9 rfl rfl rfl rfl (t_m_build_145 (by omega) e10) ?_
  refine qE.steps 0 hd9 (s' := (31, [(0, .ref 64), (1, .int i1), (2, .int i2), (3, .int i3), (4, .int i4)], [.int p9.1], (x, p9.2, y))) rfl ?_
  refine qE.steps 6 hd9 (s' := (41, [(6, .int i3), (5, .int p9.1), (0, .ref 64), (1, .int i1), (2, .int i2), (3, .int i3), (4, .int i4)], [.int (p9.2.1 6412), .ref 64], (x, p9.2, y))) rfl ?_
  obtain ⟨p11, e12, h⟩ := obind h
  refine qE.call hd9 rfl rfl rfl rfl (t_m_at_143 (by omega) e12) ?_
  refine qE.steps 0 hd9 (s' := (44, [(6, .int i3), (5, .int p9.1), (0, .ref 64), (1, .int i1), (2, .int i2), (3, .int i3), (4, .int i4)], [.int p11], (x, p9.2, y))) rfl ?_
  refine qE.steps 2 hd9 (s' := (if ¬ (p11 = Int32.ofInt 58) then 68 else 49, [(6, .int i3), (5, .int p9.1), (0, .ref 64), (1, .int i1), (2, .int i2), (3, .int i3), (4, .int i4)], [], (x, p9.2, y))) rfl ?_
  by_cases c13 : p11 = Int32.ofInt 58
  · rw [if_pos c13] at h
    rw [if_neg (not_not_intro c13)]
    obtain ⟨σ14, e15, h⟩ := qlet_ex h
    refine qE.steps 6 hd9 (s' := (59, [(6, .int i3), (5, .int p9.1), (0, .ref 64), (1, .int i1), (2, .int i2), (3, .int i3), (4, .int i4)], [], (x, σ14, y))) (by subst e15; rfl) ?_
    refine qE.steps 3 hd9 (s' := (63, [(6, .int i3), (5, .int p9.1), (0, .ref 64), (1, .int i1), (2, .int i2), (3, .int i3), (4, .int i4)], [.int i3, .int i4, .ref 64], (x, σ14, y))) rfl ?_
    obtain ⟨p16, e17, h⟩ := obind h
    refine qE.call hd9 rfl rfl rfl rfl (t_m_buildGoals_142 (by omega) e17) ?_
    refine qE.steps 0 hd9 (s' := (66, [(6, .int i3), (5, .int p9.1), (0, .ref 64), (1, .int i1), (2, .int i2), (3, .int i3), (4, .int i4)], [.int p16.1], (x, p16.2, y))) rfl ?_
    obtain ⟨σ18, e19, h⟩ := qlet_ex h
    refine qE.steps 4 hd9 (s' := (73, [(6, .int p16.1), (5, .int p9.1), (0, .ref 64), (1, .int i1), (2, .int i2), (3, .int i3), (4, .int i4)], [], (x, σ18, y))) (by subst e19; rfl) ?_
    refine qE.steps 3 hd9 (s' := (79, [(6, .int p16.1), (5, .int p9.1), (0, .ref 64), (1, .int i1), (2, .int i2), (3, .int i3), (4, .int i4)], [.int p9.1, .ref 73], (x, σ18, y))) rfl ?_
    obtain ⟨x20, e21, h⟩ := obind h
    refine qE.iald hd9 e21 rfl rfl ?_
    refine qE.steps 3 hd9 (s' := (84, [(7, .int (x20 - (Int32.ofInt 1))), (6, .int p16.1), (5, .int p9.1), (0, .ref 64), (1, .int i1), (2, .int i2), (3, .int i3), (4, .int i4)], [], (x, σ18, y))) rfl ?_
    exact qE.wk (t_m_take_153_l84 hd qF h) ⟨rfl, rfl, rfl, rfl, rfl, trivial⟩ rfl
  · rw [if_neg c13] at h
    rw [if_pos c13]
    obtain ⟨σ22, e23, h⟩ := qlet_ex h
    refine qE.steps 3 hd9 (s' := (73, [(6, .int i3), (5, .int p9.1), (0, .ref 64), (1, .int i1), (2, .int i2), (3, .int i3), (4, .int i4)], [], (x, σ22, y))) (by subst e23; rfl) ?_
    refine qE.steps 3 hd9 (s' := (79, [(6, .int i3), (5, .int p9.1), (0, .ref 64), (1, .int i1), (2, .int i2), (3, .int i3), (4, .int i4)], [.int p9.1, .ref 73], (x, σ22, y))) rfl ?_
    obtain ⟨x24, e25, h⟩ := obind h
    refine qE.iald hd9 e25 rfl rfl ?_
    refine qE.steps 3 hd9 (s' := (84, [(7, .int (x24 - (Int32.ofInt 1))), (6, .int i3), (5, .int p9.1), (0, .ref 64), (1, .int i1), (2, .int i2), (3, .int i3), (4, .int i4)], [], (x, σ22, y))) rfl ?_
    exact qE.wk (t_m_take_153_l84 hd qF h) ⟨rfl, rfl, rfl, rfl, rfl, trivial⟩ rfl
def m_call_164 (i1 : Int32) (i2 : Int32) (σ : qC) : Option (Int32 × qC) := (m_nextFit_150 (Int32.ofInt 0) i1 σ).bind (fun p1 => if p1 = σ.1 6408 then some (Int32.ofInt 0, σ) else (m_nextFit_150 (p1 + (Int32.ofInt 1)) i1 σ).bind (fun p4 => if σ.1 6408 ≤ p4 then (m_take_153 p1 i1 i2 (σ.1 6433) σ).bind (fun p7 => if p7.1 = 0 ∨ p7.1 = 1 then some (p7.1, p7.2) else none) else (aput σ 94 600 (σ.1 6433) i1).bind (fun σ10 => (aput σ10 95 600 (σ10.1 6433) p4).bind (fun σ12 => (aput σ12 96 600 (σ12.1 6433) i2).bind (fun σ14 => (aput σ14 97 600 (σ14.1 6433) (σ14.1 6425)).bind (fun σ16 => (aput σ16 98 600 (σ16.1 6433) (σ16.1 6426)).bind (fun σ18 => (aput σ18 99 600 (σ18.1 6433) (σ18.1 6428)).bind (fun σ20 => (aput σ20 100 600 (σ20.1 6433) (σ20.1 6432)).bind (fun σ22 => (aput σ22 101 600 (σ22.1 6433) (σ22.1 6434)).bind (fun σ24 => (aput σ24 102 600 (σ24.1 6433) (σ24.1 6435)).bind (fun σ26 => qlet (upS σ26 6433 ((σ26.1 6433) + (Int32.ofInt 1))) (fun σ28 => (m_take_153 p1 i1 i2 (σ.1 6433) σ28).bind (fun p30 => if p30.1 = 0 ∨ p30.1 = 1 then some (p30.1, p30.2) else none)))))))))))))
theorem t_m_call_164 {S : Nat × (Nat → Int32)} {d : Nat} {x : qC} {y : Int64 × Nat} {i1 : Int32} {i2 : Int32} {σ : qC} {p : (Int32 × qC)} (hd : 15 ≤ d) (h : m_call_164 i1 i2 σ = some p) : qE S d jm_12_call_164 (0, [(0, .ref 64), (1, .int i1), (2, .int i2)], [], (x, σ, y)) ((.inl (some (.int p.1)), (x, p.2, y))) := by
  have hd9 : 9 ≤ d := by omega
  unfold m_call_164 at h
  refine qE.steps 3 hd9 (s' := (3, [(0, .ref 64), (1, .int i1), (2, .int i2)], [.int i1, .int (Int32.ofInt 0), .ref 64], (x, σ, y))) rfl ?_
  obtain ⟨p1, e2, h⟩ := obind h
  refine qE.call hd9 rfl rfl rfl rfl (t_m_nextFit_150 (by omega) e2) ?_
  refine qE.steps 0 hd9 (s' := (6, [(0, .ref 64), (1, .int i1), (2, .int i2)], [.int p1], (x, σ, y))) rfl ?_
  refine qE.steps 8 hd9 (s' := (if ¬ (p1 = σ.1 6408) then 23 else 21, [(4, .int (σ.1 6433)), (3, .int p1), (0, .ref 64), (1, .int i1), (2, .int i2)], [], (x, σ, y))) rfl ?_
  by_cases c3 : p1 = σ.1 6408
  · rw [if_pos c3] at h
    rw [if_neg (not_not_intro c3)]
    refine qE.steps 1 hd9 (s' := (22, [(4, .int (σ.1 6433)), (3, .int p1), (0, .ref 64), (1, .int i1), (2, .int i2)], [.int (Int32.ofInt 0)], (x, σ, y))) rfl ?_
    obtain rfl := Option.some.inj h
    exact qE.ret hd9 rfl rfl
  · rw [if_neg c3] at h
    rw [if_pos c3]
    refine qE.steps 5 hd9 (s' := (28, [(4, .int (σ.1 6433)), (3, .int p1), (0, .ref 64), (1, .int i1), (2, .int i2)], [.int i1, .int (p1 + (Int32.ofInt 1)), .ref 64], (x, σ, y))) rfl ?_
    obtain ⟨p4, e5, h⟩ := obind h
    refine qE.call hd9 rfl rfl rfl rfl (t_m_nextFit_150 (by omega) e5) ?_
    refine qE.steps 0 hd9 (s' := (31, [(4, .int (σ.1 6433)), (3, .int p1), (0, .ref 64), (1, .int i1), (2, .int i2)], [.int p4], (x, σ, y))) rfl ?_
    refine qE.steps 5 hd9 (s' := (if σ.1 6408 ≤ p4 then 161 else 42, [(5, .int p4), (4, .int (σ.1 6433)), (3, .int p1), (0, .ref 64), (1, .int i1), (2, .int i2)], [], (x, σ, y))) rfl ?_
    by_cases c6 : σ.1 6408 ≤ p4
    · rw [if_pos c6] at h
      rw [if_pos c6]
      refine qE.steps 5 hd9 (s' := (167, [(5, .int p4), (4, .int (σ.1 6433)), (3, .int p1), (0, .ref 64), (1, .int i1), (2, .int i2)], [.int (σ.1 6433), .int i2, .int i1, .int p1, .ref 64], (x, σ, y))) rfl ?_
      obtain ⟨p7, e8, h⟩ := obind h
      refine qE.call hd9 rfl rfl rfl rfl (t_m_take_153 (by omega) e8) ?_
      refine qE.steps 0 hd9 (s' := (170, [(5, .int p4), (4, .int (σ.1 6433)), (3, .int p1), (0, .ref 64), (1, .int i1), (2, .int i2)], [.int p7.1], (x, p7.2, y))) rfl ?_
      by_cases c9 : p7.1 = 0 ∨ p7.1 = 1
      case neg => rw [if_neg c9] at h; cases h
      rw [if_pos c9] at h
      obtain rfl := Option.some.inj h
      exact qE.ret hd9 rfl (by rcases c9 with c9 | c9 <;> (show qat jT0 jm_12_call_164 (170, [(5, .int p4), (4, .int (σ.1 6433)), (3, .int p1), (0, .ref 64), (1, .int i1), (2, .int i2)], [.int p7.1], (x, p7.2, y)) = some (.inl (some (.int p7.1)))) <;> rw [c9] <;> rfl)
    · rw [if_neg c6] at h
      rw [if_neg c6]
      refine qE.steps 5 hd9 (s' := (51, [(5, .int p4), (4, .int (σ.1 6433)), (3, .int p1), (0, .ref 64), (1, .int i1), (2, .int i2)], [.int i1, .int (σ.1 6433), .ref 94], (x, σ, y))) rfl ?_
      obtain ⟨σ10, e11, h⟩ := obind h
      refine qE.iastM hd9 e11 rfl rfl ?_
      refine qE.steps 5 hd9 (s' := (62, [(5, .int p4), (4, .int (σ.1 6433)), (3, .int p1), (0, .ref 64), (1, .int i1), (2, .int i2)], [.int p4, .int (σ10.1 6433), .ref 95], (x, σ10, y))) rfl ?_
      obtain ⟨σ12, e13, h⟩ := obind h
      refine qE.iastM hd9 e13 rfl rfl ?_
      refine qE.steps 5 hd9 (s' := (72, [(5, .int p4), (4, .int (σ.1 6433)), (3, .int p1), (0, .ref 64), (1, .int i1), (2, .int i2)], [.int i2, .int (σ12.1 6433), .ref 96], (x, σ12, y))) rfl ?_
      obtain ⟨σ14, e15, h⟩ := obind h
      refine qE.iastM hd9 e15 rfl rfl ?_
      refine qE.steps 6 hd9 (s' := (85, [(5, .int p4), (4, .int (σ.1 6433)), (3, .int p1), (0, .ref 64), (1, .int i1), (2, .int i2)], [.int (σ14.1 6425), .int (σ14.1 6433), .ref 97], (x, σ14, y))) rfl ?_
      obtain ⟨σ16, e17, h⟩ := obind h
      refine qE.iastM hd9 e17 rfl rfl ?_
      refine qE.steps 6 hd9 (s' := (98, [(5, .int p4), (4, .int (σ.1 6433)), (3, .int p1), (0, .ref 64), (1, .int i1), (2, .int i2)], [.int (σ16.1 6426), .int (σ16.1 6433), .ref 98], (x, σ16, y))) rfl ?_
      obtain ⟨σ18, e19, h⟩ := obind h
      refine qE.iastM hd9 e19 rfl rfl ?_
      refine qE.steps 6 hd9 (s' := (111, [(5, .int p4), (4, .int (σ.1 6433)), (3, .int p1), (0, .ref 64), (1, .int i1), (2, .int i2)], [.int (σ18.1 6428), .int (σ18.1 6433), .ref 99], (x, σ18, y))) rfl ?_
      obtain ⟨σ20, e21, h⟩ := obind h
      refine qE.iastM hd9 e21 rfl rfl ?_
      refine qE.steps 6 hd9 (s' := (124, [(5, .int p4), (4, .int (σ.1 6433)), (3, .int p1), (0, .ref 64), (1, .int i1), (2, .int i2)], [.int (σ20.1 6432), .int (σ20.1 6433), .ref 100], (x, σ20, y))) rfl ?_
      obtain ⟨σ22, e23, h⟩ := obind h
      refine qE.iastM hd9 e23 rfl rfl ?_
      refine qE.steps 6 hd9 (s' := (137, [(5, .int p4), (4, .int (σ.1 6433)), (3, .int p1), (0, .ref 64), (1, .int i1), (2, .int i2)], [.int (σ22.1 6434), .int (σ22.1 6433), .ref 101], (x, σ22, y))) rfl ?_
      obtain ⟨σ24, e25, h⟩ := obind h
      refine qE.iastM hd9 e25 rfl rfl ?_
      refine qE.steps 6 hd9 (s' := (150, [(5, .int p4), (4, .int (σ.1 6433)), (3, .int p1), (0, .ref 64), (1, .int i1), (2, .int i2)], [.int (σ24.1 6435), .int (σ24.1 6433), .ref 102], (x, σ24, y))) rfl ?_
      obtain ⟨σ26, e27, h⟩ := obind h
      refine qE.iastM hd9 e27 rfl rfl ?_
      obtain ⟨σ28, e29, h⟩ := qlet_ex h
      refine qE.steps 6 hd9 (s' := (161, [(5, .int p4), (4, .int (σ.1 6433)), (3, .int p1), (0, .ref 64), (1, .int i1), (2, .int i2)], [], (x, σ28, y))) (by subst e29; rfl) ?_
      refine qE.steps 5 hd9 (s' := (167, [(5, .int p4), (4, .int (σ.1 6433)), (3, .int p1), (0, .ref 64), (1, .int i1), (2, .int i2)], [.int (σ.1 6433), .int i2, .int i1, .int p1, .ref 64], (x, σ28, y))) rfl ?_
      obtain ⟨p30, e31, h⟩ := obind h
      refine qE.call hd9 rfl rfl rfl rfl (t_m_take_153 (by omega) e31) ?_
      refine qE.steps 0 hd9 (s' := (170, [(5, .int p4), (4, .int (σ.1 6433)), (3, .int p1), (0, .ref 64), (1, .int i1), (2, .int i2)], [.int p30.1], (x, p30.2, y))) rfl ?_
      by_cases c32 : p30.1 = 0 ∨ p30.1 = 1
      case neg => rw [if_neg c32] at h; cases h
      rw [if_pos c32] at h
      obtain rfl := Option.some.inj h
      exact qE.ret hd9 rfl (by rcases c32 with c32 | c32 <;> (show qat jT0 jm_12_call_164 (170, [(5, .int p4), (4, .int (σ.1 6433)), (3, .int p1), (0, .ref 64), (1, .int i1), (2, .int i2)], [.int p30.1], (x, p30.2, y)) = some (.inl (some (.int p30.1)))) <;> rw [c32] <;> rfl)
def m_apart_165 (i1 : Int32) (i2 : Int32) (i3 : Int32) (σ : qC) : Option (Int32 × qC) := (m_test_162 i1 i2 σ).bind (fun p1 => if p1.1 = Int32.ofInt 2 then some (Int32.ofInt 0, p1.2) else qlet (upS p1.2 6429 i3) (fun σ4 => if p1.1 = 0 then some (Int32.ofInt 1, σ4) else (aput σ4 87 600 (σ4.1 6435) i1).bind (fun σ7 => (aput σ7 88 600 (σ7.1 6435) i2).bind (fun σ9 => (aput σ9 89 600 (σ9.1 6435) (Int32.ofInt 0)).bind (fun σ11 => qlet (upS σ11 6435 ((σ11.1 6435) + (Int32.ofInt 1))) (fun σ13 => some (Int32.ofInt 1, σ13)))))))
theorem t_m_apart_165 {S : Nat × (Nat → Int32)} {d : Nat} {x : qC} {y : Int64 × Nat} {i1 : Int32} {i2 : Int32} {i3 : Int32} {σ : qC} {p : (Int32 × qC)} (hd : 13 ≤ d) (h : m_apart_165 i1 i2 i3 σ = some p) : qE S d jm_12_apart_165 (0, [(0, .ref 64), (1, .int i1), (2, .int i2), (3, .int i3)], [], (x, σ, y)) ((.inl (some (.int p.1)), (x, p.2, y))) := by
  have hd9 : 9 ≤ d := by omega
  unfold m_apart_165 at h
  refine qE.steps 3 hd9 (s' := (3, [(0, .ref 64), (1, .int i1), (2, .int i2), (3, .int i3)], [.int i2, .int i1, .ref 64], (x, σ, y))) rfl ?_
  obtain ⟨p1, e2, h⟩ := obind h
  refine qE.call hd9 rfl rfl rfl rfl (t_m_test_162 (by omega) e2) ?_
  refine qE.steps 0 hd9 (s' := (6, [(0, .ref 64), (1, .int i1), (2, .int i2), (3, .int i3)], [.int p1.1], (x, p1.2, y))) rfl ?_
  refine qE.steps 4 hd9 (s' := (if ¬ (p1.1 = Int32.ofInt 2) then 16 else 14, [(4, .int p1.1), (0, .ref 64), (1, .int i1), (2, .int i2), (3, .int i3)], [], (x, p1.2, y))) rfl ?_
  by_cases c3 : p1.1 = Int32.ofInt 2
  · rw [if_pos c3] at h
    rw [if_neg (not_not_intro c3)]
    refine qE.steps 1 hd9 (s' := (15, [(4, .int p1.1), (0, .ref 64), (1, .int i1), (2, .int i2), (3, .int i3)], [.int (Int32.ofInt 0)], (x, p1.2, y))) rfl ?_
    obtain rfl := Option.some.inj h
    exact qE.ret hd9 rfl rfl
  · rw [if_neg c3] at h
    rw [if_pos c3]
    obtain ⟨σ4, e5, h⟩ := qlet_ex h
    refine qE.steps 3 hd9 (s' := (21, [(4, .int p1.1), (0, .ref 64), (1, .int i1), (2, .int i2), (3, .int i3)], [], (x, σ4, y))) (by subst e5; rfl) ?_
    refine qE.steps 2 hd9 (s' := (if ¬ (p1.1 = 0) then 28 else 26, [(4, .int p1.1), (0, .ref 64), (1, .int i1), (2, .int i2), (3, .int i3)], [], (x, σ4, y))) rfl ?_
    by_cases c6 : p1.1 = 0
    · rw [if_pos c6] at h
      rw [if_neg (not_not_intro c6)]
      refine qE.steps 1 hd9 (s' := (27, [(4, .int p1.1), (0, .ref 64), (1, .int i1), (2, .int i2), (3, .int i3)], [.int (Int32.ofInt 1)], (x, σ4, y))) rfl ?_
      obtain rfl := Option.some.inj h
      exact qE.ret hd9 rfl rfl
    · rw [if_neg c6] at h
      rw [if_pos c6]
      refine qE.steps 5 hd9 (s' := (37, [(4, .int p1.1), (0, .ref 64), (1, .int i1), (2, .int i2), (3, .int i3)], [.int i1, .int (σ4.1 6435), .ref 87], (x, σ4, y))) rfl ?_
      obtain ⟨σ7, e8, h⟩ := obind h
      refine qE.iastM hd9 e8 rfl rfl ?_
      refine qE.steps 5 hd9 (s' := (47, [(4, .int p1.1), (0, .ref 64), (1, .int i1), (2, .int i2), (3, .int i3)], [.int i2, .int (σ7.1 6435), .ref 88], (x, σ7, y))) rfl ?_
      obtain ⟨σ9, e10, h⟩ := obind h
      refine qE.iastM hd9 e10 rfl rfl ?_
      refine qE.steps 5 hd9 (s' := (57, [(4, .int p1.1), (0, .ref 64), (1, .int i1), (2, .int i2), (3, .int i3)], [.int (Int32.ofInt 0), .int (σ9.1 6435), .ref 89], (x, σ9, y))) rfl ?_
      obtain ⟨σ11, e12, h⟩ := obind h
      refine qE.iastM hd9 e12 rfl rfl ?_
      obtain ⟨σ13, e14, h⟩ := qlet_ex h
      refine qE.steps 6 hd9 (s' := (68, [(4, .int p1.1), (0, .ref 64), (1, .int i1), (2, .int i2), (3, .int i3)], [], (x, σ13, y))) (by subst e14; rfl) ?_
      refine qE.steps 1 hd9 (s' := (69, [(4, .int p1.1), (0, .ref 64), (1, .int i1), (2, .int i2), (3, .int i3)], [.int (Int32.ofInt 1)], (x, σ13, y))) rfl ?_
      obtain rfl := Option.some.inj h
      exact qE.ret hd9 rfl rfl
def m_less_166 (i1 : Int32) (i2 : Int32) (i3 : Int32) (σ : qC) : Option (Int32 × qC) := (m_value_158 i1 σ).bind (fun p1 => (m_value_158 i2 σ).bind (fun p3 => qlet (upS σ 6429 i3) (fun σ5 => if p1 < 0 then qlet (upS σ5 6411 (Int32.ofInt 4)) (fun σ8 => some (Int32.ofInt 0, σ8)) else if p3 < 0 then qlet (upS σ5 6411 (Int32.ofInt 4)) (fun σ11 => some (Int32.ofInt 0, σ11)) else (aget (σ5.2 72) 24000 p1).bind (fun x13 => if m_in_129 x13 (Int32.ofInt 48) (Int32.ofInt 57) = 0 then qlet (upS σ5 6411 (Int32.ofInt 4)) (fun σ16 => some (Int32.ofInt 0, σ16)) else (aget (σ5.2 72) 24000 p3).bind (fun x18 => if m_in_129 x18 (Int32.ofInt 48) (Int32.ofInt 57) = 0 then qlet (upS σ5 6411 (Int32.ofInt 4)) (fun σ21 => some (Int32.ofInt 0, σ21)) else (aget (σ5.2 72) 24000 p1).bind (fun x23 => (aget (σ5.2 72) 24000 p3).bind (fun x25 => if x25 ≤ x23 then some (Int32.ofInt 0, σ5) else some (Int32.ofInt 1, σ5))))))))
theorem t_m_less_166 {S : Nat × (Nat → Int32)} {d : Nat} {x : qC} {y : Int64 × Nat} {i1 : Int32} {i2 : Int32} {i3 : Int32} {σ : qC} {p : (Int32 × qC)} (hd : 10 ≤ d) (h : m_less_166 i1 i2 i3 σ = some p) : qE S d jm_12_less_166 (0, [(0, .ref 64), (1, .int i1), (2, .int i2), (3, .int i3)], [], (x, σ, y)) ((.inl (some (.int p.1)), (x, p.2, y))) := by
  have hd9 : 9 ≤ d := by omega
  unfold m_less_166 at h
  refine qE.steps 2 hd9 (s' := (2, [(0, .ref 64), (1, .int i1), (2, .int i2), (3, .int i3)], [.int i1, .ref 64], (x, σ, y))) rfl ?_
  obtain ⟨p1, e2, h⟩ := obind h
  refine qE.call hd9 rfl rfl rfl rfl (t_m_value_158 (by omega) e2) ?_
  refine qE.steps 0 hd9 (s' := (5, [(0, .ref 64), (1, .int i1), (2, .int i2), (3, .int i3)], [.int p1], (x, σ, y))) rfl ?_
  refine qE.steps 3 hd9 (s' := (9, [(4, .int p1), (0, .ref 64), (1, .int i1), (2, .int i2), (3, .int i3)], [.int i2, .ref 64], (x, σ, y))) rfl ?_
  obtain ⟨p3, e4, h⟩ := obind h
  refine qE.call hd9 rfl rfl rfl rfl (t_m_value_158 (by omega) e4) ?_
  refine qE.steps 0 hd9 (s' := (12, [(4, .int p1), (0, .ref 64), (1, .int i1), (2, .int i2), (3, .int i3)], [.int p3], (x, σ, y))) rfl ?_
  obtain ⟨σ5, e6, h⟩ := qlet_ex h
  refine qE.steps 4 hd9 (s' := (19, [(5, .int p3), (4, .int p1), (0, .ref 64), (1, .int i1), (2, .int i2), (3, .int i3)], [], (x, σ5, y))) (by subst e6; rfl) ?_
  refine qE.steps 2 hd9 (s' := (if p1 < 0 then 63 else 24, [(5, .int p3), (4, .int p1), (0, .ref 64), (1, .int i1), (2, .int i2), (3, .int i3)], [], (x, σ5, y))) rfl ?_
  by_cases c7 : p1 < 0
  · rw [if_pos c7] at h
    rw [if_pos c7]
    obtain ⟨σ8, e9, h⟩ := qlet_ex h
    refine qE.steps 3 hd9 (s' := (68, [(5, .int p3), (4, .int p1), (0, .ref 64), (1, .int i1), (2, .int i2), (3, .int i3)], [], (x, σ8, y))) (by subst e9; rfl) ?_
    refine qE.steps 1 hd9 (s' := (69, [(5, .int p3), (4, .int p1), (0, .ref 64), (1, .int i1), (2, .int i2), (3, .int i3)], [.int (Int32.ofInt 0)], (x, σ8, y))) rfl ?_
    obtain rfl := Option.some.inj h
    exact qE.ret hd9 rfl rfl
  · rw [if_neg c7] at h
    rw [if_neg c7]
    refine qE.steps 2 hd9 (s' := (if p3 < 0 then 63 else 29, [(5, .int p3), (4, .int p1), (0, .ref 64), (1, .int i1), (2, .int i2), (3, .int i3)], [], (x, σ5, y))) rfl ?_
    by_cases c10 : p3 < 0
    · rw [if_pos c10] at h
      rw [if_pos c10]
      obtain ⟨σ11, e12, h⟩ := qlet_ex h
      refine qE.steps 3 hd9 (s' := (68, [(5, .int p3), (4, .int p1), (0, .ref 64), (1, .int i1), (2, .int i2), (3, .int i3)], [], (x, σ11, y))) (by subst e12; rfl) ?_
      refine qE.steps 1 hd9 (s' := (69, [(5, .int p3), (4, .int p1), (0, .ref 64), (1, .int i1), (2, .int i2), (3, .int i3)], [.int (Int32.ofInt 0)], (x, σ11, y))) rfl ?_
      obtain rfl := Option.some.inj h
      exact qE.ret hd9 rfl rfl
    · rw [if_neg c10] at h
      rw [if_neg c10]
      refine qE.steps 3 hd9 (s' := (35, [(5, .int p3), (4, .int p1), (0, .ref 64), (1, .int i1), (2, .int i2), (3, .int i3)], [.int p1, .ref 72], (x, σ5, y))) rfl ?_
      obtain ⟨x13, e14, h⟩ := obind h
      refine qE.iald hd9 e14 rfl rfl ?_
      refine qE.steps 2 hd9 (s' := (40, [(5, .int p3), (4, .int p1), (0, .ref 64), (1, .int i1), (2, .int i2), (3, .int i3)], [.int (Int32.ofInt 57), .int (Int32.ofInt 48), .int x13], (x, σ5, y))) rfl ?_
      refine qE.call hd9 rfl rfl rfl rfl (t_m_in_129 (by omega) rfl) ?_
      refine qE.steps 0 hd9 (s' := (43, [(5, .int p3), (4, .int p1), (0, .ref 64), (1, .int i1), (2, .int i2), (3, .int i3)], [.int (m_in_129 x13 (Int32.ofInt 48) (Int32.ofInt 57))], (x, σ5, y))) rfl ?_
      refine qE.steps 1 hd9 (s' := (if m_in_129 x13 (Int32.ofInt 48) (Int32.ofInt 57) = 0 then 63 else 46, [(5, .int p3), (4, .int p1), (0, .ref 64), (1, .int i1), (2, .int i2), (3, .int i3)], [], (x, σ5, y))) rfl ?_
      by_cases c15 : m_in_129 x13 (Int32.ofInt 48) (Int32.ofInt 57) = 0
      · rw [if_pos c15] at h
        rw [if_pos c15]
        obtain ⟨σ16, e17, h⟩ := qlet_ex h
        refine qE.steps 3 hd9 (s' := (68, [(5, .int p3), (4, .int p1), (0, .ref 64), (1, .int i1), (2, .int i2), (3, .int i3)], [], (x, σ16, y))) (by subst e17; rfl) ?_
        refine qE.steps 1 hd9 (s' := (69, [(5, .int p3), (4, .int p1), (0, .ref 64), (1, .int i1), (2, .int i2), (3, .int i3)], [.int (Int32.ofInt 0)], (x, σ16, y))) rfl ?_
        obtain rfl := Option.some.inj h
        exact qE.ret hd9 rfl rfl
      · rw [if_neg c15] at h
        rw [if_neg c15]
        refine qE.steps 3 hd9 (s' := (52, [(5, .int p3), (4, .int p1), (0, .ref 64), (1, .int i1), (2, .int i2), (3, .int i3)], [.int p3, .ref 72], (x, σ5, y))) rfl ?_
        obtain ⟨x18, e19, h⟩ := obind h
        refine qE.iald hd9 e19 rfl rfl ?_
        refine qE.steps 2 hd9 (s' := (57, [(5, .int p3), (4, .int p1), (0, .ref 64), (1, .int i1), (2, .int i2), (3, .int i3)], [.int (Int32.ofInt 57), .int (Int32.ofInt 48), .int x18], (x, σ5, y))) rfl ?_
        refine qE.call hd9 rfl rfl rfl rfl (t_m_in_129 (by omega) rfl) ?_
        refine qE.steps 0 hd9 (s' := (60, [(5, .int p3), (4, .int p1), (0, .ref 64), (1, .int i1), (2, .int i2), (3, .int i3)], [.int (m_in_129 x18 (Int32.ofInt 48) (Int32.ofInt 57))], (x, σ5, y))) rfl ?_
        refine qE.steps 1 hd9 (s' := (if ¬ (m_in_129 x18 (Int32.ofInt 48) (Int32.ofInt 57) = 0) then 70 else 63, [(5, .int p3), (4, .int p1), (0, .ref 64), (1, .int i1), (2, .int i2), (3, .int i3)], [], (x, σ5, y))) rfl ?_
        by_cases c20 : m_in_129 x18 (Int32.ofInt 48) (Int32.ofInt 57) = 0
        · rw [if_pos c20] at h
          rw [if_neg (not_not_intro c20)]
          obtain ⟨σ21, e22, h⟩ := qlet_ex h
          refine qE.steps 3 hd9 (s' := (68, [(5, .int p3), (4, .int p1), (0, .ref 64), (1, .int i1), (2, .int i2), (3, .int i3)], [], (x, σ21, y))) (by subst e22; rfl) ?_
          refine qE.steps 1 hd9 (s' := (69, [(5, .int p3), (4, .int p1), (0, .ref 64), (1, .int i1), (2, .int i2), (3, .int i3)], [.int (Int32.ofInt 0)], (x, σ21, y))) rfl ?_
          obtain rfl := Option.some.inj h
          exact qE.ret hd9 rfl rfl
        · rw [if_neg c20] at h
          rw [if_pos c20]
          refine qE.steps 3 hd9 (s' := (76, [(5, .int p3), (4, .int p1), (0, .ref 64), (1, .int i1), (2, .int i2), (3, .int i3)], [.int p1, .ref 72], (x, σ5, y))) rfl ?_
          obtain ⟨x23, e24, h⟩ := obind h
          refine qE.iald hd9 e24 rfl rfl ?_
          refine qE.steps 3 hd9 (s' := (83, [(5, .int p3), (4, .int p1), (0, .ref 64), (1, .int i1), (2, .int i2), (3, .int i3)], [.int p3, .ref 72, .int x23], (x, σ5, y))) rfl ?_
          obtain ⟨x25, e26, h⟩ := obind h
          refine qE.iald hd9 e26 rfl rfl ?_
          refine qE.steps 1 hd9 (s' := (if x25 ≤ x23 then 91 else 87, [(5, .int p3), (4, .int p1), (0, .ref 64), (1, .int i1), (2, .int i2), (3, .int i3)], [], (x, σ5, y))) rfl ?_
          by_cases c27 : x25 ≤ x23
          · rw [if_pos c27] at h
            rw [if_pos c27]
            refine qE.steps 1 hd9 (s' := (92, [(5, .int p3), (4, .int p1), (0, .ref 64), (1, .int i1), (2, .int i2), (3, .int i3)], [.int (Int32.ofInt 0)], (x, σ5, y))) rfl ?_
            obtain rfl := Option.some.inj h
            exact qE.ret hd9 rfl rfl
          · rw [if_neg c27] at h
            rw [if_neg c27]
            refine qE.steps 2 hd9 (s' := (92, [(5, .int p3), (4, .int p1), (0, .ref 64), (1, .int i1), (2, .int i2), (3, .int i3)], [.int (Int32.ofInt 1)], (x, σ5, y))) rfl ?_
            obtain rfl := Option.some.inj h
            exact qE.ret hd9 rfl rfl
def m_sleep_167 (i1 : Int32) (i2 : Int32) (i3 : Int32) (σ : qC) : Option (Int32 × qC) := (m_value_158 i1 σ).bind (fun p1 => qlet (upS σ 6429 i3) (fun σ3 => if p1 < 0 then (aput σ3 85 1200 (σ3.1 6434) i2).bind (fun σ6 => (aput σ6 86 1200 (σ6.1 6434) (Int32.ofInt (-1))).bind (fun σ8 => qlet (upS σ8 6434 ((σ8.1 6434) + (Int32.ofInt 1))) (fun σ10 => (m_follow_161 ((Int32.ofInt (-1)) - p1) ((σ10.1 6434) - (Int32.ofInt 1)) ((σ10.1 6434) - (Int32.ofInt 1)) σ10).bind (fun p12 => some (Int32.ofInt 1, p12))))) else (m_goal_144 (Int32.ofInt 1) i2 (Int32.ofInt 0) (Int32.ofInt 0) i3 σ3).bind (fun p14 => qlet (upS p14.2 6429 p14.1) (fun σ16 => some (Int32.ofInt 1, σ16)))))
theorem t_m_sleep_167 {S : Nat × (Nat → Int32)} {d : Nat} {x : qC} {y : Int64 × Nat} {i1 : Int32} {i2 : Int32} {i3 : Int32} {σ : qC} {p : (Int32 × qC)} (hd : 11 ≤ d) (h : m_sleep_167 i1 i2 i3 σ = some p) : qE S d jm_12_sleep_167 (0, [(0, .ref 64), (1, .int i1), (2, .int i2), (3, .int i3)], [], (x, σ, y)) ((.inl (some (.int p.1)), (x, p.2, y))) := by
  have hd9 : 9 ≤ d := by omega
  unfold m_sleep_167 at h
  refine qE.steps 2 hd9 (s' := (2, [(0, .ref 64), (1, .int i1), (2, .int i2), (3, .int i3)], [.int i1, .ref 64], (x, σ, y))) rfl ?_
  obtain ⟨p1, e2, h⟩ := obind h
  refine qE.call hd9 rfl rfl rfl rfl (t_m_value_158 (by omega) e2) ?_
  refine qE.steps 0 hd9 (s' := (5, [(0, .ref 64), (1, .int i1), (2, .int i2), (3, .int i3)], [.int p1], (x, σ, y))) rfl ?_
  obtain ⟨σ3, e4, h⟩ := qlet_ex h
  refine qE.steps 4 hd9 (s' := (12, [(4, .int p1), (0, .ref 64), (1, .int i1), (2, .int i2), (3, .int i3)], [], (x, σ3, y))) (by subst e4; rfl) ?_
  refine qE.steps 2 hd9 (s' := (if p1 < 0 then 33 else 17, [(4, .int p1), (0, .ref 64), (1, .int i1), (2, .int i2), (3, .int i3)], [], (x, σ3, y))) rfl ?_
  by_cases c5 : p1 < 0
  · rw [if_pos c5] at h
    rw [if_pos c5]
    refine qE.steps 5 hd9 (s' := (42, [(4, .int p1), (0, .ref 64), (1, .int i1), (2, .int i2), (3, .int i3)], [.int i2, .int (σ3.1 6434), .ref 85], (x, σ3, y))) rfl ?_
    obtain ⟨σ6, e7, h⟩ := obind h
    refine qE.iastM hd9 e7 rfl rfl ?_
    refine qE.steps 5 hd9 (s' := (52, [(4, .int p1), (0, .ref 64), (1, .int i1), (2, .int i2), (3, .int i3)], [.int (Int32.ofInt (-1)), .int (σ6.1 6434), .ref 86], (x, σ6, y))) rfl ?_
    obtain ⟨σ8, e9, h⟩ := obind h
    refine qE.iastM hd9 e9 rfl rfl ?_
    obtain ⟨σ10, e11, h⟩ := qlet_ex h
    refine qE.steps 6 hd9 (s' := (63, [(4, .int p1), (0, .ref 64), (1, .int i1), (2, .int i2), (3, .int i3)], [], (x, σ10, y))) (by subst e11; rfl) ?_
    refine qE.steps 12 hd9 (s' := (80, [(4, .int p1), (0, .ref 64), (1, .int i1), (2, .int i2), (3, .int i3)], [.int ((σ10.1 6434) - (Int32.ofInt 1)), .int ((σ10.1 6434) - (Int32.ofInt 1)), .int ((Int32.ofInt (-1)) - p1), .ref 64], (x, σ10, y))) rfl ?_
    obtain ⟨p12, e13, h⟩ := obind h
    refine qE.call hd9 rfl rfl rfl rfl (t_m_follow_161 (by omega) e13) ?_
    refine qE.steps 0 hd9 (s' := (83, [(4, .int p1), (0, .ref 64), (1, .int i1), (2, .int i2), (3, .int i3)], [], (x, p12, y))) rfl ?_
    refine qE.steps 1 hd9 (s' := (84, [(4, .int p1), (0, .ref 64), (1, .int i1), (2, .int i2), (3, .int i3)], [.int (Int32.ofInt 1)], (x, p12, y))) rfl ?_
    obtain rfl := Option.some.inj h
    exact qE.ret hd9 rfl rfl
  · rw [if_neg c5] at h
    rw [if_neg c5]
    refine qE.steps 7 hd9 (s' := (24, [(4, .int p1), (0, .ref 64), (1, .int i1), (2, .int i2), (3, .int i3)], [.int i3, .int (Int32.ofInt 0), .int (Int32.ofInt 0), .int i2, .int (Int32.ofInt 1), .ref 64, .ref 64], (x, σ3, y))) rfl ?_
    obtain ⟨p14, e15, h⟩ := obind h
    refine qE.call hd9 rfl rfl rfl rfl (t_m_goal_144 (by omega) e15) ?_
    refine qE.steps 0 hd9 (s' := (27, [(4, .int p1), (0, .ref 64), (1, .int i1), (2, .int i2), (3, .int i3)], [.int p14.1, .ref 64], (x, p14.2, y))) rfl ?_
    obtain ⟨σ16, e17, h⟩ := qlet_ex h
    refine qE.steps 1 hd9 (s' := (30, [(4, .int p1), (0, .ref 64), (1, .int i1), (2, .int i2), (3, .int i3)], [], (x, σ16, y))) (by subst e17; rfl) ?_
    refine qE.steps 2 hd9 (s' := (84, [(4, .int p1), (0, .ref 64), (1, .int i1), (2, .int i2), (3, .int i3)], [.int (Int32.ofInt 1)], (x, σ16, y))) rfl ?_
    obtain rfl := Option.some.inj h
    exact qE.ret hd9 rfl rfl
def m_perform_163 (i1 : Int32) (σ : qC) : Option (Int32 × qC) := (aget (σ.2 82) 14000 i1).bind (fun x1 => (aget (σ.2 79) 14000 i1).bind (fun x3 => (aget (σ.2 80) 14000 i1).bind (fun x5 => (aget (σ.2 78) 14000 i1).bind (fun x7 => if x7 = Int32.ofInt 0 then (aget (σ.2 81) 14000 i1).bind (fun x10 => if σ.1 6433 ≤ x10 then qlet (upS σ 6429 x1) (fun σ13 => some (Int32.ofInt 1, σ13)) else (aget (σ.2 81) 14000 i1).bind (fun x15 => qlet (upS σ 6433 x15) (fun σ17 => qlet (upS σ17 6429 x1) (fun σ19 => some (Int32.ofInt 1, σ19))))) else if x7 = Int32.ofInt 1 then (m_call_164 x3 x1 σ).bind (fun p22 => if p22.1 = 0 ∨ p22.1 = 1 then some (p22.1, p22.2) else none) else if x7 = Int32.ofInt 2 then qlet (upS σ 6436 (Int32.ofInt 0)) (fun σ26 => (m_pair_154 x3 x5 σ26).bind (fun p28 => (m_unify_155 x1 p28).bind (fun p30 => if p30.1 = 0 ∨ p30.1 = 1 then some (p30.1, p30.2) else none))) else if x7 = Int32.ofInt 3 then (m_apart_165 x3 x5 x1 σ).bind (fun p34 => if p34.1 = 0 ∨ p34.1 = 1 then some (p34.1, p34.2) else none) else if x7 = Int32.ofInt 4 then (m_less_166 x3 x5 x1 σ).bind (fun p38 => if p38.1 = 0 ∨ p38.1 = 1 then some (p38.1, p38.2) else none) else (m_sleep_167 x3 x5 x1 σ).bind (fun p41 => if p41.1 = 0 ∨ p41.1 = 1 then some (p41.1, p41.2) else none)))))
theorem t_m_perform_163 {S : Nat × (Nat → Int32)} {d : Nat} {x : qC} {y : Int64 × Nat} {i1 : Int32} {σ : qC} {p : (Int32 × qC)} (hd : 16 ≤ d) (h : m_perform_163 i1 σ = some p) : qE S d jm_12_perform_163 (0, [(0, .ref 64), (1, .int i1)], [], (x, σ, y)) ((.inl (some (.int p.1)), (x, p.2, y))) := by
  have hd9 : 9 ≤ d := by omega
  unfold m_perform_163 at h
  refine qE.steps 3 hd9 (s' := (5, [(0, .ref 64), (1, .int i1)], [.int i1, .ref 82], (x, σ, y))) rfl ?_
  obtain ⟨x1, e2, h⟩ := obind h
  refine qE.iald hd9 e2 rfl rfl ?_
  refine qE.steps 4 hd9 (s' := (12, [(2, .int x1), (0, .ref 64), (1, .int i1)], [.int i1, .ref 79], (x, σ, y))) rfl ?_
  obtain ⟨x3, e4, h⟩ := obind h
  refine qE.iald hd9 e4 rfl rfl ?_
  refine qE.steps 4 hd9 (s' := (19, [(3, .int x3), (2, .int x1), (0, .ref 64), (1, .int i1)], [.int i1, .ref 80], (x, σ, y))) rfl ?_
  obtain ⟨x5, e6, h⟩ := obind h
  refine qE.iald hd9 e6 rfl rfl ?_
  refine qE.steps 4 hd9 (s' := (27, [(4, .int x5), (3, .int x3), (2, .int x1), (0, .ref 64), (1, .int i1)], [.int i1, .ref 78], (x, σ, y))) rfl ?_
  obtain ⟨x7, e8, h⟩ := obind h
  refine qE.iald hd9 e8 rfl rfl ?_
  by_cases c9 : x7 = Int32.ofInt 0
  · rw [if_pos c9] at h
    refine qE.jmp (pc' := 64) (st' := []) hd9 (by rw [c9]; rfl) rfl rfl rfl ?_
    refine qE.steps 5 hd9 (s' := (73, [(4, .int x5), (3, .int x3), (2, .int x1), (0, .ref 64), (1, .int i1)], [.int i1, .ref 81, .int (σ.1 6433)], (x, σ, y))) rfl ?_
    obtain ⟨x10, e11, h⟩ := obind h
    refine qE.iald hd9 e11 rfl rfl ?_
    refine qE.steps 1 hd9 (s' := (if σ.1 6433 ≤ x10 then 87 else 77, [(4, .int x5), (3, .int x3), (2, .int x1), (0, .ref 64), (1, .int i1)], [], (x, σ, y))) rfl ?_
    by_cases c12 : σ.1 6433 ≤ x10
    · rw [if_pos c12] at h
      rw [if_pos c12]
      obtain ⟨σ13, e14, h⟩ := qlet_ex h
      refine qE.steps 3 hd9 (s' := (92, [(4, .int x5), (3, .int x3), (2, .int x1), (0, .ref 64), (1, .int i1)], [], (x, σ13, y))) (by subst e14; rfl) ?_
      refine qE.steps 1 hd9 (s' := (93, [(4, .int x5), (3, .int x3), (2, .int x1), (0, .ref 64), (1, .int i1)], [.int (Int32.ofInt 1)], (x, σ13, y))) rfl ?_
      obtain rfl := Option.some.inj h
      exact qE.ret hd9 rfl rfl
    · rw [if_neg c12] at h
      rw [if_neg c12]
      refine qE.steps 4 hd9 (s' := (83, [(4, .int x5), (3, .int x3), (2, .int x1), (0, .ref 64), (1, .int i1)], [.int i1, .ref 81, .ref 64], (x, σ, y))) rfl ?_
      obtain ⟨x15, e16, h⟩ := obind h
      refine qE.iald hd9 e16 rfl rfl ?_
      obtain ⟨σ17, e18, h⟩ := qlet_ex h
      refine qE.steps 1 hd9 (s' := (87, [(4, .int x5), (3, .int x3), (2, .int x1), (0, .ref 64), (1, .int i1)], [], (x, σ17, y))) (by subst e18; rfl) ?_
      obtain ⟨σ19, e20, h⟩ := qlet_ex h
      refine qE.steps 3 hd9 (s' := (92, [(4, .int x5), (3, .int x3), (2, .int x1), (0, .ref 64), (1, .int i1)], [], (x, σ19, y))) (by subst e20; rfl) ?_
      refine qE.steps 1 hd9 (s' := (93, [(4, .int x5), (3, .int x3), (2, .int x1), (0, .ref 64), (1, .int i1)], [.int (Int32.ofInt 1)], (x, σ19, y))) rfl ?_
      obtain rfl := Option.some.inj h
      exact qE.ret hd9 rfl rfl
  rw [if_neg c9] at h
  by_cases c21 : x7 = Int32.ofInt 1
  · rw [if_pos c21] at h
    refine qE.jmp (pc' := 94) (st' := []) hd9 (by rw [c21]; rfl) rfl rfl rfl ?_
    refine qE.steps 3 hd9 (s' := (97, [(4, .int x5), (3, .int x3), (2, .int x1), (0, .ref 64), (1, .int i1)], [.int x1, .int x3, .ref 64], (x, σ, y))) rfl ?_
    obtain ⟨p22, e23, h⟩ := obind h
    refine qE.call hd9 rfl rfl rfl rfl (t_m_call_164 (by omega) e23) ?_
    refine qE.steps 0 hd9 (s' := (100, [(4, .int x5), (3, .int x3), (2, .int x1), (0, .ref 64), (1, .int i1)], [.int p22.1], (x, p22.2, y))) rfl ?_
    by_cases c24 : p22.1 = 0 ∨ p22.1 = 1
    case neg => rw [if_neg c24] at h; cases h
    rw [if_pos c24] at h
    obtain rfl := Option.some.inj h
    exact qE.ret hd9 rfl (by rcases c24 with c24 | c24 <;> (show qat jT0 jm_12_perform_163 (100, [(4, .int x5), (3, .int x3), (2, .int x1), (0, .ref 64), (1, .int i1)], [.int p22.1], (x, p22.2, y)) = some (.inl (some (.int p22.1)))) <;> rw [c24] <;> rfl)
  rw [if_neg c21] at h
  by_cases c25 : x7 = Int32.ofInt 2
  · rw [if_pos c25] at h
    refine qE.jmp (pc' := 101) (st' := []) hd9 (by rw [c25]; rfl) rfl rfl rfl ?_
    obtain ⟨σ26, e27, h⟩ := qlet_ex h
    refine qE.steps 3 hd9 (s' := (106, [(4, .int x5), (3, .int x3), (2, .int x1), (0, .ref 64), (1, .int i1)], [], (x, σ26, y))) (by subst e27; rfl) ?_
    refine qE.steps 3 hd9 (s' := (110, [(4, .int x5), (3, .int x3), (2, .int x1), (0, .ref 64), (1, .int i1)], [.int x5, .int x3, .ref 64], (x, σ26, y))) rfl ?_
    obtain ⟨p28, e29, h⟩ := obind h
    refine qE.call hd9 rfl rfl rfl rfl (t_m_pair_154 (by omega) e29) ?_
    refine qE.steps 0 hd9 (s' := (113, [(4, .int x5), (3, .int x3), (2, .int x1), (0, .ref 64), (1, .int i1)], [], (x, p28, y))) rfl ?_
    refine qE.steps 2 hd9 (s' := (115, [(4, .int x5), (3, .int x3), (2, .int x1), (0, .ref 64), (1, .int i1)], [.int x1, .ref 64], (x, p28, y))) rfl ?_
    obtain ⟨p30, e31, h⟩ := obind h
    refine qE.call hd9 rfl rfl rfl rfl (t_m_unify_155 (by omega) e31) ?_
    refine qE.steps 0 hd9 (s' := (118, [(4, .int x5), (3, .int x3), (2, .int x1), (0, .ref 64), (1, .int i1)], [.int p30.1], (x, p30.2, y))) rfl ?_
    by_cases c32 : p30.1 = 0 ∨ p30.1 = 1
    case neg => rw [if_neg c32] at h; cases h
    rw [if_pos c32] at h
    obtain rfl := Option.some.inj h
    exact qE.ret hd9 rfl (by rcases c32 with c32 | c32 <;> (show qat jT0 jm_12_perform_163 (118, [(4, .int x5), (3, .int x3), (2, .int x1), (0, .ref 64), (1, .int i1)], [.int p30.1], (x, p30.2, y)) = some (.inl (some (.int p30.1)))) <;> rw [c32] <;> rfl)
  rw [if_neg c25] at h
  by_cases c33 : x7 = Int32.ofInt 3
  · rw [if_pos c33] at h
    refine qE.jmp (pc' := 119) (st' := []) hd9 (by rw [c33]; rfl) rfl rfl rfl ?_
    refine qE.steps 4 hd9 (s' := (124, [(4, .int x5), (3, .int x3), (2, .int x1), (0, .ref 64), (1, .int i1)], [.int x1, .int x5, .int x3, .ref 64], (x, σ, y))) rfl ?_
    obtain ⟨p34, e35, h⟩ := obind h
    refine qE.call hd9 rfl rfl rfl rfl (t_m_apart_165 (by omega) e35) ?_
    refine qE.steps 0 hd9 (s' := (127, [(4, .int x5), (3, .int x3), (2, .int x1), (0, .ref 64), (1, .int i1)], [.int p34.1], (x, p34.2, y))) rfl ?_
    by_cases c36 : p34.1 = 0 ∨ p34.1 = 1
    case neg => rw [if_neg c36] at h; cases h
    rw [if_pos c36] at h
    obtain rfl := Option.some.inj h
    exact qE.ret hd9 rfl (by rcases c36 with c36 | c36 <;> (show qat jT0 jm_12_perform_163 (127, [(4, .int x5), (3, .int x3), (2, .int x1), (0, .ref 64), (1, .int i1)], [.int p34.1], (x, p34.2, y)) = some (.inl (some (.int p34.1)))) <;> rw [c36] <;> rfl)
  rw [if_neg c33] at h
  by_cases c37 : x7 = Int32.ofInt 4
  · rw [if_pos c37] at h
    refine qE.jmp (pc' := 128) (st' := []) hd9 (by rw [c37]; rfl) rfl rfl rfl ?_
    refine qE.steps 4 hd9 (s' := (133, [(4, .int x5), (3, .int x3), (2, .int x1), (0, .ref 64), (1, .int i1)], [.int x1, .int x5, .int x3, .ref 64], (x, σ, y))) rfl ?_
    obtain ⟨p38, e39, h⟩ := obind h
    refine qE.call hd9 rfl rfl rfl rfl (t_m_less_166 (by omega) e39) ?_
    refine qE.steps 0 hd9 (s' := (136, [(4, .int x5), (3, .int x3), (2, .int x1), (0, .ref 64), (1, .int i1)], [.int p38.1], (x, p38.2, y))) rfl ?_
    by_cases c40 : p38.1 = 0 ∨ p38.1 = 1
    case neg => rw [if_neg c40] at h; cases h
    rw [if_pos c40] at h
    obtain rfl := Option.some.inj h
    exact qE.ret hd9 rfl (by rcases c40 with c40 | c40 <;> (show qat jT0 jm_12_perform_163 (136, [(4, .int x5), (3, .int x3), (2, .int x1), (0, .ref 64), (1, .int i1)], [.int p38.1], (x, p38.2, y)) = some (.inl (some (.int p38.1)))) <;> rw [c40] <;> rfl)
  rw [if_neg c37] at h
  refine qE.jmp (pc' := 137) (st' := []) hd9 (jsw_def (fun kk h1 h2 => by rcases (by omega : kk = 0 ∨ kk = 1 ∨ kk = 2 ∨ kk = 3 ∨ kk = 4) with rfl | rfl | rfl | rfl | rfl <;> assumption) rfl) rfl rfl rfl ?_
  refine qE.steps 4 hd9 (s' := (142, [(4, .int x5), (3, .int x3), (2, .int x1), (0, .ref 64), (1, .int i1)], [.int x1, .int x5, .int x3, .ref 64], (x, σ, y))) rfl ?_
  obtain ⟨p41, e42, h⟩ := obind h
  refine qE.call hd9 rfl rfl rfl rfl (t_m_sleep_167 (by omega) e42) ?_
  refine qE.steps 0 hd9 (s' := (145, [(4, .int x5), (3, .int x3), (2, .int x1), (0, .ref 64), (1, .int i1)], [.int p41.1], (x, p41.2, y))) rfl ?_
  by_cases c43 : p41.1 = 0 ∨ p41.1 = 1
  case neg => rw [if_neg c43] at h; cases h
  rw [if_pos c43] at h
  obtain rfl := Option.some.inj h
  exact qE.ret hd9 rfl (by rcases c43 with c43 | c43 <;> (show qat jT0 jm_12_perform_163 (145, [(4, .int x5), (3, .int x3), (2, .int x1), (0, .ref 64), (1, .int i1)], [.int p41.1], (x, p41.2, y)) = some (.inl (some (.int p41.1)))) <;> rw [c43] <;> rfl)
