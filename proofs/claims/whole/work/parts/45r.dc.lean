/-! BY PROGRAM (wip/whole/gendc.py): each method as a function over the numbers -/
def m_ask_139_l148 : Nat → Int32 → qC → Option (Int32 × qC)
  | 0, _, _ => none
  | n + 1, i3, σ => if Int32.ofInt 26 ≤ i3 then (m_buildGoals_142 (Int32.ofInt 0) (Int32.ofInt (-1)) σ).bind (fun p2 => qlet (upS p2.2 6429 p2.1) (fun σ4 => (m_seek_148 (Int32.ofInt 0) σ4).bind (fun p6 => some (p6.1, p6.2)))) else (aget (σ.2 70) 26 i3).bind (fun x8 => (aput σ 71 26 i3 x8).bind (fun σ10 => (m_ask_139_l148 n) (i3 + Int32.ofInt 1) σ10))
def m_ask_139_l99 : Nat → Int32 → Int32 → qC → Option (Int32 × qC)
  | 0, _, _, _ => none
  | n + 1, i2, i3, σ => if i2 ≤ i3 then qlet (upS σ 6412 (Int32.ofInt 576)) (fun σ2 => qlet (upS σ2 6413 ((Int32.ofInt 576) + i2)) (fun σ4 => (m_number_140 σ4).bind (fun p6 => m_ask_139_l148 qF (Int32.ofInt 0) p6))) else (aget (σ.2 65) 48 i3).bind (fun x8 => (aput σ 66 624 ((Int32.ofInt 576) + i3) x8).bind (fun σ10 => (m_ask_139_l99 n) i2 (i3 + Int32.ofInt 1) σ10))
def m_ask_139 (σ : qC) : Option (Int32 × qC) := qlet (upS σ 6410 (Int32.ofInt 0)) (fun σ1 => (m_readGoals_137 σ1).bind (fun p3 => if p3.1 = 0 then qlet (upS p3.2 6409 (p3.2.1 6410)) (fun σ6 => qlet (upS σ6 6407 (Int32.ofInt 0)) (fun σ8 => (if p3.1 = 0 ∨ p3.1 = 1 then qlet (upS σ8 6438 p3.1) (fun σ11 => (m_bad_130 p3.1 σ11).bind (fun p13 => if p13.1 = 0 then qlet (upS p13.2 6435 (Int32.ofInt 0)) (fun σ16 => qlet (upS σ16 6434 (Int32.ofInt 0)) (fun σ18 => qlet (upS σ18 6433 (Int32.ofInt 0)) (fun σ20 => qlet (upS σ20 6432 (Int32.ofInt 0)) (fun σ22 => qlet (upS σ22 6431 (Int32.ofInt 0)) (fun σ24 => qlet (upS σ24 6430 (Int32.ofInt 0)) (fun σ26 => qlet (upS σ26 6428 (Int32.ofInt 0)) (fun σ28 => qlet (upS σ28 6427 (Int32.ofInt 0)) (fun σ30 => qlet (upS σ30 6426 (Int32.ofInt 0)) (fun σ32 => qlet (upS σ32 6425 (Int32.ofInt 0)) (fun σ34 => m_ask_139_l99 qF (σ6.1 6407) (Int32.ofInt 0) σ34)))))))))) else some (Int32.ofInt 0, p13.2))) else none))) else qlet (upS p3.2 6407 (Int32.ofInt 0)) (fun σ36 => (if p3.1 = 0 ∨ p3.1 = 1 then qlet (upS σ36 6438 p3.1) (fun σ39 => (m_bad_130 p3.1 σ39).bind (fun p41 => if p41.1 = 0 then qlet (upS p41.2 6435 (Int32.ofInt 0)) (fun σ44 => qlet (upS σ44 6434 (Int32.ofInt 0)) (fun σ46 => qlet (upS σ46 6433 (Int32.ofInt 0)) (fun σ48 => qlet (upS σ48 6432 (Int32.ofInt 0)) (fun σ50 => qlet (upS σ50 6431 (Int32.ofInt 0)) (fun σ52 => qlet (upS σ52 6430 (Int32.ofInt 0)) (fun σ54 => qlet (upS σ54 6428 (Int32.ofInt 0)) (fun σ56 => qlet (upS σ56 6427 (Int32.ofInt 0)) (fun σ58 => qlet (upS σ58 6426 (Int32.ofInt 0)) (fun σ60 => qlet (upS σ60 6425 (Int32.ofInt 0)) (fun σ62 => m_ask_139_l99 qF (p3.2.1 6407) (Int32.ofInt 0) σ62)))))))))) else some (Int32.ofInt 0, p41.2))) else none))))
theorem t_m_ask_139_l148 {S : Nat × (Nat → Int32)} {d : Nat} {x : qC} {y : Int64 × Nat} (hd : 18 ≤ d) : ∀ (n : Nat) {i3 : Int32} {σ : qC} {p : (Int32 × qC)}, m_ask_139_l148 n i3 σ = some p → qE S d jm_12_ask_139 (148, [(0, .ref 64), (3, .int i3)], [], (x, σ, y)) ((.inl (some (.int p.1)), (x, p.2, y))) := by
  have hd9 : 9 ≤ d := by omega
  intro n
  induction n with
  | zero =>
    intros
    rename_i h
    unfold m_ask_139_l148 at h
    cases h
  | succ n ih =>
    intro i3 σ p h
    unfold m_ask_139_l148 at h
    refine qE.steps 3 hd9 (s' := (if Int32.ofInt 26 ≤ i3 then 172 else 154, [(0, .ref 64), (3, .int i3)], [], (x, σ, y))) rfl ?_
    by_cases c1 : Int32.ofInt 26 ≤ i3
    · rw [if_pos c1] at h
      rw [if_pos c1]
      refine qE.steps 4 hd9 (s' := (176, [(0, .ref 64), (3, .int i3)], [.int (Int32.ofInt (-1)), .int (Int32.ofInt 0), .ref 64, .ref 64], (x, σ, y))) rfl ?_
      obtain ⟨p2, e3, h⟩ := obind h
      refine qE.call hd9 rfl rfl rfl rfl (t_m_buildGoals_142 (by omega) e3) ?_
      refine qE.steps 0 hd9 (s' := (179, [(0, .ref 64), (3, .int i3)], [.int p2.1, .ref 64], (x, p2.2, y))) rfl ?_
      obtain ⟨σ4, e5, h⟩ := qlet_ex h
      refine qE.steps 1 hd9 (s' := (182, [(0, .ref 64), (3, .int i3)], [], (x, σ4, y))) (by subst e5; rfl) ?_
      refine qE.steps 2 hd9 (s' := (184, [(0, .ref 64), (3, .int i3)], [.int (Int32.ofInt 0), .ref 64], (x, σ4, y))) rfl ?_
      obtain ⟨p6, e7, h⟩ := obind h
      refine qE.call hd9 rfl rfl rfl rfl (t_m_seek_148 (by omega) e7) ?_
      refine qE.steps 0 hd9 (s' := (187, [(0, .ref 64), (3, .int i3)], [.int p6.1], (x, p6.2, y))) rfl ?_
      obtain rfl := Option.some.inj h
      exact qE.ret hd9 rfl rfl
    · rw [if_neg c1] at h
      rw [if_neg c1]
      refine qE.steps 6 hd9 (s' := (164, [(0, .ref 64), (3, .int i3)], [.int i3, .ref 70, .int i3, .ref 71], (x, σ, y))) rfl ?_
      obtain ⟨x8, e9, h⟩ := obind h
      refine qE.iald hd9 e9 rfl rfl ?_
      obtain ⟨σ10, e11, h⟩ := obind h
      refine qE.iastM hd9 e11 rfl rfl ?_
      refine qE.steps 2 hd9 (s' := (148, [(3, .int (i3 + Int32.ofInt 1)), (0, .ref 64)], [], (x, σ10, y))) rfl ?_
      exact qE.wk (ih h) ⟨rfl, rfl, trivial⟩ rfl
theorem t_m_ask_139_l99 {S : Nat × (Nat → Int32)} {d : Nat} {x : qC} {y : Int64 × Nat} (hd : 18 ≤ d) : ∀ (n : Nat) {i2 : Int32} {i3 : Int32} {σ : qC} {p : (Int32 × qC)}, m_ask_139_l99 n i2 i3 σ = some p → qE S d jm_12_ask_139 (99, [(0, .ref 64), (2, .int i2), (3, .int i3)], [], (x, σ, y)) ((.inl (some (.int p.1)), (x, p.2, y))) := by
  have hd9 : 9 ≤ d := by omega
  intro n
  induction n with
  | zero =>
    intros
    rename_i h
    unfold m_ask_139_l99 at h
    cases h
  | succ n ih =>
    intro i2 i3 σ p h
    unfold m_ask_139_l99 at h
    refine qE.steps 3 hd9 (s' := (if i2 ≤ i3 then 126 else 104, [(0, .ref 64), (2, .int i2), (3, .int i3)], [], (x, σ, y))) rfl ?_
    by_cases c1 : i2 ≤ i3
    · rw [if_pos c1] at h
      rw [if_pos c1]
      obtain ⟨σ2, e3, h⟩ := qlet_ex h
      refine qE.steps 3 hd9 (s' := (133, [(0, .ref 64), (2, .int i2), (3, .int i3)], [], (x, σ2, y))) (by subst e3; rfl) ?_
      obtain ⟨σ4, e5, h⟩ := qlet_ex h
      refine qE.steps 5 hd9 (s' := (142, [(0, .ref 64), (2, .int i2), (3, .int i3)], [], (x, σ4, y))) (by subst e5; rfl) ?_
      refine qE.steps 1 hd9 (s' := (143, [(0, .ref 64), (2, .int i2), (3, .int i3)], [.ref 64], (x, σ4, y))) rfl ?_
      obtain ⟨p6, e7, h⟩ := obind h
      refine qE.call hd9 rfl rfl rfl rfl (t_m_number_140 (by omega) e7) ?_
      refine qE.steps 0 hd9 (s' := (146, [(0, .ref 64), (2, .int i2), (3, .int i3)], [], (x, p6, y))) rfl ?_
      refine qE.steps 2 hd9 (s' := (148, [(3, .int (Int32.ofInt 0)), (0, .ref 64), (2, .int i2)], [], (x, p6, y))) rfl ?_
      exact qE.wk (t_m_ask_139_l148 hd qF h) ⟨rfl, rfl, trivial⟩ rfl
    · rw [if_neg c1] at h
      rw [if_neg c1]
      refine qE.steps 8 hd9 (s' := (118, [(0, .ref 64), (2, .int i2), (3, .int i3)], [.int i3, .ref 65, .int ((Int32.ofInt 576) + i3), .ref 66], (x, σ, y))) rfl ?_
      obtain ⟨x8, e9, h⟩ := obind h
      refine qE.iald hd9 e9 rfl rfl ?_
      obtain ⟨σ10, e11, h⟩ := obind h
      refine qE.iastM hd9 e11 rfl rfl ?_
      refine qE.steps 2 hd9 (s' := (99, [(3, .int (i3 + Int32.ofInt 1)), (0, .ref 64), (2, .int i2)], [], (x, σ10, y))) rfl ?_
      exact qE.wk (ih h) ⟨rfl, rfl, rfl, trivial⟩ rfl
theorem t_m_ask_139 {S : Nat × (Nat → Int32)} {d : Nat} {x : qC} {y : Int64 × Nat} {σ : qC} {p : (Int32 × qC)} (hd : 18 ≤ d) (h : m_ask_139 σ = some p) : qE S d jm_12_ask_139 (0, [(0, .ref 64)], [], (x, σ, y)) ((.inl (some (.int p.1)), (x, p.2, y))) := by
  have hd9 : 9 ≤ d := by omega
  unfold m_ask_139 at h
  obtain ⟨σ1, e2, h⟩ := qlet_ex h
  refine qE.steps 3 hd9 (s' := (5, [(0, .ref 64)], [], (x, σ1, y))) (by subst e2; rfl) ?_
  refine qE.steps 1 hd9 (s' := (6, [(0, .ref 64)], [.ref 64], (x, σ1, y))) rfl ?_
  obtain ⟨p3, e4, h⟩ := obind h
  refine qE.call hd9 rfl rfl rfl rfl (t_m_readGoals_137 (by omega) e4) ?_
  refine qE.steps 0 hd9 (s' := (9, [(0, .ref 64)], [.int p3.1], (x, p3.2, y))) rfl ?_
  refine qE.steps 3 hd9 (s' := (if ¬ (p3.1 = 0) then 22 else 14, [(1, .int p3.1), (0, .ref 64)], [], (x, p3.2, y))) rfl ?_
  by_cases c5 : p3.1 = 0
  · rw [if_pos c5] at h
    rw [if_neg (not_not_intro c5)]
    obtain ⟨σ6, e7, h⟩ := qlet_ex h
    refine qE.steps 4 hd9 (s' := (22, [(1, .int p3.1), (0, .ref 64)], [], (x, σ6, y))) (by subst e7; rfl) ?_
    obtain ⟨σ8, e9, h⟩ := qlet_ex h
    refine qE.steps 6 hd9 (s' := (32, [(2, .int (σ6.1 6407)), (1, .int p3.1), (0, .ref 64)], [], (x, σ8, y))) (by subst e9; rfl) ?_
    refine qE.steps 2 hd9 (s' := (34, [(2, .int (σ6.1 6407)), (1, .int p3.1), (0, .ref 64)], [.int p3.1, .ref 64], (x, σ8, y))) rfl ?_
    by_cases c10 : p3.1 = 0 ∨ p3.1 = 1
    case neg => rw [if_neg c10] at h; cases h
    rw [if_pos c10] at h
    obtain ⟨σ11, e12, h⟩ := qlet_ex h
    refine qE.hp (i := .putfield 177) (len := 3) (st' := []) (g' := (x, σ11, y)) hd9 rfl rfl rfl rfl (by rcases c10 with c10 | c10 <;> subst e12 <;> rw [c10] <;> rfl) ?_
    refine qE.steps 2 hd9 (s' := (39, [(2, .int (σ6.1 6407)), (1, .int p3.1), (0, .ref 64)], [.int p3.1, .ref 64], (x, σ11, y))) rfl ?_
    obtain ⟨p13, e14, h⟩ := obind h
    refine qE.call hd9 rfl rfl rfl rfl (t_m_bad_130 (by omega) e14) ?_
    refine qE.steps 0 hd9 (s' := (42, [(2, .int (σ6.1 6407)), (1, .int p3.1), (0, .ref 64)], [.int p13.1], (x, p13.2, y))) rfl ?_
    refine qE.steps 1 hd9 (s' := (if p13.1 = 0 then 47 else 45, [(2, .int (σ6.1 6407)), (1, .int p3.1), (0, .ref 64)], [], (x, p13.2, y))) rfl ?_
    by_cases c15 : p13.1 = 0
    · rw [if_pos c15] at h
      rw [if_pos c15]
      obtain ⟨σ16, e17, h⟩ := qlet_ex h
      refine qE.steps 13 hd9 (s' := (62, [(2, .int (σ6.1 6407)), (1, .int p3.1), (0, .ref 64)], [.int (Int32.ofInt 0), .ref 64, .ref 64, .ref 64, .ref 64, .ref 64, .ref 64, .ref 64, .ref 64, .ref 64], (x, σ16, y))) (by subst e17; rfl) ?_
      obtain ⟨σ18, e19, h⟩ := qlet_ex h
      refine qE.steps 2 hd9 (s' := (66, [(2, .int (σ6.1 6407)), (1, .int p3.1), (0, .ref 64)], [.int (Int32.ofInt 0), .ref 64, .ref 64, .ref 64, .ref 64, .ref 64, .ref 64, .ref 64, .ref 64], (x, σ18, y))) (by subst e19; rfl) ?_
      obtain ⟨σ20, e21, h⟩ := qlet_ex h
      refine qE.steps 2 hd9 (s' := (70, [(2, .int (σ6.1 6407)), (1, .int p3.1), (0, .ref 64)], [.int (Int32.ofInt 0), .ref 64, .ref 64, .ref 64, .ref 64, .ref 64, .ref 64, .ref 64], (x, σ20, y))) (by subst e21; rfl) ?_
      obtain ⟨σ22, e23, h⟩ := qlet_ex h
      refine qE.steps 2 hd9 (s' := (74, [(2, .int (σ6.1 6407)), (1, .int p3.1), (0, .ref 64)], [.int (Int32.ofInt 0), .ref 64, .ref 64, .ref 64, .ref 64, .ref 64, .ref 64], (x, σ22, y))) (by subst e23; rfl) ?_
      obtain ⟨σ24, e25, h⟩ := qlet_ex h
      refine qE.steps 2 hd9 (s' := (78, [(2, .int (σ6.1 6407)), (1, .int p3.1), (0, .ref 64)], [.int (Int32.ofInt 0), .ref 64, .ref 64, .ref 64, .ref 64, .ref 64], (x, σ24, y))) (by subst e25; rfl) ?_
      obtain ⟨σ26, e27, h⟩ := qlet_ex h
      refine qE.steps 2 hd9 (s' := (82, [(2, .int (σ6.1 6407)), (1, .int p3.1), (0, .ref 64)], [.int (Int32.ofInt 0), .ref 64, .ref 64, .ref 64, .ref 64], (x, σ26, y))) (by subst e27; rfl) ?_
      obtain ⟨σ28, e29, h⟩ := qlet_ex h
      refine qE.steps 2 hd9 (s' := (86, [(2, .int (σ6.1 6407)), (1, .int p3.1), (0, .ref 64)], [.int (Int32.ofInt 0), .ref 64, .ref 64, .ref 64], (x, σ28, y))) (by subst e29; rfl) ?_
      obtain ⟨σ30, e31, h⟩ := qlet_ex h
      refine qE.steps 2 hd9 (s' := (90, [(2, .int (σ6.1 6407)), (1, .int p3.1), (0, .ref 64)], [.int (Int32.ofInt 0), .ref 64, .ref 64], (x, σ30, y))) (by subst e31; rfl) ?_
      obtain ⟨σ32, e33, h⟩ := qlet_ex h
      refine qE.steps 2 hd9 (s' := (94, [(2, .int (σ6.1 6407)), (1, .int p3.1), (0, .ref 64)], [.int (Int32.ofInt 0), .ref 64], (x, σ32, y))) (by subst e33; rfl) ?_
      obtain ⟨σ34, e35, h⟩ := qlet_ex h
      refine qE.steps 1 hd9 (s' := (97, [(2, .int (σ6.1 6407)), (1, .int p3.1), (0, .ref 64)], [], (x, σ34, y))) (by subst e35; rfl) ?_
      refine qE.steps 2 hd9 (s' := (99, [(3, .int (Int32.ofInt 0)), (2, .int (σ6.1 6407)), (1, .int p3.1), (0, .ref 64)], [], (x, σ34, y))) rfl ?_
      exact qE.wk (t_m_ask_139_l99 hd qF h) ⟨rfl, rfl, rfl, trivial⟩ rfl
    · rw [if_neg c15] at h
      rw [if_neg c15]
      refine qE.steps 1 hd9 (s' := (46, [(2, .int (σ6.1 6407)), (1, .int p3.1), (0, .ref 64)], [.int (Int32.ofInt 0)], (x, p13.2, y))) rfl ?_
      obtain rfl := Option.some.inj h
      exact qE.ret hd9 rfl rfl
  · rw [if_neg c5] at h
    rw [if_pos c5]
    obtain ⟨σ36, e37, h⟩ := qlet_ex h
    refine qE.steps 6 hd9 (s' := (32, [(2, .int (p3.2.1 6407)), (1, .int p3.1), (0, .ref 64)], [], (x, σ36, y))) (by subst e37; rfl) ?_
    refine qE.steps 2 hd9 (s' := (34, [(2, .int (p3.2.1 6407)), (1, .int p3.1), (0, .ref 64)], [.int p3.1, .ref 64], (x, σ36, y))) rfl ?_
    by_cases c38 : p3.1 = 0 ∨ p3.1 = 1
    case neg => rw [if_neg c38] at h; cases h
    rw [if_pos c38] at h
    obtain ⟨σ39, e40, h⟩ := qlet_ex h
    refine qE.hp (i := .putfield 177) (len := 3) (st' := []) (g' := (x, σ39, y)) hd9 rfl rfl rfl rfl (by rcases c38 with c38 | c38 <;> subst e40 <;> rw [c38] <;> rfl) ?_
    refine qE.steps 2 hd9 (s' := (39, [(2, .int (p3.2.1 6407)), (1, .int p3.1), (0, .ref 64)], [.int p3.1, .ref 64], (x, σ39, y))) rfl ?_
    obtain ⟨p41, e42, h⟩ := obind h
    refine qE.call hd9 rfl rfl rfl rfl (t_m_bad_130 (by omega) e42) ?_
    refine qE.steps 0 hd9 (s' := (42, [(2, .int (p3.2.1 6407)), (1, .int p3.1), (0, .ref 64)], [.int p41.1], (x, p41.2, y))) rfl ?_
    refine qE.steps 1 hd9 (s' := (if p41.1 = 0 then 47 else 45, [(2, .int (p3.2.1 6407)), (1, .int p3.1), (0, .ref 64)], [], (x, p41.2, y))) rfl ?_
    by_cases c43 : p41.1 = 0
    · rw [if_pos c43] at h
      rw [if_pos c43]
      obtain ⟨σ44, e45, h⟩ := qlet_ex h
      refine qE.steps 13 hd9 (s' := (62, [(2, .int (p3.2.1 6407)), (1, .int p3.1), (0, .ref 64)], [.int (Int32.ofInt 0), .ref 64, .ref 64, .ref 64, .ref 64, .ref 64, .ref 64, .ref 64, .ref 64, .ref 64], (x, σ44, y))) (by subst e45; rfl) ?_
      obtain ⟨σ46, e47, h⟩ := qlet_ex h
      refine qE.steps 2 hd9 (s' := (66, [(2, .int (p3.2.1 6407)), (1, .int p3.1), (0, .ref 64)], [.int (Int32.ofInt 0), .ref 64, .ref 64, .ref 64, .ref 64, .ref 64, .ref 64, .ref 64, .ref 64], (x, σ46, y))) (by subst e47; rfl) ?_
      obtain ⟨σ48, e49, h⟩ := qlet_ex h
      refine qE.steps 2 hd9 (s' := (70, [(2, .int (p3.2.1 6407)), (1, .int p3.1), (0, .ref 64)], [.int (Int32.ofInt 0), .ref 64, .ref 64, .ref 64, .ref 64, .ref 64, .ref 64, .ref 64], (x, σ48, y))) (by subst e49; rfl) ?_
      obtain ⟨σ50, e51, h⟩ := qlet_ex h
      refine qE.steps 2 hd9 (s' := (74, [(2, .int (p3.2.1 6407)), (1, .int p3.1), (0, .ref 64)], [.int (Int32.ofInt 0), .ref 64, .ref 64, .ref 64, .ref 64, .ref 64, .ref 64], (x, σ50, y))) (by subst e51; rfl) ?_
      obtain ⟨σ52, e53, h⟩ := qlet_ex h
      refine qE.steps 2 hd9 (s' := (78, [(2, .int (p3.2.1 6407)), (1, .int p3.1), (0, .ref 64)], [.int (Int32.ofInt 0), .ref 64, .ref 64, .ref 64, .ref 64, .ref 64], (x, σ52, y))) (by subst e53; rfl) ?_
      obtain ⟨σ54, e55, h⟩ := qlet_ex h
      refine qE.steps 2 hd9 (s' := (82, [(2, .int (p3.2.1 6407)), (1, .int p3.1), (0, .ref 64)], [.int (Int32.ofInt 0), .ref 64, .ref 64, .ref 64, .ref 64], (x, σ54, y))) (by subst e55; rfl) ?_
      obtain ⟨σ56, e57, h⟩ := qlet_ex h
      refine qE.steps 2 hd9 (s' := (86, [(2, .int (p3.2.1 6407)), (1, .int p3.1), (0, .ref 64)], [.int (Int32.ofInt 0), .ref 64, .ref 64, .ref 64], (x, σ56, y))) (by subst e57; rfl) ?_
      obtain ⟨σ58, e59, h⟩ := qlet_ex h
      refine qE.steps 2 hd9 (s' := (90, [(2, .int (p3.2.1 6407)), (1, .int p3.1), (0, .ref 64)], [.int (Int32.ofInt 0), .ref 64, .ref 64], (x, σ58, y))) (by subst e59; rfl) ?_
      obtain ⟨σ60, e61, h⟩ := qlet_ex h
      refine qE.steps 2 hd9 (s' := (94, [(2, .int (p3.2.1 6407)), (1, .int p3.1), (0, .ref 64)], [.int (Int32.ofInt 0), .ref 64], (x, σ60, y))) (by subst e61; rfl) ?_
      obtain ⟨σ62, e63, h⟩ := qlet_ex h
      refine qE.steps 1 hd9 (s' := (97, [(2, .int (p3.2.1 6407)), (1, .int p3.1), (0, .ref 64)], [], (x, σ62, y))) (by subst e63; rfl) ?_
      refine qE.steps 2 hd9 (s' := (99, [(3, .int (Int32.ofInt 0)), (2, .int (p3.2.1 6407)), (1, .int p3.1), (0, .ref 64)], [], (x, σ62, y))) rfl ?_
      exact qE.wk (t_m_ask_139_l99 hd qF h) ⟨rfl, rfl, rfl, trivial⟩ rfl
    · rw [if_neg c43] at h
      rw [if_neg c43]
      refine qE.steps 1 hd9 (s' := (46, [(2, .int (p3.2.1 6407)), (1, .int p3.1), (0, .ref 64)], [.int (Int32.ofInt 0)], (x, p41.2, y))) rfl ?_
      obtain rfl := Option.some.inj h
      exact qE.ret hd9 rfl rfl
def m_next_168 (σ : qC) : Option (Int32 × qC) := qlet (upS σ 6411 (Int32.ofInt 0)) (fun σ1 => if σ1.1 6438 = 0 then (m_fail_131 (Int32.ofInt 1) σ1).bind (fun p4 => some (p4.1, p4.2)) else (m_seek_148 (Int32.ofInt 1) σ1).bind (fun p6 => if p6.2.1 6411 ≤ 0 then some (p6.1, p6.2) else qlet (upS p6.2 6411 ((p6.2.1 6411) - (Int32.ofInt 1))) (fun σ9 => some (p6.1, σ9))))
theorem t_m_next_168 {S : Nat × (Nat → Int32)} {d : Nat} {x : qC} {y : Int64 × Nat} {σ : qC} {p : (Int32 × qC)} (hd : 18 ≤ d) (h : m_next_168 σ = some p) : qE S d jm_12_next_168 (0, [(0, .ref 64)], [], (x, σ, y)) ((.inl (some (.int p.1)), (x, p.2, y))) := by
  have hd9 : 9 ≤ d := by omega
  unfold m_next_168 at h
  obtain ⟨σ1, e2, h⟩ := qlet_ex h
  refine qE.steps 3 hd9 (s' := (5, [(0, .ref 64)], [], (x, σ1, y))) (by subst e2; rfl) ?_
  refine qE.steps 3 hd9 (s' := (if ¬ (σ1.1 6438 = 0) then 18 else 12, [(0, .ref 64)], [], (x, σ1, y))) rfl ?_
  by_cases c3 : σ1.1 6438 = 0
  · rw [if_pos c3] at h
    rw [if_neg (not_not_intro c3)]
    refine qE.steps 2 hd9 (s' := (14, [(0, .ref 64)], [.int (Int32.ofInt 1), .ref 64], (x, σ1, y))) rfl ?_
    obtain ⟨p4, e5, h⟩ := obind h
    refine qE.call hd9 rfl rfl rfl rfl (t_m_fail_131 (by omega) e5) ?_
    refine qE.steps 0 hd9 (s' := (17, [(0, .ref 64)], [.int p4.1], (x, p4.2, y))) rfl ?_
    obtain rfl := Option.some.inj h
    exact qE.ret hd9 rfl rfl
  · rw [if_neg c3] at h
    rw [if_pos c3]
    refine qE.steps 2 hd9 (s' := (20, [(0, .ref 64)], [.int (Int32.ofInt 1), .ref 64], (x, σ1, y))) rfl ?_
    obtain ⟨p6, e7, h⟩ := obind h
    refine qE.call hd9 rfl rfl rfl rfl (t_m_seek_148 (by omega) e7) ?_
    refine qE.steps 0 hd9 (s' := (23, [(0, .ref 64)], [.int p6.1], (x, p6.2, y))) rfl ?_
    refine qE.steps 4 hd9 (s' := (if p6.2.1 6411 ≤ 0 then 41 else 31, [(1, .int p6.1), (0, .ref 64)], [], (x, p6.2, y))) rfl ?_
    by_cases c8 : p6.2.1 6411 ≤ 0
    · rw [if_pos c8] at h
      rw [if_pos c8]
      refine qE.steps 1 hd9 (s' := (42, [(1, .int p6.1), (0, .ref 64)], [.int p6.1], (x, p6.2, y))) rfl ?_
      obtain rfl := Option.some.inj h
      exact qE.ret hd9 rfl rfl
    · rw [if_neg c8] at h
      rw [if_neg c8]
      obtain ⟨σ9, e10, h⟩ := qlet_ex h
      refine qE.steps 6 hd9 (s' := (41, [(1, .int p6.1), (0, .ref 64)], [], (x, σ9, y))) (by subst e10; rfl) ?_
      refine qE.steps 1 hd9 (s' := (42, [(1, .int p6.1), (0, .ref 64)], [.int p6.1], (x, σ9, y))) rfl ?_
      obtain rfl := Option.some.inj h
      exact qE.ret hd9 rfl rfl
def m_put_171 (i1 : Int32) (σ : qC) : Option qC := if σ.1 6463 = Int32.ofInt 80 then some σ else (aput σ 103 80 (σ.1 6463) i1).bind (fun σ2 => qlet (upS σ2 6463 ((σ2.1 6463) + (Int32.ofInt 1))) (fun σ4 => some σ4))
theorem t_m_put_171 {S : Nat × (Nat → Int32)} {d : Nat} {x : qC} {y : Int64 × Nat} {i1 : Int32} {σ : qC} {p : qC} (hd : 9 ≤ d) (h : m_put_171 i1 σ = some p) : qE S d jm_12_put_171 (0, [(0, .ref 64), (1, .int i1)], [], (x, σ, y)) ((.inl none, (x, p, y))) := by
  have hd9 : 9 ≤ d := by omega
  unfold m_put_171 at h
  refine qE.steps 4 hd9 (s' := (if ¬ (σ.1 6463 = Int32.ofInt 80) then 10 else 9, [(0, .ref 64), (1, .int i1)], [], (x, σ, y))) rfl ?_
  by_cases c1 : σ.1 6463 = Int32.ofInt 80
  · rw [if_pos c1] at h
    rw [if_neg (not_not_intro c1)]
    obtain rfl := Option.some.inj h
    exact qE.ret hd9 rfl rfl
  · rw [if_neg c1] at h
    rw [if_pos c1]
    refine qE.steps 5 hd9 (s' := (19, [(0, .ref 64), (1, .int i1)], [.int i1, .int (σ.1 6463), .ref 103], (x, σ, y))) rfl ?_
    obtain ⟨σ2, e3, h⟩ := obind h
    refine qE.iastM hd9 e3 rfl rfl ?_
    obtain ⟨σ4, e5, h⟩ := qlet_ex h
    refine qE.steps 6 hd9 (s' := (30, [(0, .ref 64), (1, .int i1)], [], (x, σ4, y))) (by subst e5; rfl) ?_
    obtain rfl := Option.some.inj h
    exact qE.ret hd9 rfl rfl
def m_write_170_l125 (K14 : Int32 → qC → Option qC) : Nat → Int32 → Int32 → Int32 → qC → Option qC
  | 0, _, _, _, _ => none
  | n + 1, i2, i3, i4, σ => if i4 < 0 then K14 i2 σ else (aget (σ.2 74) 72000 ((i3 * (Int32.ofInt 3)) + i4)).bind (fun x2 => (aput σ 104 800 i2 x2).bind (fun σ4 => if i4 = 0 then (m_write_170_l125 K14 n) (i2 + Int32.ofInt 1) i3 (i4 + Int32.ofInt (-1)) σ4 else (aput σ4 104 800 (i2 + Int32.ofInt 1) (Int32.ofInt 100044)).bind (fun σ7 => (m_write_170_l125 K14 n) ((i2 + Int32.ofInt 1) + Int32.ofInt 1) i3 (i4 + Int32.ofInt (-1)) σ7)))
def m_write_170_l14 : Nat → Int32 → qC → Option qC
  | 0, _, _ => none
  | n + 1, i2, σ => if i2 ≤ 0 then some σ else if Int32.ofInt 80 ≤ σ.1 6463 then some σ else (aget (σ.2 104) 800 (i2 + Int32.ofInt (-1))).bind (fun x3 => if x3 < Int32.ofInt 100000 then (m_value_158 x3 σ).bind (fun p6 => if 0 ≤ p6 then (aget (σ.2 72) 24000 p6).bind (fun x9 => (m_put_171 x9 σ).bind (fun p11 => if p6 < 0 then (m_write_170_l14 n) (i2 + Int32.ofInt (-1)) p11 else (aget (p11.2 73) 24000 p6).bind (fun x14 => if x14 = 0 then (m_write_170_l14 n) (i2 + Int32.ofInt (-1)) p11 else (m_put_171 (Int32.ofInt 40) p11).bind (fun p17 => (aput p17 104 800 (i2 + Int32.ofInt (-1)) (Int32.ofInt 100041)).bind (fun σ19 => (aget (σ19.2 73) 24000 p6).bind (fun x21 => m_write_170_l125 (m_write_170_l14 n) qF ((i2 + Int32.ofInt (-1)) + Int32.ofInt 1) p6 (x21 - (Int32.ofInt 1)) σ19)))))) else (m_put_171 (Int32.ofInt 95) σ).bind (fun p23 => if p6 < 0 then (m_write_170_l14 n) (i2 + Int32.ofInt (-1)) p23 else (aget (p23.2 73) 24000 p6).bind (fun x26 => if x26 = 0 then (m_write_170_l14 n) (i2 + Int32.ofInt (-1)) p23 else (m_put_171 (Int32.ofInt 40) p23).bind (fun p29 => (aput p29 104 800 (i2 + Int32.ofInt (-1)) (Int32.ofInt 100041)).bind (fun σ31 => (aget (σ31.2 73) 24000 p6).bind (fun x33 => m_write_170_l125 (m_write_170_l14 n) qF ((i2 + Int32.ofInt (-1)) + Int32.ofInt 1) p6 (x33 - (Int32.ofInt 1)) σ31)))))) else (m_put_171 (x3 - (Int32.ofInt 100000)) σ).bind (fun p35 => (m_write_170_l14 n) (i2 + Int32.ofInt (-1)) p35))
def m_write_170 (i1 : Int32) (σ : qC) : Option qC := qlet (upS σ 6463 (Int32.ofInt 0)) (fun σ1 => (aput σ1 104 800 (Int32.ofInt 0) i1).bind (fun σ3 => m_write_170_l14 qF (Int32.ofInt 1) σ3))
theorem t_m_write_170_l125 {S : Nat × (Nat → Int32)} {d : Nat} {x : qC} {y : Int64 × Nat} (hd : 10 ≤ d) {K14 : Int32 → qC → Option qC} (hK14 : ∀ {i2 : Int32} {σ : qC} {p : qC}, K14 i2 σ = some p → qE S d jm_12_write_170 (14, [(0, .ref 64), (2, .int i2)], [], (x, σ, y)) ((.inl none, (x, p, y)))) : ∀ (n : Nat) {i2 : Int32} {i3 : Int32} {i4 : Int32} {σ : qC} {p : qC}, m_write_170_l125 K14 n i2 i3 i4 σ = some p → qE S d jm_12_write_170 (125, [(0, .ref 64), (2, .int i2), (3, .int i3), (4, .int i4)], [], (x, σ, y)) ((.inl none, (x, p, y))) := by
  have hd9 : 9 ≤ d := by omega
  intro n
  induction n with
  | zero =>
    intros
    rename_i h
    unfold m_write_170_l125 at h
    cases h
  | succ n ih =>
    intro i2 i3 i4 σ p h
    unfold m_write_170_l125 at h
    refine qE.steps 2 hd9 (s' := (if i4 < 0 then 176 else 130, [(0, .ref 64), (2, .int i2), (3, .int i3), (4, .int i4)], [], (x, σ, y))) rfl ?_
    by_cases c1 : i4 < 0
    · rw [if_pos c1] at h
      rw [if_pos c1]
      refine qE.steps 1 hd9 (s' := (14, [(0, .ref 64), (2, .int i2), (3, .int i3), (4, .int i4)], [], (x, σ, y))) rfl ?_
      exact qE.wk (hK14 h) ⟨rfl, rfl, trivial⟩ rfl
    · rw [if_neg c1] at h
      rw [if_neg c1]
      refine qE.steps 10 hd9 (s' := (145, [(0, .ref 64), (2, .int i2), (3, .int i3), (4, .int i4)], [.int ((i3 * (Int32.ofInt 3)) + i4), .ref 74, .int i2, .ref 104], (x, σ, y))) rfl ?_
      obtain ⟨x2, e3, h⟩ := obind h
      refine qE.iald hd9 e3 rfl rfl ?_
      obtain ⟨σ4, e5, h⟩ := obind h
      refine qE.iastM hd9 e5 rfl rfl ?_
      refine qE.steps 3 hd9 (s' := (if ¬ (i4 = 0) then 158 else 155, [(2, .int (i2 + Int32.ofInt 1)), (0, .ref 64), (3, .int i3), (4, .int i4)], [], (x, σ4, y))) rfl ?_
      by_cases c6 : i4 = 0
      · rw [if_pos c6] at h
        rw [if_neg (not_not_intro c6)]
        refine qE.steps 3 hd9 (s' := (125, [(4, .int (i4 + Int32.ofInt (-1))), (2, .int (i2 + Int32.ofInt 1)), (0, .ref 64), (3, .int i3)], [], (x, σ4, y))) rfl ?_
        exact qE.wk (ih h) ⟨rfl, rfl, rfl, rfl, trivial⟩ rfl
      · rw [if_neg c6] at h
        rw [if_pos c6]
        refine qE.steps 4 hd9 (s' := (166, [(2, .int (i2 + Int32.ofInt 1)), (0, .ref 64), (3, .int i3), (4, .int i4)], [.int (Int32.ofInt 100044), .int (i2 + Int32.ofInt 1), .ref 104], (x, σ4, y))) rfl ?_
        obtain ⟨σ7, e8, h⟩ := obind h
        refine qE.iastM hd9 e8 rfl rfl ?_
        refine qE.steps 3 hd9 (s' := (125, [(4, .int (i4 + Int32.ofInt (-1))), (2, .int ((i2 + Int32.ofInt 1) + Int32.ofInt 1)), (0, .ref 64), (3, .int i3)], [], (x, σ7, y))) rfl ?_
        exact qE.wk (ih h) ⟨rfl, rfl, rfl, rfl, trivial⟩ rfl
theorem t_m_write_170_l14 {S : Nat × (Nat → Int32)} {d : Nat} {x : qC} {y : Int64 × Nat} (hd : 10 ≤ d) : ∀ (n : Nat) {i2 : Int32} {σ : qC} {p : qC}, m_write_170_l14 n i2 σ = some p → qE S d jm_12_write_170 (14, [(0, .ref 64), (2, .int i2)], [], (x, σ, y)) ((.inl none, (x, p, y))) := by
  have hd9 : 9 ≤ d := by omega
  intro n
  induction n with
  | zero =>
    intros
    rename_i h
    unfold m_write_170_l14 at h
    cases h
  | succ n ih =>
    intro i2 σ p h
    unfold m_write_170_l14 at h
    refine qE.steps 2 hd9 (s' := (if i2 ≤ 0 then 179 else 18, [(0, .ref 64), (2, .int i2)], [], (x, σ, y))) rfl ?_
    by_cases c1 : i2 ≤ 0
    · rw [if_pos c1] at h
      rw [if_pos c1]
      obtain rfl := Option.some.inj h
      exact qE.ret hd9 rfl rfl
    · rw [if_neg c1] at h
      rw [if_neg c1]
      refine qE.steps 4 hd9 (s' := (if Int32.ofInt 80 ≤ σ.1 6463 then 179 else 27, [(0, .ref 64), (2, .int i2)], [], (x, σ, y))) rfl ?_
      by_cases c2 : Int32.ofInt 80 ≤ σ.1 6463
      · rw [if_pos c2] at h
        rw [if_pos c2]
        obtain rfl := Option.some.inj h
        exact qE.ret hd9 rfl rfl
      · rw [if_neg c2] at h
        rw [if_neg c2]
        refine qE.steps 4 hd9 (s' := (35, [(2, .int (i2 + Int32.ofInt (-1))), (0, .ref 64)], [.int (i2 + Int32.ofInt (-1)), .ref 104], (x, σ, y))) rfl ?_
        obtain ⟨x3, e4, h⟩ := obind h
        refine qE.iald hd9 e4 rfl rfl ?_
        refine qE.steps 4 hd9 (s' := (if x3 < Int32.ofInt 100000 then 56 else 44, [(3, .int x3), (2, .int (i2 + Int32.ofInt (-1))), (0, .ref 64)], [], (x, σ, y))) rfl ?_
        by_cases c5 : x3 < Int32.ofInt 100000
        · rw [if_pos c5] at h
          rw [if_pos c5]
          refine qE.steps 2 hd9 (s' := (58, [(3, .int x3), (2, .int (i2 + Int32.ofInt (-1))), (0, .ref 64)], [.int x3, .ref 64], (x, σ, y))) rfl ?_
          obtain ⟨p6, e7, h⟩ := obind h
          refine qE.call hd9 rfl rfl rfl rfl (t_m_value_158 (by omega) e7) ?_
          refine qE.steps 0 hd9 (s' := (61, [(3, .int x3), (2, .int (i2 + Int32.ofInt (-1))), (0, .ref 64)], [.int p6], (x, σ, y))) rfl ?_
          refine qE.steps 4 hd9 (s' := (if 0 ≤ p6 then 72 else 67, [(3, .int p6), (2, .int (i2 + Int32.ofInt (-1))), (0, .ref 64)], [.ref 64], (x, σ, y))) rfl ?_
          by_cases c8 : 0 ≤ p6
          · rw [if_pos c8] at h
            rw [if_pos c8]
            refine qE.steps 3 hd9 (s' := (77, [(3, .int p6), (2, .int (i2 + Int32.ofInt (-1))), (0, .ref 64)], [.int p6, .ref 72, .ref 64], (x, σ, y))) rfl ?_
            obtain ⟨x9, e10, h⟩ := obind h
            refine qE.iald hd9 e10 rfl rfl ?_
            obtain ⟨p11, e12, h⟩ := obind h
            refine qE.call hd9 rfl rfl rfl rfl (t_m_put_171 (by omega) e12) ?_
            refine qE.steps 0 hd9 (s' := (81, [(3, .int p6), (2, .int (i2 + Int32.ofInt (-1))), (0, .ref 64)], [], (x, p11, y))) rfl ?_
            refine qE.steps 2 hd9 (s' := (if p6 < 0 then 14 else 85, [(3, .int p6), (2, .int (i2 + Int32.ofInt (-1))), (0, .ref 64)], [], (x, p11, y))) rfl ?_
            by_cases c13 : p6 < 0
            · rw [if_pos c13] at h
              rw [if_pos c13]
              exact qE.wk (ih h) ⟨rfl, rfl, trivial⟩ rfl
            · rw [if_neg c13] at h
              rw [if_neg c13]
              refine qE.steps 3 hd9 (s' := (90, [(3, .int p6), (2, .int (i2 + Int32.ofInt (-1))), (0, .ref 64)], [.int p6, .ref 73], (x, p11, y))) rfl ?_
              obtain ⟨x14, e15, h⟩ := obind h
              refine qE.iald hd9 e15 rfl rfl ?_
              refine qE.steps 1 hd9 (s' := (if ¬ (x14 = 0) then 97 else 94, [(3, .int p6), (2, .int (i2 + Int32.ofInt (-1))), (0, .ref 64)], [], (x, p11, y))) rfl ?_
              by_cases c16 : x14 = 0
              · rw [if_pos c16] at h
                rw [if_neg (not_not_intro c16)]
                refine qE.steps 1 hd9 (s' := (14, [(3, .int p6), (2, .int (i2 + Int32.ofInt (-1))), (0, .ref 64)], [], (x, p11, y))) rfl ?_
                exact qE.wk (ih h) ⟨rfl, rfl, trivial⟩ rfl
              · rw [if_neg c16] at h
                rw [if_pos c16]
                refine qE.steps 2 hd9 (s' := (100, [(3, .int p6), (2, .int (i2 + Int32.ofInt (-1))), (0, .ref 64)], [.int (Int32.ofInt 40), .ref 64], (x, p11, y))) rfl ?_
                obtain ⟨p17, e18, h⟩ := obind h
                refine qE.call hd9 rfl rfl rfl rfl (t_m_put_171 (by omega) e18) ?_
                refine qE.steps 0 hd9 (s' := (103, [(3, .int p6), (2, .int (i2 + Int32.ofInt (-1))), (0, .ref 64)], [], (x, p17, y))) rfl ?_
                refine qE.steps 4 hd9 (s' := (111, [(3, .int p6), (2, .int (i2 + Int32.ofInt (-1))), (0, .ref 64)], [.int (Int32.ofInt 100041), .int (i2 + Int32.ofInt (-1)), .ref 104], (x, p17, y))) rfl ?_
                obtain ⟨σ19, e20, h⟩ := obind h
                refine qE.iastM hd9 e20 rfl rfl ?_
                refine qE.steps 4 hd9 (s' := (120, [(2, .int ((i2 + Int32.ofInt (-1)) + Int32.ofInt 1)), (3, .int p6), (0, .ref 64)], [.int p6, .ref 73], (x, σ19, y))) rfl ?_
                obtain ⟨x21, e22, h⟩ := obind h
                refine qE.iald hd9 e22 rfl rfl ?_
                refine qE.steps 3 hd9 (s' := (125, [(4, .int (x21 - (Int32.ofInt 1))), (2, .int ((i2 + Int32.ofInt (-1)) + Int32.ofInt 1)), (3, .int p6), (0, .ref 64)], [], (x, σ19, y))) rfl ?_
                exact qE.wk (t_m_write_170_l125 hd ih qF h) ⟨rfl, rfl, rfl, rfl, trivial⟩ rfl
          · rw [if_neg c8] at h
            rw [if_neg c8]
            refine qE.steps 2 hd9 (s' := (78, [(3, .int p6), (2, .int (i2 + Int32.ofInt (-1))), (0, .ref 64)], [.int (Int32.ofInt 95), .ref 64], (x, σ, y))) rfl ?_
            obtain ⟨p23, e24, h⟩ := obind h
            refine qE.call hd9 rfl rfl rfl rfl (t_m_put_171 (by omega) e24) ?_
            refine qE.steps 0 hd9 (s' := (81, [(3, .int p6), (2, .int (i2 + Int32.ofInt (-1))), (0, .ref 64)], [], (x, p23, y))) rfl ?_
            refine qE.steps 2 hd9 (s' := (if p6 < 0 then 14 else 85, [(3, .int p6), (2, .int (i2 + Int32.ofInt (-1))), (0, .ref 64)], [], (x, p23, y))) rfl ?_
            by_cases c25 : p6 < 0
            · rw [if_pos c25] at h
              rw [if_pos c25]
              exact qE.wk (ih h) ⟨rfl, rfl, trivial⟩ rfl
            · rw [if_neg c25] at h
              rw [if_neg c25]
              refine qE.steps 3 hd9 (s' := (90, [(3, .int p6), (2, .int (i2 + Int32.ofInt (-1))), (0, .ref 64)], [.int p6, .ref 73], (x, p23, y))) rfl ?_
              obtain ⟨x26, e27, h⟩ := obind h
              refine qE.iald hd9 e27 rfl rfl ?_
              refine qE.steps 1 hd9 (s' := (if ¬ (x26 = 0) then 97 else 94, [(3, .int p6), (2, .int (i2 + Int32.ofInt (-1))), (0, .ref 64)], [], (x, p23, y))) rfl ?_
              by_cases c28 : x26 = 0
              · rw [if_pos c28] at h
                rw [if_neg (not_not_intro c28)]
                refine qE.steps 1 hd9 (s' := (14, [(3, .int p6), (2, .int (i2 + Int32.ofInt (-1))), (0, .ref 64)], [], (x, p23, y))) rfl ?_
                exact qE.wk (ih h) ⟨rfl, rfl, trivial⟩ rfl
              · rw [if_neg c28] at h
                rw [if_pos c28]
                refine qE.steps 2 hd9 (s' := (100, [(3, .int p6), (2, .int (i2 + Int32.ofInt (-1))), (0, .ref 64)], [.int (Int32.ofInt 40), .ref 64], (x, p23, y))) rfl ?_
                obtain ⟨p29, e30, h⟩ := obind h
                refine qE.call hd9 rfl rfl rfl rfl (t_m_put_171 (by omega) e30) ?_
                refine qE.steps 0 hd9 (s' := (103, [(3, .int p6), (2, .int (i2 + Int32.ofInt (-1))), (0, .ref 64)], [], (x, p29, y))) rfl ?_
                refine qE.steps 4 hd9 (s' := (111, [(3, .int p6), (2, .int (i2 + Int32.ofInt (-1))), (0, .ref 64)], [.int (Int32.ofInt 100041), .int (i2 + Int32.ofInt (-1)), .ref 104], (x, p29, y))) rfl ?_
                obtain ⟨σ31, e32, h⟩ := obind h
                refine qE.iastM hd9 e32 rfl rfl ?_
                refine qE.steps 4 hd9 (s' := (120, [(2, .int ((i2 + Int32.ofInt (-1)) + Int32.ofInt 1)), (3, .int p6), (0, .ref 64)], [.int p6, .ref 73], (x, σ31, y))) rfl ?_
                obtain ⟨x33, e34, h⟩ := obind h
                refine qE.iald hd9 e34 rfl rfl ?_
                refine qE.steps 3 hd9 (s' := (125, [(4, .int (x33 - (Int32.ofInt 1))), (2, .int ((i2 + Int32.ofInt (-1)) + Int32.ofInt 1)), (3, .int p6), (0, .ref 64)], [], (x, σ31, y))) rfl ?_
                exact qE.wk (t_m_write_170_l125 hd ih qF h) ⟨rfl, rfl, rfl, rfl, trivial⟩ rfl
        · rw [if_neg c5] at h
          rw [if_neg c5]
          refine qE.steps 4 hd9 (s' := (50, [(3, .int x3), (2, .int (i2 + Int32.ofInt (-1))), (0, .ref 64)], [.int (x3 - (Int32.ofInt 100000)), .ref 64], (x, σ, y))) rfl ?_
          obtain ⟨p35, e36, h⟩ := obind h
          refine qE.call hd9 rfl rfl rfl rfl (t_m_put_171 (by omega) e36) ?_
          refine qE.steps 0 hd9 (s' := (53, [(3, .int x3), (2, .int (i2 + Int32.ofInt (-1))), (0, .ref 64)], [], (x, p35, y))) rfl ?_
          refine qE.steps 1 hd9 (s' := (14, [(3, .int x3), (2, .int (i2 + Int32.ofInt (-1))), (0, .ref 64)], [], (x, p35, y))) rfl ?_
          exact qE.wk (ih h) ⟨rfl, rfl, trivial⟩ rfl
theorem t_m_write_170 {S : Nat × (Nat → Int32)} {d : Nat} {x : qC} {y : Int64 × Nat} {i1 : Int32} {σ : qC} {p : qC} (hd : 10 ≤ d) (h : m_write_170 i1 σ = some p) : qE S d jm_12_write_170 (0, [(0, .ref 64), (1, .int i1)], [], (x, σ, y)) ((.inl none, (x, p, y))) := by
  have hd9 : 9 ≤ d := by omega
  unfold m_write_170 at h
  obtain ⟨σ1, e2, h⟩ := qlet_ex h
  refine qE.steps 5 hd9 (s' := (7, [(2, .int (Int32.ofInt 1)), (0, .ref 64), (1, .int i1)], [], (x, σ1, y))) (by subst e2; rfl) ?_
  refine qE.steps 4 hd9 (s' := (13, [(2, .int (Int32.ofInt 1)), (0, .ref 64), (1, .int i1)], [.int i1, .int (Int32.ofInt 0), .ref 104], (x, σ1, y))) rfl ?_
  obtain ⟨σ3, e4, h⟩ := obind h
  refine qE.iastM hd9 e4 rfl rfl ?_
  exact qE.wk (t_m_write_170_l14 hd qF h) ⟨rfl, rfl, trivial⟩ rfl
def m_letter_169 (i1 : Int32) (i2 : Int32) (σ : qC) : Option (Int32 × qC) := (m_bad_130 (m_in_129 i1 (Int32.ofInt 0) (Int32.ofInt 25)) σ).bind (fun p1 => if p1.1 = 0 then if p1.2.1 6438 = 0 then (m_fail_131 (Int32.ofInt 2) p1.2).bind (fun p5 => some (p5.1, p5.2)) else (aget (p1.2.2 71) 26 i1).bind (fun x7 => if 0 ≤ x7 then (aget (p1.2.2 71) 26 i1).bind (fun x10 => (m_write_170 ((Int32.ofInt (-1)) - x10) p1.2).bind (fun p12 => if i2 = Int32.ofInt (-1) then some (p12.1 6463, p12) else if m_in_129 i2 (Int32.ofInt 0) ((p12.1 6463) - (Int32.ofInt 1)) = 0 then (m_fail_131 (Int32.ofInt 2) p12).bind (fun p16 => some (p16.1, p16.2)) else (aget (p12.2 103) 80 i2).bind (fun x18 => some (x18, p12)))) else (m_fail_131 (Int32.ofInt 2) p1.2).bind (fun p20 => some (p20.1, p20.2))) else some (Int32.ofInt 0, p1.2))
theorem t_m_letter_169 {S : Nat × (Nat → Int32)} {d : Nat} {x : qC} {y : Int64 × Nat} {i1 : Int32} {i2 : Int32} {σ : qC} {p : (Int32 × qC)} (hd : 11 ≤ d) (h : m_letter_169 i1 i2 σ = some p) : qE S d jm_12_letter_169 (0, [(0, .ref 64), (1, .int i1), (2, .int i2)], [], (x, σ, y)) ((.inl (some (.int p.1)), (x, p.2, y))) := by
  have hd9 : 9 ≤ d := by omega
  unfold m_letter_169 at h
  refine qE.steps 4 hd9 (s' := (5, [(0, .ref 64), (1, .int i1), (2, .int i2)], [.int (Int32.ofInt 25), .int (Int32.ofInt 0), .int i1, .ref 64], (x, σ, y))) rfl ?_
  refine qE.call hd9 rfl rfl rfl rfl (t_m_in_129 (by omega) rfl) ?_
  refine qE.steps 0 hd9 (s' := (8, [(0, .ref 64), (1, .int i1), (2, .int i2)], [.int (m_in_129 i1 (Int32.ofInt 0) (Int32.ofInt 25)), .ref 64], (x, σ, y))) rfl ?_
  obtain ⟨p1, e2, h⟩ := obind h
  refine qE.call hd9 rfl rfl rfl rfl (t_m_bad_130 (by omega) e2) ?_
  refine qE.steps 0 hd9 (s' := (11, [(0, .ref 64), (1, .int i1), (2, .int i2)], [.int p1.1], (x, p1.2, y))) rfl ?_
  refine qE.steps 1 hd9 (s' := (if p1.1 = 0 then 16 else 14, [(0, .ref 64), (1, .int i1), (2, .int i2)], [], (x, p1.2, y))) rfl ?_
  by_cases c3 : p1.1 = 0
  · rw [if_pos c3] at h
    rw [if_pos c3]
    refine qE.steps 3 hd9 (s' := (if p1.2.1 6438 = 0 then 32 else 23, [(0, .ref 64), (1, .int i1), (2, .int i2)], [], (x, p1.2, y))) rfl ?_
    by_cases c4 : p1.2.1 6438 = 0
    · rw [if_pos c4] at h
      rw [if_pos c4]
      refine qE.steps 2 hd9 (s' := (34, [(0, .ref 64), (1, .int i1), (2, .int i2)], [.int (Int32.ofInt 2), .ref 64], (x, p1.2, y))) rfl ?_
      obtain ⟨p5, e6, h⟩ := obind h
      refine qE.call hd9 rfl rfl rfl rfl (t_m_fail_131 (by omega) e6) ?_
      refine qE.steps 0 hd9 (s' := (37, [(0, .ref 64), (1, .int i1), (2, .int i2)], [.int p5.1], (x, p5.2, y))) rfl ?_
      obtain rfl := Option.some.inj h
      exact qE.ret hd9 rfl rfl
    · rw [if_neg c4] at h
      rw [if_neg c4]
      refine qE.steps 3 hd9 (s' := (28, [(0, .ref 64), (1, .int i1), (2, .int i2)], [.int i1, .ref 71], (x, p1.2, y))) rfl ?_
      obtain ⟨x7, e8, h⟩ := obind h
      refine qE.iald hd9 e8 rfl rfl ?_
      refine qE.steps 1 hd9 (s' := (if 0 ≤ x7 then 38 else 32, [(0, .ref 64), (1, .int i1), (2, .int i2)], [], (x, p1.2, y))) rfl ?_
      by_cases c9 : 0 ≤ x7
      · rw [if_pos c9] at h
        rw [if_pos c9]
        refine qE.steps 5 hd9 (s' := (45, [(0, .ref 64), (1, .int i1), (2, .int i2)], [.int i1, .ref 71, .int (Int32.ofInt (-1)), .ref 64], (x, p1.2, y))) rfl ?_
        obtain ⟨x10, e11, h⟩ := obind h
        refine qE.iald hd9 e11 rfl rfl ?_
        refine qE.steps 1 hd9 (s' := (47, [(0, .ref 64), (1, .int i1), (2, .int i2)], [.int ((Int32.ofInt (-1)) - x10), .ref 64], (x, p1.2, y))) rfl ?_
        obtain ⟨p12, e13, h⟩ := obind h
        refine qE.call hd9 rfl rfl rfl rfl (t_m_write_170 (by omega) e13) ?_
        refine qE.steps 0 hd9 (s' := (50, [(0, .ref 64), (1, .int i1), (2, .int i2)], [], (x, p12, y))) rfl ?_
        refine qE.steps 3 hd9 (s' := (if ¬ (i2 = Int32.ofInt (-1)) then 60 else 55, [(0, .ref 64), (1, .int i1), (2, .int i2)], [], (x, p12, y))) rfl ?_
        by_cases c14 : i2 = Int32.ofInt (-1)
        · rw [if_pos c14] at h
          rw [if_neg (not_not_intro c14)]
          refine qE.steps 2 hd9 (s' := (59, [(0, .ref 64), (1, .int i1), (2, .int i2)], [.int (p12.1 6463)], (x, p12, y))) rfl ?_
          obtain rfl := Option.some.inj h
          exact qE.ret hd9 rfl rfl
        · rw [if_neg c14] at h
          rw [if_pos c14]
          refine qE.steps 6 hd9 (s' := (68, [(0, .ref 64), (1, .int i1), (2, .int i2)], [.int ((p12.1 6463) - (Int32.ofInt 1)), .int (Int32.ofInt 0), .int i2], (x, p12, y))) rfl ?_
          refine qE.call hd9 rfl rfl rfl rfl (t_m_in_129 (by omega) rfl) ?_
          refine qE.steps 0 hd9 (s' := (71, [(0, .ref 64), (1, .int i1), (2, .int i2)], [.int (m_in_129 i2 (Int32.ofInt 0) ((p12.1 6463) - (Int32.ofInt 1)))], (x, p12, y))) rfl ?_
          refine qE.steps 1 hd9 (s' := (if m_in_129 i2 (Int32.ofInt 0) ((p12.1 6463) - (Int32.ofInt 1)) = 0 then 83 else 74, [(0, .ref 64), (1, .int i1), (2, .int i2)], [], (x, p12, y))) rfl ?_
          by_cases c15 : m_in_129 i2 (Int32.ofInt 0) ((p12.1 6463) - (Int32.ofInt 1)) = 0
          · rw [if_pos c15] at h
            rw [if_pos c15]
            refine qE.steps 2 hd9 (s' := (85, [(0, .ref 64), (1, .int i1), (2, .int i2)], [.int (Int32.ofInt 2), .ref 64], (x, p12, y))) rfl ?_
            obtain ⟨p16, e17, h⟩ := obind h
            refine qE.call hd9 rfl rfl rfl rfl (t_m_fail_131 (by omega) e17) ?_
            refine qE.steps 0 hd9 (s' := (88, [(0, .ref 64), (1, .int i1), (2, .int i2)], [.int p16.1], (x, p16.2, y))) rfl ?_
            obtain rfl := Option.some.inj h
            exact qE.ret hd9 rfl rfl
          · rw [if_neg c15] at h
            rw [if_neg c15]
            refine qE.steps 3 hd9 (s' := (79, [(0, .ref 64), (1, .int i1), (2, .int i2)], [.int i2, .ref 103], (x, p12, y))) rfl ?_
            obtain ⟨x18, e19, h⟩ := obind h
            refine qE.iald hd9 e19 rfl rfl ?_
            refine qE.steps 1 hd9 (s' := (88, [(0, .ref 64), (1, .int i1), (2, .int i2)], [.int x18], (x, p12, y))) rfl ?_
            obtain rfl := Option.some.inj h
            exact qE.ret hd9 rfl rfl
      · rw [if_neg c9] at h
        rw [if_neg c9]
        refine qE.steps 2 hd9 (s' := (34, [(0, .ref 64), (1, .int i1), (2, .int i2)], [.int (Int32.ofInt 2), .ref 64], (x, p1.2, y))) rfl ?_
        obtain ⟨p20, e21, h⟩ := obind h
        refine qE.call hd9 rfl rfl rfl rfl (t_m_fail_131 (by omega) e21) ?_
        refine qE.steps 0 hd9 (s' := (37, [(0, .ref 64), (1, .int i1), (2, .int i2)], [.int p20.1], (x, p20.2, y))) rfl ?_
        obtain rfl := Option.some.inj h
        exact qE.ret hd9 rfl rfl
  · rw [if_neg c3] at h
    rw [if_neg c3]
    refine qE.steps 1 hd9 (s' := (15, [(0, .ref 64), (1, .int i1), (2, .int i2)], [.int (Int32.ofInt 0)], (x, p1.2, y))) rfl ?_
    obtain rfl := Option.some.inj h
    exact qE.ret hd9 rfl rfl
