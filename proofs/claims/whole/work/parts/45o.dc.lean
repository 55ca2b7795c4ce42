/-! BY PROGRAM (wip/whole/gendc.py): each method as a function over the numbers -/
def m_same_156_l282 (K10 : qC → Option (Int32 × qC)) : Nat → Int32 → Int32 → Int32 → qC → Option (Int32 × qC)
  | 0, _, _, _, _ => none
  | n + 1, i1, i2, i3, σ => if i3 < 0 then K10 σ else (aget (σ.2 74) 72000 ((i1 * (Int32.ofInt 3)) + i3)).bind (fun x2 => (aget (σ.2 74) 72000 ((i2 * (Int32.ofInt 3)) + i3)).bind (fun x4 => (m_pair_154 x2 x4 σ).bind (fun p6 => (m_same_156_l282 K10 n) i1 i2 (i3 + Int32.ofInt (-1)) p6)))
def m_same_156_j166 (K10 : qC → Option (Int32 × qC)) (i1 : Int32) (i2 : Int32) (σ : qC) : Option (Int32 × qC) := if 0 ≤ i1 then (m_tie_159 ((Int32.ofInt (-1)) - i2) i1 σ).bind (fun p3 => if p3.1 6440 = 0 then (aget (p3.2 76) 13000 ((Int32.ofInt (-1)) - i2)).bind (fun x6 => if 0 ≤ x6 then (aget (p3.2 76) 13000 ((Int32.ofInt (-1)) - i2)).bind (fun x9 => (aput p3 92 600 (p3.1 6437) x9).bind (fun σ11 => qlet (upS σ11 6437 ((σ11.1 6437) + (Int32.ofInt 1))) (fun σ13 => K10 σ13))) else K10 p3) else K10 p3) else (m_tie_159 ((Int32.ofInt (-1)) - i1) i2 σ).bind (fun p16 => if p16.1 6440 = 0 then (aget (p16.2 76) 13000 ((Int32.ofInt (-1)) - i1)).bind (fun x19 => if 0 ≤ x19 then (aget (p16.2 76) 13000 ((Int32.ofInt (-1)) - i1)).bind (fun x22 => (aput p16 92 600 (p16.1 6437) x22).bind (fun σ24 => qlet (upS σ24 6437 ((σ24.1 6437) + (Int32.ofInt 1))) (fun σ26 => K10 σ26))) else K10 p16) else K10 p16)
def m_same_156_j271 (σ : qC) : Option (Int32 × qC) := some (Int32.ofInt 0, σ)
def m_same_156_l10 : Nat → qC → Option (Int32 × qC)
  | 0, _ => none
  | n + 1, σ => if σ.1 6436 ≤ 0 then some (Int32.ofInt 1, σ) else (m_step_157 σ).bind (fun p2 => if p2.1 = 0 then some (Int32.ofInt 0, p2.2) else qlet (upS p2.2 6436 ((p2.2.1 6436) - (Int32.ofInt 1))) (fun σ5 => (aget (σ5.2 90) 2200 (σ5.1 6436)).bind (fun x7 => (m_value_158 x7 σ5).bind (fun p9 => (aget (σ5.2 91) 2200 (σ5.1 6436)).bind (fun x11 => (m_value_158 x11 σ5).bind (fun p13 => if 0 ≤ p9 then if p9 < 0 then m_same_156_j166 (m_same_156_l10 n) p9 p13 σ5 else if 0 ≤ p13 then (aget (σ5.2 72) 24000 p9).bind (fun x18 => (aget (σ5.2 72) 24000 p13).bind (fun x20 => if x18 = x20 then (aget (σ5.2 73) 24000 p9).bind (fun x23 => (aget (σ5.2 73) 24000 p13).bind (fun x25 => if x23 = x25 then (aget (σ5.2 73) 24000 p9).bind (fun x28 => m_same_156_l282 (m_same_156_l10 n) qF p9 p13 (x28 - (Int32.ofInt 1)) σ5) else m_same_156_j271 σ5)) else m_same_156_j271 σ5)) else m_same_156_j166 (m_same_156_l10 n) p9 p13 σ5 else if 0 ≤ p13 then if p9 < 0 then m_same_156_j166 (m_same_156_l10 n) p9 p13 σ5 else (aget (σ5.2 72) 24000 p9).bind (fun x33 => (aget (σ5.2 72) 24000 p13).bind (fun x35 => if x33 = x35 then (aget (σ5.2 73) 24000 p9).bind (fun x38 => (aget (σ5.2 73) 24000 p13).bind (fun x40 => if x38 = x40 then (aget (σ5.2 73) 24000 p9).bind (fun x43 => m_same_156_l282 (m_same_156_l10 n) qF p9 p13 (x43 - (Int32.ofInt 1)) σ5) else m_same_156_j271 σ5)) else m_same_156_j271 σ5)) else if (Int32.ofInt (-1)) - p13 ≤ (Int32.ofInt (-1)) - p9 then if (Int32.ofInt (-1)) - p9 = (Int32.ofInt (-1)) - p13 then (m_same_156_l10 n) σ5 else (m_tie_159 ((Int32.ofInt (-1)) - p9) ((Int32.ofInt (-1)) - ((Int32.ofInt (-1)) - p13)) σ5).bind (fun p48 => if p48.1 6440 = 0 then (aget (p48.2 76) 13000 ((Int32.ofInt (-1)) - p9)).bind (fun x51 => (aget (p48.2 77) 13000 ((Int32.ofInt (-1)) - p9)).bind (fun x53 => (m_follow_161 ((Int32.ofInt (-1)) - p13) x51 x53 p48).bind (fun p55 => (m_same_156_l10 n) p55))) else (m_same_156_l10 n) p48) else if (Int32.ofInt (-1)) - p9 = (Int32.ofInt (-1)) - p13 then (m_same_156_l10 n) σ5 else (m_tie_159 ((Int32.ofInt (-1)) - p13) ((Int32.ofInt (-1)) - ((Int32.ofInt (-1)) - p9)) σ5).bind (fun p59 => if p59.1 6440 = 0 then (aget (p59.2 76) 13000 ((Int32.ofInt (-1)) - p13)).bind (fun x62 => (aget (p59.2 77) 13000 ((Int32.ofInt (-1)) - p13)).bind (fun x64 => (m_follow_161 ((Int32.ofInt (-1)) - p9) x62 x64 p59).bind (fun p66 => (m_same_156_l10 n) p66))) else (m_same_156_l10 n) p59)))))))
def m_same_156 (σ : qC) : Option (Int32 × qC) := qlet (upS σ 6439 (Int32.ofInt 0)) (fun σ1 => qlet (upS σ1 6437 (Int32.ofInt 0)) (fun σ3 => m_same_156_l10 qF σ3))
set_option maxRecDepth 20000 in
theorem t_m_same_156_l282 {S : Nat × (Nat → Int32)} {d : Nat} {x : qC} {y : Int64 × Nat} (hd : 11 ≤ d) {K10 : qC → Option (Int32 × qC)} (hK10 : ∀ {σ : qC} {p : (Int32 × qC)}, K10 σ = some p → qE S d jm_12_same_156 (10, [(0, .ref 64)], [], (x, σ, y)) ((.inl (some (.int p.1)), (x, p.2, y)))) : ∀ (n : Nat) {i1 : Int32} {i2 : Int32} {i3 : Int32} {σ : qC} {p : (Int32 × qC)}, m_same_156_l282 K10 n i1 i2 i3 σ = some p → qE S d jm_12_same_156 (282, [(0, .ref 64), (1, .int i1), (2, .int i2), (3, .int i3)], [], (x, σ, y)) ((.inl (some (.int p.1)), (x, p.2, y))) := by
  have hd9 : 9 ≤ d := by omega
  intro n
  induction n with
  | zero =>
    intros
    rename_i h
    unfold m_same_156_l282 at h
    cases h
  | succ n ih =>
    intro i1 i2 i3 σ p h
    unfold m_same_156_l282 at h
    refine qE.steps 2 hd9 (s' := (if i3 < 0 then 316 else 286, [(0, .ref 64), (1, .int i1), (2, .int i2), (3, .int i3)], [], (x, σ, y))) rfl ?_
    by_cases c1 : i3 < 0
    · rw [if_pos c1] at h
      rw [if_pos c1]
      refine qE.steps 1 hd9 (s' := (10, [(0, .ref 64), (1, .int i1), (2, .int i2), (3, .int i3)], [], (x, σ, y))) rfl ?_
      exact qE.wk (hK10 h) ⟨rfl, trivial⟩ rfl
    · rw [if_neg c1] at h
      rw [if_neg c1]
      refine qE.steps 8 hd9 (s' := (296, [(0, .ref 64), (1, .int i1), (2, .int i2), (3, .int i3)], [.int ((i1 * (Int32.ofInt 3)) + i3), .ref 74, .ref 64], (x, σ, y))) rfl ?_
      obtain ⟨x2, e3, h⟩ := obind h
      refine qE.iald hd9 e3 rfl rfl ?_
      refine qE.steps 7 hd9 (s' := (306, [(0, .ref 64), (1, .int i1), (2, .int i2), (3, .int i3)], [.int ((i2 * (Int32.ofInt 3)) + i3), .ref 74, .int x2, .ref 64], (x, σ, y))) rfl ?_
      obtain ⟨x4, e5, h⟩ := obind h
      refine qE.iald hd9 e5 rfl rfl ?_
      obtain ⟨p6, e7, h⟩ := obind h
      refine qE.call hd9 rfl rfl rfl rfl (t_m_pair_154 (by omega) e7) ?_
      refine qE.steps 0 hd9 (s' := (310, [(0, .ref 64), (1, .int i1), (2, .int i2), (3, .int i3)], [], (x, p6, y))) rfl ?_
      refine qE.steps 2 hd9 (s' := (282, [(3, .int (i3 + Int32.ofInt (-1))), (0, .ref 64), (1, .int i1), (2, .int i2)], [], (x, p6, y))) rfl ?_
      exact qE.wk (ih h) ⟨rfl, rfl, rfl, rfl, trivial⟩ rfl
set_option maxRecDepth 20000 in
theorem t_m_same_156_j166 {S : Nat × (Nat → Int32)} {d : Nat} {x : qC} {y : Int64 × Nat} (hd : 11 ≤ d) {K10 : qC → Option (Int32 × qC)} (hK10 : ∀ {σ : qC} {p : (Int32 × qC)}, K10 σ = some p → qE S d jm_12_same_156 (10, [(0, .ref 64)], [], (x, σ, y)) ((.inl (some (.int p.1)), (x, p.2, y)))) {i1 : Int32} {i2 : Int32} {σ : qC} {p : (Int32 × qC)} (h : m_same_156_j166 K10 i1 i2 σ = some p) : qE S d jm_12_same_156 (166, [(0, .ref 64), (1, .int i1), (2, .int i2)], [], (x, σ, y)) ((.inl (some (.int p.1)), (x, p.2, y))) := by
  have hd9 : 9 ≤ d := by omega
  unfold m_same_156_j166 at h
  refine qE.steps 2 hd9 (s' := (if 0 ≤ i1 then 176 else 170, [(0, .ref 64), (1, .int i1), (2, .int i2)], [], (x, σ, y))) rfl ?_
  by_cases c1 : 0 ≤ i1
  · rw [if_pos c1] at h
    rw [if_pos c1]
    refine qE.steps 8 hd9 (s' := (if 0 ≤ i1 then 190 else 186, [(3, .int ((Int32.ofInt (-1)) - i2)), (0, .ref 64), (1, .int i1), (2, .int i2)], [.int ((Int32.ofInt (-1)) - i2), .ref 64], (x, σ, y))) rfl ?_
    rw [if_pos c1]
    refine qE.steps 1 hd9 (s' := (191, [(3, .int ((Int32.ofInt (-1)) - i2)), (0, .ref 64), (1, .int i1), (2, .int i2)], [.int i1, .int ((Int32.ofInt (-1)) - i2), .ref 64], (x, σ, y))) rfl ?_
    obtain ⟨p3, e4, h⟩ := obind h
    refine qE.call hd9 rfl rfl rfl rfl (t_m_tie_159 (by omega) e4) ?_
    refine qE.steps 0 hd9 (s' := (194, [(3, .int ((Int32.ofInt (-1)) - i2)), (0, .ref 64), (1, .int i1), (2, .int i2)], [], (x, p3, y))) rfl ?_
    refine qE.steps 3 hd9 (s' := (if ¬ (p3.1 6440 = 0) then 10 else 201, [(3, .int ((Int32.ofInt (-1)) - i2)), (0, .ref 64), (1, .int i1), (2, .int i2)], [], (x, p3, y))) rfl ?_
    by_cases c5 : p3.1 6440 = 0
    · rw [if_pos c5] at h
      rw [if_neg (not_not_intro c5)]
      refine qE.steps 3 hd9 (s' := (206, [(3, .int ((Int32.ofInt (-1)) - i2)), (0, .ref 64), (1, .int i1), (2, .int i2)], [.int ((Int32.ofInt (-1)) - i2), .ref 76], (x, p3, y))) rfl ?_
      obtain ⟨x6, e7, h⟩ := obind h
      refine qE.iald hd9 e7 rfl rfl ?_
      refine qE.steps 1 hd9 (s' := (if 0 ≤ x6 then 213 else 210, [(3, .int ((Int32.ofInt (-1)) - i2)), (0, .ref 64), (1, .int i1), (2, .int i2)], [], (x, p3, y))) rfl ?_
      by_cases c8 : 0 ≤ x6
      · rw [if_pos c8] at h
        rw [if_pos c8]
        refine qE.steps 7 hd9 (s' := (226, [(3, .int ((Int32.ofInt (-1)) - i2)), (0, .ref 64), (1, .int i1), (2, .int i2)], [.int ((Int32.ofInt (-1)) - i2), .ref 76, .int (p3.1 6437), .ref 92], (x, p3, y))) rfl ?_
        obtain ⟨x9, e10, h⟩ := obind h
        refine qE.iald hd9 e10 rfl rfl ?_
        obtain ⟨σ11, e12, h⟩ := obind h
        refine qE.iastM hd9 e12 rfl rfl ?_
        obtain ⟨σ13, e14, h⟩ := qlet_ex h
        refine qE.steps 6 hd9 (s' := (238, [(3, .int ((Int32.ofInt (-1)) - i2)), (0, .ref 64), (1, .int i1), (2, .int i2)], [], (x, σ13, y))) (by subst e14; rfl) ?_
        refine qE.steps 2 hd9 (s' := (10, [(3, .int ((Int32.ofInt (-1)) - i2)), (0, .ref 64), (1, .int i1), (2, .int i2)], [], (x, σ13, y))) rfl ?_
        exact qE.wk (hK10 h) ⟨rfl, trivial⟩ rfl
      · rw [if_neg c8] at h
        rw [if_neg c8]
        refine qE.steps 1 hd9 (s' := (10, [(3, .int ((Int32.ofInt (-1)) - i2)), (0, .ref 64), (1, .int i1), (2, .int i2)], [], (x, p3, y))) rfl ?_
        exact qE.wk (hK10 h) ⟨rfl, trivial⟩ rfl
    · rw [if_neg c5] at h
      rw [if_pos c5]
      exact qE.wk (hK10 h) ⟨rfl, trivial⟩ rfl
  · rw [if_neg c1] at h
    rw [if_neg c1]
    refine qE.steps 9 hd9 (s' := (if 0 ≤ i1 then 190 else 186, [(3, .int ((Int32.ofInt (-1)) - i1)), (0, .ref 64), (1, .int i1), (2, .int i2)], [.int ((Int32.ofInt (-1)) - i1), .ref 64], (x, σ, y))) rfl ?_
    rw [if_neg c1]
    refine qE.steps 2 hd9 (s' := (191, [(3, .int ((Int32.ofInt (-1)) - i1)), (0, .ref 64), (1, .int i1), (2, .int i2)], [.int i2, .int ((Int32.ofInt (-1)) - i1), .ref 64], (x, σ, y))) rfl ?_
    obtain ⟨p16, e17, h⟩ := obind h
    refine qE.call hd9 rfl rfl rfl rfl (t_m_tie_159 (by omega) e17) ?_
    refine qE.steps 0 hd9 (s' := (194, [(3, .int ((Int32.ofInt (-1)) - i1)), (0, .ref 64), (1, .int i1), (2, .int i2)], [], (x, p16, y))) rfl ?_
    refine qE.steps 3 hd9 (s' := (if ¬ (p16.1 6440 = 0) then 10 else 201, [(3, .int ((Int32.ofInt (-1)) - i1)), (0, .ref 64), (1, .int i1), (2, .int i2)], [], (x, p16, y))) rfl ?_
    by_cases c18 : p16.1 6440 = 0
    · rw [if_pos c18] at h
      rw [if_neg (not_not_intro c18)]
      refine qE.steps 3 hd9 (s' := (206, [(3, .int ((Int32.ofInt (-1)) - i1)), (0, .ref 64), (1, .int i1), (2, .int i2)], [.int ((Int32.ofInt (-1)) - i1), .ref 76], (x, p16, y))) rfl ?_
      obtain ⟨x19, e20, h⟩ := obind h
      refine qE.iald hd9 e20 rfl rfl ?_
      refine qE.steps 1 hd9 (s' := (if 0 ≤ x19 then 213 else 210, [(3, .int ((Int32.ofInt (-1)) - i1)), (0, .ref 64), (1, .int i1), (2, .int i2)], [], (x, p16, y))) rfl ?_
      by_cases c21 : 0 ≤ x19
      · rw [if_pos c21] at h
        rw [if_pos c21]
        refine qE.steps 7 hd9 (s' := (226, [(3, .int ((Int32.ofInt (-1)) - i1)), (0, .ref 64), (1, .int i1), (2, .int i2)], [.int ((Int32.ofInt (-1)) - i1), .ref 76, .int (p16.1 6437), .ref 92], (x, p16, y))) rfl ?_
        obtain ⟨x22, e23, h⟩ := obind h
        refine qE.iald hd9 e23 rfl rfl ?_
        obtain ⟨σ24, e25, h⟩ := obind h
        refine qE.iastM hd9 e25 rfl rfl ?_
        obtain ⟨σ26, e27, h⟩ := qlet_ex h
        refine qE.steps 6 hd9 (s' := (238, [(3, .int ((Int32.ofInt (-1)) - i1)), (0, .ref 64), (1, .int i1), (2, .int i2)], [], (x, σ26, y))) (by subst e27; rfl) ?_
        refine qE.steps 2 hd9 (s' := (10, [(3, .int ((Int32.ofInt (-1)) - i1)), (0, .ref 64), (1, .int i1), (2, .int i2)], [], (x, σ26, y))) rfl ?_
        exact qE.wk (hK10 h) ⟨rfl, trivial⟩ rfl
      · rw [if_neg c21] at h
        rw [if_neg c21]
        refine qE.steps 1 hd9 (s' := (10, [(3, .int ((Int32.ofInt (-1)) - i1)), (0, .ref 64), (1, .int i1), (2, .int i2)], [], (x, p16, y))) rfl ?_
        exact qE.wk (hK10 h) ⟨rfl, trivial⟩ rfl
    · rw [if_neg c18] at h
      rw [if_pos c18]
      exact qE.wk (hK10 h) ⟨rfl, trivial⟩ rfl
set_option maxRecDepth 20000 in
theorem t_m_same_156_j271 {S : Nat × (Nat → Int32)} {d : Nat} {x : qC} {y : Int64 × Nat} (hd : 11 ≤ d) {σ : qC} {p : (Int32 × qC)} (h : m_same_156_j271 σ = some p) : qE S d jm_12_same_156 (271, [], [], (x, σ, y)) ((.inl (some (.int p.1)), (x, p.2, y))) := by
  have hd9 : 9 ≤ d := by omega
  unfold m_same_156_j271 at h
  refine qE.steps 1 hd9 (s' := (272, [], [.int (Int32.ofInt 0)], (x, σ, y))) rfl ?_
  obtain rfl := Option.some.inj h
  exact qE.ret hd9 rfl rfl
set_option maxRecDepth 20000 in
theorem t_m_same_156_l10 {S : Nat × (Nat → Int32)} {d : Nat} {x : qC} {y : Int64 × Nat} (hd : 11 ≤ d) : ∀ (n : Nat) {σ : qC} {p : (Int32 × qC)}, m_same_156_l10 n σ = some p → qE S d jm_12_same_156 (10, [(0, .ref 64)], [], (x, σ, y)) ((.inl (some (.int p.1)), (x, p.2, y))) := by
  have hd9 : 9 ≤ d := by omega
  intro n
  induction n with
  | zero =>
    intros
    rename_i h
    unfold m_same_156_l10 at h
    cases h
  | succ n ih =>
    intro σ p h
    unfold m_same_156_l10 at h
    refine qE.steps 3 hd9 (s' := (if σ.1 6436 ≤ 0 then 319 else 17, [(0, .ref 64)], [], (x, σ, y))) rfl ?_
    by_cases c1 : σ.1 6436 ≤ 0
    · rw [if_pos c1] at h
      rw [if_pos c1]
      refine qE.steps 1 hd9 (s' := (320, [(0, .ref 64)], [.int (Int32.ofInt 1)], (x, σ, y))) rfl ?_
      obtain rfl := Option.some.inj h
      exact qE.ret hd9 rfl rfl
    · rw [if_neg c1] at h
      rw [if_neg c1]
      refine qE.steps 1 hd9 (s' := (18, [(0, .ref 64)], [.ref 64], (x, σ, y))) rfl ?_
      obtain ⟨p2, e3, h⟩ := obind h
      refine qE.call hd9 rfl rfl rfl rfl (t_m_step_157 (by omega) e3) ?_
      refine qE.steps 0 hd9 (s' := (21, [(0, .ref 64)], [.int p2.1], (x, p2.2, y))) rfl ?_
      refine qE.steps 1 hd9 (s' := (if ¬ (p2.1 = 0) then 26 else 24, [(0, .ref 64)], [], (x, p2.2, y))) rfl ?_
      by_cases c4 : p2.1 = 0
      · rw [if_pos c4] at h
        rw [if_neg (not_not_intro c4)]
        refine qE.steps 1 hd9 (s' := (25, [(0, .ref 64)], [.int (Int32.ofInt 0)], (x, p2.2, y))) rfl ?_
        obtain rfl := Option.some.inj h
        exact qE.ret hd9 rfl rfl
      · rw [if_neg c4] at h
        rw [if_pos c4]
        obtain ⟨σ5, e6, h⟩ := qlet_ex h
        refine qE.steps 6 hd9 (s' := (36, [(0, .ref 64)], [], (x, σ5, y))) (by subst e6; rfl) ?_
        refine qE.steps 5 hd9 (s' := (45, [(0, .ref 64)], [.int (σ5.1 6436), .ref 90, .ref 64], (x, σ5, y))) rfl ?_
        obtain ⟨x7, e8, h⟩ := obind h
        refine qE.iald hd9 e8 rfl rfl ?_
        obtain ⟨p9, e10, h⟩ := obind h
        refine qE.call hd9 rfl rfl rfl rfl (t_m_value_158 (by omega) e10) ?_
        refine qE.steps 0 hd9 (s' := (49, [(0, .ref 64)], [.int p9], (x, σ5, y))) rfl ?_
        refine qE.steps 6 hd9 (s' := (59, [(1, .int p9), (0, .ref 64)], [.int (σ5.1 6436), .ref 91, .ref 64], (x, σ5, y))) rfl ?_
        obtain ⟨x11, e12, h⟩ := obind h
        refine qE.iald hd9 e12 rfl rfl ?_
        obtain ⟨p13, e14, h⟩ := obind h
        refine qE.call hd9 rfl rfl rfl rfl (t_m_value_158 (by omega) e14) ?_
        refine qE.steps 0 hd9 (s' := (63, [(1, .int p9), (0, .ref 64)], [.int p13], (x, σ5, y))) rfl ?_
        refine qE.steps 3 hd9 (s' := (if 0 ≤ p9 then 158 else 68, [(2, .int p13), (1, .int p9), (0, .ref 64)], [], (x, σ5, y))) rfl ?_
        by_cases c15 : 0 ≤ p9
        · rw [if_pos c15] at h
          rw [if_pos c15]
          refine qE.steps 2 hd9 (s' := (if p9 < 0 then 166 else 162, [(2, .int p13), (1, .int p9), (0, .ref 64)], [], (x, σ5, y))) rfl ?_
          by_cases c16 : p9 < 0
          · rw [if_pos c16] at h
            rw [if_pos c16]
            exact qE.wk (t_m_same_156_j166 hd ih h) ⟨rfl, rfl, rfl, trivial⟩ rfl
          · rw [if_neg c16] at h
            rw [if_neg c16]
            refine qE.steps 2 hd9 (s' := (if 0 ≤ p13 then 241 else 166, [(2, .int p13), (1, .int p9), (0, .ref 64)], [], (x, σ5, y))) rfl ?_
            by_cases c17 : 0 ≤ p13
            · rw [if_pos c17] at h
              rw [if_pos c17]
              refine qE.steps 3 hd9 (s' := (246, [(2, .int p13), (1, .int p9), (0, .ref 64)], [.int p9, .ref 72], (x, σ5, y))) rfl ?_
              obtain ⟨x18, e19, h⟩ := obind h
              refine qE.iald hd9 e19 rfl rfl ?_
              refine qE.steps 3 hd9 (s' := (252, [(2, .int p13), (1, .int p9), (0, .ref 64)], [.int p13, .ref 72, .int x18], (x, σ5, y))) rfl ?_
              obtain ⟨x20, e21, h⟩ := obind h
              refine qE.iald hd9 e21 rfl rfl ?_
              refine qE.steps 1 hd9 (s' := (if ¬ (x18 = x20) then 271 else 256, [(2, .int p13), (1, .int p9), (0, .ref 64)], [], (x, σ5, y))) rfl ?_
              by_cases c22 : x18 = x20
              · rw [if_pos c22] at h
                rw [if_neg (not_not_intro c22)]
                refine qE.steps 3 hd9 (s' := (261, [(2, .int p13), (1, .int p9), (0, .ref 64)], [.int p9, .ref 73], (x, σ5, y))) rfl ?_
                obtain ⟨x23, e24, h⟩ := obind h
                refine qE.iald hd9 e24 rfl rfl ?_
                refine qE.steps 3 hd9 (s' := (267, [(2, .int p13), (1, .int p9), (0, .ref 64)], [.int p13, .ref 73, .int x23], (x, σ5, y))) rfl ?_
                obtain ⟨x25, e26, h⟩ := obind h
                refine qE.iald hd9 e26 rfl rfl ?_
                refine qE.steps 1 hd9 (s' := (if x23 = x25 then 273 else 271, [(2, .int p13), (1, .int p9), (0, .ref 64)], [], (x, σ5, y))) rfl ?_
                by_cases c27 : x23 = x25
                · rw [if_pos c27] at h
                  rw [if_pos c27]
                  refine qE.steps 3 hd9 (s' := (278, [(2, .int p13), (1, .int p9), (0, .ref 64)], [.int p9, .ref 73], (x, σ5, y))) rfl ?_
                  obtain ⟨x28, e29, h⟩ := obind h
                  refine qE.iald hd9 e29 rfl rfl ?_
                  refine qE.steps 3 hd9 (s' := (282, [(3, .int (x28 - (Int32.ofInt 1))), (2, .int p13), (1, .int p9), (0, .ref 64)], [], (x, σ5, y))) rfl ?_
                  exact qE.wk (t_m_same_156_l282 hd ih qF h) ⟨rfl, rfl, rfl, rfl, trivial⟩ rfl
                · rw [if_neg c27] at h
                  rw [if_neg c27]
                  exact qE.wk (t_m_same_156_j271 hd h) trivial rfl
              · rw [if_neg c22] at h
                rw [if_pos c22]
                exact qE.wk (t_m_same_156_j271 hd h) trivial rfl
            · rw [if_neg c17] at h
              rw [if_neg c17]
              exact qE.wk (t_m_same_156_j166 hd ih h) ⟨rfl, rfl, rfl, trivial⟩ rfl
        · rw [if_neg c15] at h
          rw [if_neg c15]
          refine qE.steps 2 hd9 (s' := (if 0 ≤ p13 then 158 else 72, [(2, .int p13), (1, .int p9), (0, .ref 64)], [], (x, σ5, y))) rfl ?_
          by_cases c30 : 0 ≤ p13
          · rw [if_pos c30] at h
            rw [if_pos c30]
            refine qE.steps 2 hd9 (s' := (if p9 < 0 then 166 else 162, [(2, .int p13), (1, .int p9), (0, .ref 64)], [], (x, σ5, y))) rfl ?_
            by_cases c31 : p9 < 0
            · rw [if_pos c31] at h
              rw [if_pos c31]
              exact qE.wk (t_m_same_156_j166 hd ih h) ⟨rfl, rfl, rfl, trivial⟩ rfl
            · rw [if_neg c31] at h
              rw [if_neg c31]
              refine qE.steps 2 hd9 (s' := (if 0 ≤ p13 then 241 else 166, [(2, .int p13), (1, .int p9), (0, .ref 64)], [], (x, σ5, y))) rfl ?_
              rw [if_pos c30]
              refine qE.steps 3 hd9 (s' := (246, [(2, .int p13), (1, .int p9), (0, .ref 64)], [.int p9, .ref 72], (x, σ5, y))) rfl ?_
              obtain ⟨x33, e34, h⟩ := obind h
              refine qE.iald hd9 e34 rfl rfl ?_
              refine qE.steps 3 hd9 (s' := (252, [(2, .int p13), (1, .int p9), (0, .ref 64)], [.int p13, .ref 72, .int x33], (x, σ5, y))) rfl ?_
              obtain ⟨x35, e36, h⟩ := obind h
              refine qE.iald hd9 e36 rfl rfl ?_
              refine qE.steps 1 hd9 (s' := (if ¬ (x33 = x35) then 271 else 256, [(2, .int p13), (1, .int p9), (0, .ref 64)], [], (x, σ5, y))) rfl ?_
              by_cases c37 : x33 = x35
              · rw [if_pos c37] at h
                rw [if_neg (not_not_intro c37)]
                refine qE.steps 3 hd9 (s' := (261, [(2, .int p13), (1, .int p9), (0, .ref 64)], [.int p9, .ref 73], (x, σ5, y))) rfl ?_
                obtain ⟨x38, e39, h⟩ := obind h
                refine qE.iald hd9 e39 rfl rfl ?_
                refine qE.steps 3 hd9 (s' := (267, [(2, .int p13), (1, .int p9), (0, .ref 64)], [.int p13, .ref 73, .int x38], (x, σ5, y))) rfl ?_
                obtain ⟨x40, e41, h⟩ := obind h
                refine qE.iald hd9 e41 rfl rfl ?_
                refine qE.steps 1 hd9 (s' := (if x38 = x40 then 273 else 271, [(2, .int p13), (1, .int p9), (0, .ref 64)], [], (x, σ5, y))) rfl ?_
                by_cases c42 : x38 = x40
                · rw [if_pos c42] at h
                  rw [if_pos c42]
                  refine qE.steps 3 hd9 (s' := (278, [(2, .int p13), (1, .int p9), (0, .ref 64)], [.int p9, .ref 73], (x, σ5, y))) rfl ?_
                  obtain ⟨x43, e44, h⟩ := obind h
                  refine qE.iald hd9 e44 rfl rfl ?_
                  refine qE.steps 3 hd9 (s' := (282, [(3, .int (x43 - (Int32.ofInt 1))), (2, .int p13), (1, .int p9), (0, .ref 64)], [], (x, σ5, y))) rfl ?_
                  exact qE.wk (t_m_same_156_l282 hd ih qF h) ⟨rfl, rfl, rfl, rfl, trivial⟩ rfl
                · rw [if_neg c42] at h
                  rw [if_neg c42]
                  exact qE.wk (t_m_same_156_j271 hd h) trivial rfl
              · rw [if_neg c37] at h
                rw [if_pos c37]
                exact qE.wk (t_m_same_156_j271 hd h) trivial rfl
          · rw [if_neg c30] at h
            rw [if_neg c30]
            refine qE.steps 11 hd9 (s' := (if (Int32.ofInt (-1)) - p13 ≤ (Int32.ofInt (-1)) - p9 then 91 else 87, [(4, .int ((Int32.ofInt (-1)) - p13)), (3, .int ((Int32.ofInt (-1)) - p9)), (2, .int p13), (1, .int p9), (0, .ref 64)], [], (x, σ5, y))) rfl ?_
            by_cases c45 : (Int32.ofInt (-1)) - p13 ≤ (Int32.ofInt (-1)) - p9
            · rw [if_pos c45] at h
              rw [if_pos c45]
              refine qE.steps 5 hd9 (s' := (if (Int32.ofInt (-1)) - p13 ≤ (Int32.ofInt (-1)) - p9 then 106 else 101, [(5, .int ((Int32.ofInt (-1)) - p13)), (4, .int ((Int32.ofInt (-1)) - p13)), (3, .int ((Int32.ofInt (-1)) - p9)), (2, .int p13), (1, .int p9), (0, .ref 64)], [], (x, σ5, y))) rfl ?_
              rw [if_pos c45]
              refine qE.steps 5 hd9 (s' := (if ¬ ((Int32.ofInt (-1)) - p9 = (Int32.ofInt (-1)) - p13) then 118 else 115, [(6, .int ((Int32.ofInt (-1)) - p9)), (5, .int ((Int32.ofInt (-1)) - p13)), (4, .int ((Int32.ofInt (-1)) - p13)), (3, .int ((Int32.ofInt (-1)) - p9)), (2, .int p13), (1, .int p9), (0, .ref 64)], [], (x, σ5, y))) rfl ?_
              by_cases c47 : (Int32.ofInt (-1)) - p9 = (Int32.ofInt (-1)) - p13
              · rw [if_pos c47] at h
                rw [if_neg (not_not_intro c47)]
                refine qE.steps 1 hd9 (s' := (10, [(6, .int ((Int32.ofInt (-1)) - p9)), (5, .int ((Int32.ofInt (-1)) - p13)), (4, .int ((Int32.ofInt (-1)) - p13)), (3, .int ((Int32.ofInt (-1)) - p9)), (2, .int p13), (1, .int p9), (0, .ref 64)], [], (x, σ5, y))) rfl ?_
                exact qE.wk (ih h) ⟨rfl, trivial⟩ rfl
              · rw [if_neg c47] at h
                rw [if_pos c47]
                refine qE.steps 5 hd9 (s' := (125, [(6, .int ((Int32.ofInt (-1)) - p9)), (5, .int ((Int32.ofInt (-1)) - p13)), (4, .int ((Int32.ofInt (-1)) - p13)), (3, .int ((Int32.ofInt (-1)) - p9)), (2, .int p13), (1, .int p9), (0, .ref 64)], [.int ((Int32.ofInt (-1)) - ((Int32.ofInt (-1)) - p13)), .int ((Int32.ofInt (-1)) - p9), .ref 64], (x, σ5, y))) rfl ?_
                obtain ⟨p48, e49, h⟩ := obind h
                refine qE.call hd9 rfl rfl rfl rfl (t_m_tie_159 (by omega) e49) ?_
                refine qE.steps 0 hd9 (s' := (128, [(6, .int ((Int32.ofInt (-1)) - p9)), (5, .int ((Int32.ofInt (-1)) - p13)), (4, .int ((Int32.ofInt (-1)) - p13)), (3, .int ((Int32.ofInt (-1)) - p9)), (2, .int p13), (1, .int p9), (0, .ref 64)], [], (x, p48, y))) rfl ?_
                refine qE.steps 3 hd9 (s' := (if ¬ (p48.1 6440 = 0) then 155 else 135, [(6, .int ((Int32.ofInt (-1)) - p9)), (5, .int ((Int32.ofInt (-1)) - p13)), (4, .int ((Int32.ofInt (-1)) - p13)), (3, .int ((Int32.ofInt (-1)) - p9)), (2, .int p13), (1, .int p9), (0, .ref 64)], [], (x, p48, y))) rfl ?_
                by_cases c50 : p48.1 6440 = 0
                · rw [if_pos c50] at h
                  rw [if_neg (not_not_intro c50)]
                  refine qE.steps 5 hd9 (s' := (144, [(6, .int ((Int32.ofInt (-1)) - p9)), (5, .int ((Int32.ofInt (-1)) - p13)), (4, .int ((Int32.ofInt (-1)) - p13)), (3, .int ((Int32.ofInt (-1)) - p9)), (2, .int p13), (1, .int p9), (0, .ref 64)], [.int ((Int32.ofInt (-1)) - p9), .ref 76, .int ((Int32.ofInt (-1)) - p13), .ref 64], (x, p48, y))) rfl ?_
                  obtain ⟨x51, e52, h⟩ := obind h
                  refine qE.iald hd9 e52 rfl rfl ?_
                  refine qE.steps 3 hd9 (s' := (151, [(6, .int ((Int32.ofInt (-1)) - p9)), (5, .int ((Int32.ofInt (-1)) - p13)), (4, .int ((Int32.ofInt (-1)) - p13)), (3, .int ((Int32.ofInt (-1)) - p9)), (2, .int p13), (1, .int p9), (0, .ref 64)], [.int ((Int32.ofInt (-1)) - p9), .ref 77, .int x51, .int ((Int32.ofInt (-1)) - p13), .ref 64], (x, p48, y))) rfl ?_
                  obtain ⟨x53, e54, h⟩ := obind h
                  refine qE.iald hd9 e54 rfl rfl ?_
                  obtain ⟨p55, e56, h⟩ := obind h
                  refine qE.call hd9 rfl rfl rfl rfl (t_m_follow_161 (by omega) e56) ?_
                  refine qE.steps 0 hd9 (s' := (155, [(6, .int ((Int32.ofInt (-1)) - p9)), (5, .int ((Int32.ofInt (-1)) - p13)), (4, .int ((Int32.ofInt (-1)) - p13)), (3, .int ((Int32.ofInt (-1)) - p9)), (2, .int p13), (1, .int p9), (0, .ref 64)], [], (x, p55, y))) rfl ?_
                  refine qE.steps 2 hd9 (s' := (10, [(6, .int ((Int32.ofInt (-1)) - p9)), (5, .int ((Int32.ofInt (-1)) - p13)), (4, .int ((Int32.ofInt (-1)) - p13)), (3, .int ((Int32.ofInt (-1)) - p9)), (2, .int p13), (1, .int p9), (0, .ref 64)], [], (x, p55, y))) rfl ?_
                  exact qE.wk (ih h) ⟨rfl, trivial⟩ rfl
                · rw [if_neg c50] at h
                  rw [if_pos c50]
                  refine qE.steps 2 hd9 (s' := (10, [(6, .int ((Int32.ofInt (-1)) - p9)), (5, .int ((Int32.ofInt (-1)) - p13)), (4, .int ((Int32.ofInt (-1)) - p13)), (3, .int ((Int32.ofInt (-1)) - p9)), (2, .int p13), (1, .int p9), (0, .ref 64)], [], (x, p48, y))) rfl ?_
                  exact qE.wk (ih h) ⟨rfl, trivial⟩ rfl
            · rw [if_neg c45] at h
              rw [if_neg c45]
              refine qE.steps 6 hd9 (s' := (if (Int32.ofInt (-1)) - p13 ≤ (Int32.ofInt (-1)) - p9 then 106 else 101, [(5, .int ((Int32.ofInt (-1)) - p9)), (4, .int ((Int32.ofInt (-1)) - p13)), (3, .int ((Int32.ofInt (-1)) - p9)), (2, .int p13), (1, .int p9), (0, .ref 64)], [], (x, σ5, y))) rfl ?_
              rw [if_neg c45]
              refine qE.steps 6 hd9 (s' := (if ¬ ((Int32.ofInt (-1)) - p9 = (Int32.ofInt (-1)) - p13) then 118 else 115, [(6, .int ((Int32.ofInt (-1)) - p13)), (5, .int ((Int32.ofInt (-1)) - p9)), (4, .int ((Int32.ofInt (-1)) - p13)), (3, .int ((Int32.ofInt (-1)) - p9)), (2, .int p13), (1, .int p9), (0, .ref 64)], [], (x, σ5, y))) rfl ?_
              by_cases c58 : (Int32.ofInt (-1)) - p9 = (Int32.ofInt (-1)) - p13
              · rw [if_pos c58] at h
                rw [if_neg (not_not_intro c58)]
                refine qE.steps 1 hd9 (s' := (10, [(6, .int ((Int32.ofInt (-1)) - p13)), (5, .int ((Int32.ofInt (-1)) - p9)), (4, .int ((Int32.ofInt (-1)) - p13)), (3, .int ((Int32.ofInt (-1)) - p9)), (2, .int p13), (1, .int p9), (0, .ref 64)], [], (x, σ5, y))) rfl ?_
                exact qE.wk (ih h) ⟨rfl, trivial⟩ rfl
              · rw [if_neg c58] at h
                rw [if_pos c58]
                refine qE.steps 5 hd9 (s' := (125, [(6, .int ((Int32.ofInt (-1)) - p13)), (5, .int ((Int32.ofInt (-1)) - p9)), (4, .int ((Int32.ofInt (-1)) - p13)), (3, .int ((Int32.ofInt (-1)) - p9)), (2, .int p13), (1, .int p9), (0, .ref 64)], [.int ((Int32.ofInt (-1)) - ((Int32.ofInt (-1)) - p9)), .int ((Int32.ofInt (-1)) - p13), .ref 64], (x, σ5, y))) rfl ?_
                obtain ⟨p59, e60, h⟩ := obind h
                refine qE.call hd9 rfl rfl rfl rfl (t_m_tie_159 (by omega) e60) ?_
                refine qE.steps 0 hd9 (s' := (128, [(6, .int ((Int32.ofInt (-1)) - p13)), (5, .int ((Int32.ofInt (-1)) - p9)), (4, .int ((Int32.ofInt (-1)) - p13)), (3, .int ((Int32.ofInt (-1)) - p9)), (2, .int p13), (1, .int p9), (0, .ref 64)], [], (x, p59, y))) rfl ?_
                refine qE.steps 3 hd9 (s' := (if ¬ (p59.1 6440 = 0) then 155 else 135, [(6, .int ((Int32.ofInt (-1)) - p13)), (5, .int ((Int32.ofInt (-1)) - p9)), (4, .int ((Int32.ofInt (-1)) - p13)), (3, .int ((Int32.ofInt (-1)) - p9)), (2, .int p13), (1, .int p9), (0, .ref 64)], [], (x, p59, y))) rfl ?_
                by_cases c61 : p59.1 6440 = 0
                · rw [if_pos c61] at h
                  rw [if_neg (not_not_intro c61)]
                  refine qE.steps 5 hd9 (s' := (144, [(6, .int ((Int32.ofInt (-1)) - p13)), (5, .int ((Int32.ofInt (-1)) - p9)), (4, .int ((Int32.ofInt (-1)) - p13)), (3, .int ((Int32.ofInt (-1)) - p9)), (2, .int p13), (1, .int p9), (0, .ref 64)], [.int ((Int32.ofInt (-1)) - p13), .ref 76, .int ((Int32.ofInt (-1)) - p9), .ref 64], (x, p59, y))) rfl ?_
                  obtain ⟨x62, e63, h⟩ := obind h
                  refine qE.iald hd9 e63 rfl rfl ?_
                  refine qE.steps 3 hd9 (s' := (151, [(6, .int ((Int32.ofInt (-1)) - p13)), (5, .int ((Int32.ofInt (-1)) - p9)), (4, .int ((Int32.ofInt (-1)) - p13)), (3, .int ((Int32.ofInt (-1)) - p9)), (2, .int p13), (1, .int p9), (0, .ref 64)], [.int ((Int32.ofInt (-1)) - p13), .ref 77, .int x62, .int ((Int32.ofInt (-1)) - p9), .ref 64], (x, p59, y))) rfl ?_
                  obtain ⟨x64, e65, h⟩ := obind h
                  refine qE.iald hd9 e65 rfl rfl ?_
                  obtain ⟨p66, e67, h⟩ := obind h
                  refine qE.call hd9 rfl rfl rfl rfl (t_m_follow_161 (by omega) e67) ?_
                  refine qE.steps 0 hd9 (s' := (155, [(6, .int ((Int32.ofInt (-1)) - p13)), (5, .int ((Int32.ofInt (-1)) - p9)), (4, .int ((Int32.ofInt (-1)) - p13)), (3, .int ((Int32.ofInt (-1)) - p9)), (2, .int p13), (1, .int p9), (0, .ref 64)], [], (x, p66, y))) rfl ?_
                  refine qE.steps 2 hd9 (s' := (10, [(6, .int ((Int32.ofInt (-1)) - p13)), (5, .int ((Int32.ofInt (-1)) - p9)), (4, .int ((Int32.ofInt (-1)) - p13)), (3, .int ((Int32.ofInt (-1)) - p9)), (2, .int p13), (1, .int p9), (0, .ref 64)], [], (x, p66, y))) rfl ?_
                  exact qE.wk (ih h) ⟨rfl, trivial⟩ rfl
                · rw [if_neg c61] at h
                  rw [if_pos c61]
                  refine qE.steps 2 hd9 (s' := (10, [(6, .int ((Int32.ofInt (-1)) - p13)), (5, .int ((Int32.ofInt (-1)) - p9)), (4, .int ((Int32.ofInt (-1)) - p13)), (3, .int ((Int32.ofInt (-1)) - p9)), (2, .int p13), (1, .int p9), (0, .ref 64)], [], (x, p59, y))) rfl ?_
                  exact qE.wk (ih h) ⟨rfl, trivial⟩ rfl
set_option maxRecDepth 20000 in
theorem t_m_same_156 {S : Nat × (Nat → Int32)} {d : Nat} {x : qC} {y : Int64 × Nat} {σ : qC} {p : (Int32 × qC)} (hd : 11 ≤ d) (h : m_same_156 σ = some p) : qE S d jm_12_same_156 (0, [(0, .ref 64)], [], (x, σ, y)) ((.inl (some (.int p.1)), (x, p.2, y))) := by
  have hd9 : 9 ≤ d := by omega
  unfold m_same_156 at h
  obtain ⟨σ1, e2, h⟩ := qlet_ex h
  refine qE.steps 3 hd9 (s' := (5, [(0, .ref 64)], [], (x, σ1, y))) (by subst e2; rfl) ?_
  obtain ⟨σ3, e4, h⟩ := qlet_ex h
  refine qE.steps 3 hd9 (s' := (10, [(0, .ref 64)], [], (x, σ3, y))) (by subst e4; rfl) ?_
  exact qE.wk (t_m_same_156_l10 hd qF h) ⟨rfl, trivial⟩ rfl
def m_undo_152_j104 (K0 : Int32 → qC → Option qC) (i1 : Int32) (i2 : Int32) (i3 : Int32) (i4 : Int32) (σ : qC) : Option qC := if i3 = Int32.ofInt 4 then (aput σ 89 600 i2 i4).bind (fun σ2 => K0 i1 σ2) else K0 i1 σ
def m_undo_152_j91 (K0 : Int32 → qC → Option qC) (i1 : Int32) (i2 : Int32) (i3 : Int32) (i4 : Int32) (σ : qC) : Option qC := if i3 = Int32.ofInt 3 then (aput σ 86 1200 i2 i4).bind (fun σ2 => m_undo_152_j104 K0 i1 i2 i3 i4 σ2) else m_undo_152_j104 K0 i1 i2 i3 i4 σ
def m_undo_152_j78 (K0 : Int32 → qC → Option qC) (i1 : Int32) (i2 : Int32) (i3 : Int32) (i4 : Int32) (σ : qC) : Option qC := if i3 = Int32.ofInt 2 then (aput σ 77 13000 i2 i4).bind (fun σ2 => m_undo_152_j91 K0 i1 i2 i3 i4 σ2) else m_undo_152_j91 K0 i1 i2 i3 i4 σ
def m_undo_152_j65 (K0 : Int32 → qC → Option qC) (i1 : Int32) (i2 : Int32) (i3 : Int32) (i4 : Int32) (σ : qC) : Option qC := if i3 = Int32.ofInt 1 then (aput σ 76 13000 i2 i4).bind (fun σ2 => m_undo_152_j78 K0 i1 i2 i3 i4 σ2) else m_undo_152_j78 K0 i1 i2 i3 i4 σ
def m_undo_152_l0 : Nat → Int32 → qC → Option qC
  | 0, _, _ => none
  | n + 1, i1, σ => if σ.1 6432 ≤ i1 then some σ else qlet (upS σ 6432 ((σ.1 6432) - (Int32.ofInt 1))) (fun σ2 => (aget (σ2.2 83) 6000 (σ2.1 6432)).bind (fun x4 => (aget (σ2.2 83) 6000 (σ2.1 6432)).bind (fun x6 => (aget (σ2.2 84) 6000 (σ2.1 6432)).bind (fun x8 => if x6 - x6 / (Int32.ofInt 5) * (Int32.ofInt 5) = 0 then (aput σ2 75 13000 (x4 / (Int32.ofInt 5)) x8).bind (fun σ11 => m_undo_152_j65 (m_undo_152_l0 n) i1 (x4 / (Int32.ofInt 5)) (x6 - x6 / (Int32.ofInt 5) * (Int32.ofInt 5)) x8 σ11) else m_undo_152_j65 (m_undo_152_l0 n) i1 (x4 / (Int32.ofInt 5)) (x6 - x6 / (Int32.ofInt 5) * (Int32.ofInt 5)) x8 σ2))))
def m_undo_152 (i1 : Int32) (σ : qC) : Option qC := m_undo_152_l0 qF i1 σ
set_option maxRecDepth 20000 in
theorem t_m_undo_152_j104 {S : Nat × (Nat → Int32)} {d : Nat} {x : qC} {y : Int64 × Nat} (hd : 9 ≤ d) {K0 : Int32 → qC → Option qC} (hK0 : ∀ {i1 : Int32} {σ : qC} {p : qC}, K0 i1 σ = some p → qE S d jm_12_undo_152 (0, [(0, .ref 64), (1, .int i1)], [], (x, σ, y)) ((.inl none, (x, p, y)))) {i1 : Int32} {i2 : Int32} {i3 : Int32} {i4 : Int32} {σ : qC} {p : qC} (h : m_undo_152_j104 K0 i1 i2 i3 i4 σ = some p) : qE S d jm_12_undo_152 (104, [(0, .ref 64), (1, .int i1), (2, .int i2), (3, .int i3), (4, .int i4)], [], (x, σ, y)) ((.inl none, (x, p, y))) := by
  have hd9 : 9 ≤ d := by omega
  unfold m_undo_152_j104 at h
  refine qE.steps 3 hd9 (s' := (if ¬ (i3 = Int32.ofInt 4) then 117 else 109, [(0, .ref 64), (1, .int i1), (2, .int i2), (3, .int i3), (4, .int i4)], [], (x, σ, y))) rfl ?_
  by_cases c1 : i3 = Int32.ofInt 4
  · rw [if_pos c1] at h
    rw [if_neg (not_not_intro c1)]
    refine qE.steps 4 hd9 (s' := (116, [(0, .ref 64), (1, .int i1), (2, .int i2), (3, .int i3), (4, .int i4)], [.int i4, .int i2, .ref 89], (x, σ, y))) rfl ?_
    obtain ⟨σ2, e3, h⟩ := obind h
    refine qE.iastM hd9 e3 rfl rfl ?_
    refine qE.steps 1 hd9 (s' := (0, [(0, .ref 64), (1, .int i1), (2, .int i2), (3, .int i3), (4, .int i4)], [], (x, σ2, y))) rfl ?_
    exact qE.wk (hK0 h) ⟨rfl, rfl, trivial⟩ rfl
  · rw [if_neg c1] at h
    rw [if_pos c1]
    refine qE.steps 1 hd9 (s' := (0, [(0, .ref 64), (1, .int i1), (2, .int i2), (3, .int i3), (4, .int i4)], [], (x, σ, y))) rfl ?_
    exact qE.wk (hK0 h) ⟨rfl, rfl, trivial⟩ rfl
set_option maxRecDepth 20000 in
theorem t_m_undo_152_j91 {S : Nat × (Nat → Int32)} {d : Nat} {x : qC} {y : Int64 × Nat} (hd : 9 ≤ d) {K0 : Int32 → qC → Option qC} (hK0 : ∀ {i1 : Int32} {σ : qC} {p : qC}, K0 i1 σ = some p → qE S d jm_12_undo_152 (0, [(0, .ref 64), (1, .int i1)], [], (x, σ, y)) ((.inl none, (x, p, y)))) {i1 : Int32} {i2 : Int32} {i3 : Int32} {i4 : Int32} {σ : qC} {p : qC} (h : m_undo_152_j91 K0 i1 i2 i3 i4 σ = some p) : qE S d jm_12_undo_152 (91, [(0, .ref 64), (1, .int i1), (2, .int i2), (3, .int i3), (4, .int i4)], [], (x, σ, y)) ((.inl none, (x, p, y))) := by
  have hd9 : 9 ≤ d := by omega
  unfold m_undo_152_j91 at h
  refine qE.steps 3 hd9 (s' := (if ¬ (i3 = Int32.ofInt 3) then 104 else 96, [(0, .ref 64), (1, .int i1), (2, .int i2), (3, .int i3), (4, .int i4)], [], (x, σ, y))) rfl ?_
  by_cases c1 : i3 = Int32.ofInt 3
  · rw [if_pos c1] at h
    rw [if_neg (not_not_intro c1)]
    refine qE.steps 4 hd9 (s' := (103, [(0, .ref 64), (1, .int i1), (2, .int i2), (3, .int i3), (4, .int i4)], [.int i4, .int i2, .ref 86], (x, σ, y))) rfl ?_
    obtain ⟨σ2, e3, h⟩ := obind h
    refine qE.iastM hd9 e3 rfl rfl ?_
    exact qE.wk (t_m_undo_152_j104 hd hK0 h) ⟨rfl, rfl, rfl, rfl, rfl, trivial⟩ rfl
  · rw [if_neg c1] at h
    rw [if_pos c1]
    exact qE.wk (t_m_undo_152_j104 hd hK0 h) ⟨rfl, rfl, rfl, rfl, rfl, trivial⟩ rfl
set_option maxRecDepth 20000 in
theorem t_m_undo_152_j78 {S : Nat × (Nat → Int32)} {d : Nat} {x : qC} {y : Int64 × Nat} (hd : 9 ≤ d) {K0 : Int32 → qC → Option qC} (hK0 : ∀ {i1 : Int32} {σ : qC} {p : qC}, K0 i1 σ = some p → qE S d jm_12_undo_152 (0, [(0, .ref 64), (1, .int i1)], [], (x, σ, y)) ((.inl none, (x, p, y)))) {i1 : Int32} {i2 : Int32} {i3 : Int32} {i4 : Int32} {σ : qC} {p : qC} (h : m_undo_152_j78 K0 i1 i2 i3 i4 σ = some p) : qE S d jm_12_undo_152 (78, [(0, .ref 64), (1, .int i1), (2, .int i2), (3, .int i3), (4, .int i4)], [], (x, σ, y)) ((.inl none, (x, p, y))) := by
  have hd9 : 9 ≤ d := by omega
  unfold m_undo_152_j78 at h
  refine qE.steps 3 hd9 (s' := (if ¬ (i3 = Int32.ofInt 2) then 91 else 83, [(0, .ref 64), (1, .int i1), (2, .int i2), (3, .int i3), (4, .int i4)], [], (x, σ, y))) rfl ?_
  by_cases c1 : i3 = Int32.ofInt 2
  · rw [if_pos c1] at h
    rw [if_neg (not_not_intro c1)]
    refine qE.steps 4 hd9 (s' := (90, [(0, .ref 64), (1, .int i1), (2, .int i2), (3, .int i3), (4, .int i4)], [.int i4, .int i2, .ref 77], (x, σ, y))) rfl ?_
    obtain ⟨σ2, e3, h⟩ := obind h
    refine qE.iastM hd9 e3 rfl rfl ?_
    exact qE.wk (t_m_undo_152_j91 hd hK0 h) ⟨rfl, rfl, rfl, rfl, rfl, trivial⟩ rfl
  · rw [if_neg c1] at h
    rw [if_pos c1]
    exact qE.wk (t_m_undo_152_j91 hd hK0 h) ⟨rfl, rfl, rfl, rfl, rfl, trivial⟩ rfl
set_option maxRecDepth 20000 in
theorem t_m_undo_152_j65 {S : Nat × (Nat → Int32)} {d : Nat} {x : qC} {y : Int64 × Nat} (hd : 9 ≤ d) {K0 : Int32 → qC → Option qC} (hK0 : ∀ {i1 : Int32} {σ : qC} {p : qC}, K0 i1 σ = some p → qE S d jm_12_undo_152 (0, [(0, .ref 64), (1, .int i1)], [], (x, σ, y)) ((.inl none, (x, p, y)))) {i1 : Int32} {i2 : Int32} {i3 : Int32} {i4 : Int32} {σ : qC} {p : qC} (h : m_undo_152_j65 K0 i1 i2 i3 i4 σ = some p) : qE S d jm_12_undo_152 (65, [(0, .ref 64), (1, .int i1), (2, .int i2), (3, .int i3), (4, .int i4)], [], (x, σ, y)) ((.inl none, (x, p, y))) := by
  have hd9 : 9 ≤ d := by omega
  unfold m_undo_152_j65 at h
  refine qE.steps 3 hd9 (s' := (if ¬ (i3 = Int32.ofInt 1) then 78 else 70, [(0, .ref 64), (1, .int i1), (2, .int i2), (3, .int i3), (4, .int i4)], [], (x, σ, y))) rfl ?_
  by_cases c1 : i3 = Int32.ofInt 1
  · rw [if_pos c1] at h
    rw [if_neg (not_not_intro c1)]
    refine qE.steps 4 hd9 (s' := (77, [(0, .ref 64), (1, .int i1), (2, .int i2), (3, .int i3), (4, .int i4)], [.int i4, .int i2, .ref 76], (x, σ, y))) rfl ?_
    obtain ⟨σ2, e3, h⟩ := obind h
    refine qE.iastM hd9 e3 rfl rfl ?_
    exact qE.wk (t_m_undo_152_j78 hd hK0 h) ⟨rfl, rfl, rfl, rfl, rfl, trivial⟩ rfl
  · rw [if_neg c1] at h
    rw [if_pos c1]
    exact qE.wk (t_m_undo_152_j78 hd hK0 h) ⟨rfl, rfl, rfl, rfl, rfl, trivial⟩ rfl
set_option maxRecDepth 20000 in
theorem t_m_undo_152_l0 {S : Nat × (Nat → Int32)} {d : Nat} {x : qC} {y : Int64 × Nat} (hd : 9 ≤ d) : ∀ (n : Nat) {i1 : Int32} {σ : qC} {p : qC}, m_undo_152_l0 n i1 σ = some p → qE S d jm_12_undo_152 (0, [(0, .ref 64), (1, .int i1)], [], (x, σ, y)) ((.inl none, (x, p, y))) := by
  have hd9 : 9 ≤ d := by omega
  intro n
  induction n with
  | zero =>
    intros
    rename_i h
    unfold m_undo_152_l0 at h
    cases h
  | succ n ih =>
    intro i1 σ p h
    unfold m_undo_152_l0 at h
    refine qE.steps 4 hd9 (s' := (if σ.1 6432 ≤ i1 then 120 else 8, [(0, .ref 64), (1, .int i1)], [], (x, σ, y))) rfl ?_
    by_cases c1 : σ.1 6432 ≤ i1
    · rw [if_pos c1] at h
      rw [if_pos c1]
      obtain rfl := Option.some.inj h
      exact qE.ret hd9 rfl rfl
    · rw [if_neg c1] at h
      rw [if_neg c1]
      obtain ⟨σ2, e3, h⟩ := qlet_ex h
      refine qE.steps 6 hd9 (s' := (18, [(0, .ref 64), (1, .int i1)], [], (x, σ2, y))) (by subst e3; rfl) ?_
      refine qE.steps 4 hd9 (s' := (26, [(0, .ref 64), (1, .int i1)], [.int (σ2.1 6432), .ref 83], (x, σ2, y))) rfl ?_
      obtain ⟨x4, e5, h⟩ := obind h
      refine qE.iald hd9 e5 rfl rfl ?_
      refine qE.steps 7 hd9 (s' := (38, [(2, .int (x4 / (Int32.ofInt 5))), (0, .ref 64), (1, .int i1)], [.int (σ2.1 6432), .ref 83], (x, σ2, y))) rfl ?_
      obtain ⟨x6, e7, h⟩ := obind h
      refine qE.iald hd9 e7 rfl rfl ?_
      refine qE.steps 7 hd9 (s' := (50, [(3, .int (x6 - x6 / (Int32.ofInt 5) * (Int32.ofInt 5))), (2, .int (x4 / (Int32.ofInt 5))), (0, .ref 64), (1, .int i1)], [.int (σ2.1 6432), .ref 84], (x, σ2, y))) rfl ?_
      obtain ⟨x8, e9, h⟩ := obind h
      refine qE.iald hd9 e9 rfl rfl ?_
      refine qE.steps 3 hd9 (s' := (if ¬ (x6 - x6 / (Int32.ofInt 5) * (Int32.ofInt 5) = 0) then 65 else 57, [(4, .int x8), (3, .int (x6 - x6 / (Int32.ofInt 5) * (Int32.ofInt 5))), (2, .int (x4 / (Int32.ofInt 5))), (0, .ref 64), (1, .int i1)], [], (x, σ2, y))) rfl ?_
      by_cases c10 : x6 - x6 / (Int32.ofInt 5) * (Int32.ofInt 5) = 0
      · rw [if_pos c10] at h
        rw [if_neg (not_not_intro c10)]
        refine qE.steps 4 hd9 (s' := (64, [(4, .int x8), (3, .int (x6 - x6 / (Int32.ofInt 5) * (Int32.ofInt 5))), (2, .int (x4 / (Int32.ofInt 5))), (0, .ref 64), (1, .int i1)], [.int x8, .int (x4 / (Int32.ofInt 5)), .ref 75], (x, σ2, y))) rfl ?_
        obtain ⟨σ11, e12, h⟩ := obind h
        refine qE.iastM hd9 e12 rfl rfl ?_
        exact qE.wk (t_m_undo_152_j65 hd ih h) ⟨rfl, rfl, rfl, rfl, rfl, trivial⟩ rfl
      · rw [if_neg c10] at h
        rw [if_pos c10]
        exact qE.wk (t_m_undo_152_j65 hd ih h) ⟨rfl, rfl, rfl, rfl, rfl, trivial⟩ rfl
set_option maxRecDepth 20000 in
theorem t_m_undo_152 {S : Nat × (Nat → Int32)} {d : Nat} {x : qC} {y : Int64 × Nat} {i1 : Int32} {σ : qC} {p : qC} (hd : 9 ≤ d) (h : m_undo_152 i1 σ = some p) : qE S d jm_12_undo_152 (0, [(0, .ref 64), (1, .int i1)], [], (x, σ, y)) ((.inl none, (x, p, y))) := by
  have hd9 : 9 ≤ d := by omega
  unfold m_undo_152 at h
  exact qE.wk (t_m_undo_152_l0 hd qF h) ⟨rfl, rfl, trivial⟩ rfl
