/-! BY PROGRAM (wip/whole/gendc.py): each method as a function over the numbers -/
def m_type_128_j53 (K9 : Int64 → Int32 → Int32 → Int32 → qC → Option (Int32 × qC)) (l1 : Int64) (i3 : Int32) (i4 : Int32) (i5 : Int32) (σ : qC) : Option (Int32 × qC) := K9 l1 i3 i4 (i5 + Int32.ofInt (-8)) σ
def m_type_128_j33 (K9 : Int64 → Int32 → Int32 → Int32 → qC → Option (Int32 × qC)) (l1 : Int64) (i3 : Int32) (i4 : Int32) (i5 : Int32) (i6 : Int32) (σ : qC) : Option (Int32 × qC) := if i6 = 0 then m_type_128_j53 K9 l1 i3 i4 i5 σ else if m_in_129 i6 (Int32.ofInt 33) (Int32.ofInt 126) = 0 then m_type_128_j53 K9 l1 i3 (Int32.ofInt 0) i5 σ else m_type_128_j53 K9 l1 i3 i4 i5 σ
def m_type_128_l91 : Nat → Int64 → Int32 → qC → Option (Int32 × qC)
  | 0, _, _, _ => none
  | n + 1, l1, i5, σ => if i5 < 0 then some (σ.1 6407, σ) else qlet ((((l1.toUInt64 >>> (i5.toInt64.toUInt64 &&& Int64.toUInt64 63)).toInt64).toInt32) &&& (Int32.ofInt 255)) (fun x2 => if x2 = 0 then (m_type_128_l91 n) l1 (i5 + Int32.ofInt (-8)) σ else (aput σ 65 48 (σ.1 6407) x2).bind (fun σ5 => qlet (upS σ5 6407 ((σ5.1 6407) + (Int32.ofInt 1))) (fun σ7 => (m_type_128_l91 n) l1 (i5 + Int32.ofInt (-8)) σ7)))
def m_type_128_l9 : Nat → Int64 → Int32 → Int32 → Int32 → qC → Option (Int32 × qC)
  | 0, _, _, _, _, _ => none
  | n + 1, l1, i3, i4, i5, σ => if i5 < 0 then (m_bad_130 i4 σ).bind (fun p2 => if p2.1 = 0 then if (p2.2.1 6407) + i3 ≤ Int32.ofInt 48 then m_type_128_l91 qF l1 (Int32.ofInt 56) p2.2 else (m_fail_131 (Int32.ofInt 2) p2.2).bind (fun p6 => some (p6.1, p6.2)) else some (Int32.ofInt 0, p2.2)) else qlet ((((l1.toUInt64 >>> (i5.toInt64.toUInt64 &&& Int64.toUInt64 63)).toInt64).toInt32) &&& (Int32.ofInt 255)) (fun x8 => if x8 = 0 then m_type_128_j33 (m_type_128_l9 n) l1 i3 i4 i5 x8 σ else m_type_128_j33 (m_type_128_l9 n) l1 (i3 + Int32.ofInt 1) i4 i5 x8 σ)
def m_type_128 (l1 : Int64) (σ : qC) : Option (Int32 × qC) := m_type_128_l9 qF l1 (Int32.ofInt 0) (Int32.ofInt 1) (Int32.ofInt 56) σ
set_option maxRecDepth 20000 in
theorem t_m_type_128_j53 {S : Nat × (Nat → Int32)} {d : Nat} {x : qC} {y : Int64 × Nat} (hd : 10 ≤ d) {K9 : Int64 → Int32 → Int32 → Int32 → qC → Option (Int32 × qC)} (hK9 : ∀ {l1 : Int64} {i3 : Int32} {i4 : Int32} {i5 : Int32} {σ : qC} {p : (Int32 × qC)}, K9 l1 i3 i4 i5 σ = some p → qE S d jm_12_type_128 (9, [(0, .ref 64), (1, .long l1), (3, .int i3), (4, .int i4), (5, .int i5)], [], (x, σ, y)) ((.inl (some (.int p.1)), (x, p.2, y)))) {l1 : Int64} {i3 : Int32} {i4 : Int32} {i5 : Int32} {σ : qC} {p : (Int32 × qC)} (h : m_type_128_j53 K9 l1 i3 i4 i5 σ = some p) : qE S d jm_12_type_128 (53, [(0, .ref 64), (1, .long l1), (3, .int i3), (4, .int i4), (5, .int i5)], [], (x, σ, y)) ((.inl (some (.int p.1)), (x, p.2, y))) := by
  have hd9 : 9 ≤ d := by omega
  unfold m_type_128_j53 at h
  refine qE.steps 2 hd9 (s' := (9, [(5, .int (i5 + Int32.ofInt (-8))), (0, .ref 64), (1, .long l1), (3, .int i3), (4, .int i4)], [], (x, σ, y))) rfl ?_
  exact qE.wk (hK9 h) ⟨rfl, rfl, rfl, rfl, rfl, trivial⟩ rfl
set_option maxRecDepth 20000 in
theorem t_m_type_128_j33 {S : Nat × (Nat → Int32)} {d : Nat} {x : qC} {y : Int64 × Nat} (hd : 10 ≤ d) {K9 : Int64 → Int32 → Int32 → Int32 → qC → Option (Int32 × qC)} (hK9 : ∀ {l1 : Int64} {i3 : Int32} {i4 : Int32} {i5 : Int32} {σ : qC} {p : (Int32 × qC)}, K9 l1 i3 i4 i5 σ = some p → qE S d jm_12_type_128 (9, [(0, .ref 64), (1, .long l1), (3, .int i3), (4, .int i4), (5, .int i5)], [], (x, σ, y)) ((.inl (some (.int p.1)), (x, p.2, y)))) {l1 : Int64} {i3 : Int32} {i4 : Int32} {i5 : Int32} {i6 : Int32} {σ : qC} {p : (Int32 × qC)} (h : m_type_128_j33 K9 l1 i3 i4 i5 i6 σ = some p) : qE S d jm_12_type_128 (33, [(0, .ref 64), (1, .long l1), (3, .int i3), (4, .int i4), (5, .int i5), (6, .int i6)], [], (x, σ, y)) ((.inl (some (.int p.1)), (x, p.2, y))) := by
  have hd9 : 9 ≤ d := by omega
  unfold m_type_128_j33 at h
  refine qE.steps 2 hd9 (s' := (if i6 = 0 then 53 else 38, [(0, .ref 64), (1, .long l1), (3, .int i3), (4, .int i4), (5, .int i5), (6, .int i6)], [], (x, σ, y))) rfl ?_
  by_cases c1 : i6 = 0
  · rw [if_pos c1] at h
    rw [if_pos c1]
    exact qE.wk (t_m_type_128_j53 hd hK9 h) ⟨rfl, rfl, rfl, rfl, rfl, trivial⟩ rfl
  · rw [if_neg c1] at h
    rw [if_neg c1]
    refine qE.steps 3 hd9 (s' := (44, [(0, .ref 64), (1, .long l1), (3, .int i3), (4, .int i4), (5, .int i5), (6, .int i6)], [.int (Int32.ofInt 126), .int (Int32.ofInt 33), .int i6], (x, σ, y))) rfl ?_
    refine qE.call hd9 rfl rfl rfl rfl (t_m_in_129 (by omega) rfl) ?_
    refine qE.steps 0 hd9 (s' := (47, [(0, .ref 64), (1, .long l1), (3, .int i3), (4, .int i4), (5, .int i5), (6, .int i6)], [.int (m_in_129 i6 (Int32.ofInt 33) (Int32.ofInt 126))], (x, σ, y))) rfl ?_
    refine qE.steps 1 hd9 (s' := (if ¬ (m_in_129 i6 (Int32.ofInt 33) (Int32.ofInt 126) = 0) then 53 else 50, [(0, .ref 64), (1, .long l1), (3, .int i3), (4, .int i4), (5, .int i5), (6, .int i6)], [], (x, σ, y))) rfl ?_
    by_cases c2 : m_in_129 i6 (Int32.ofInt 33) (Int32.ofInt 126) = 0
    · rw [if_pos c2] at h
      rw [if_neg (not_not_intro c2)]
      refine qE.steps 2 hd9 (s' := (53, [(4, .int (Int32.ofInt 0)), (0, .ref 64), (1, .long l1), (3, .int i3), (5, .int i5), (6, .int i6)], [], (x, σ, y))) rfl ?_
      exact qE.wk (t_m_type_128_j53 hd hK9 h) ⟨rfl, rfl, rfl, rfl, rfl, trivial⟩ rfl
    · rw [if_neg c2] at h
      rw [if_pos c2]
      exact qE.wk (t_m_type_128_j53 hd hK9 h) ⟨rfl, rfl, rfl, rfl, rfl, trivial⟩ rfl
set_option maxRecDepth 20000 in
theorem t_m_type_128_l91 {S : Nat × (Nat → Int32)} {d : Nat} {x : qC} {y : Int64 × Nat} (hd : 10 ≤ d) : ∀ (n : Nat) {l1 : Int64} {i5 : Int32} {σ : qC} {p : (Int32 × qC)}, m_type_128_l91 n l1 i5 σ = some p → qE S d jm_12_type_128 (91, [(0, .ref 64), (1, .long l1), (5, .int i5)], [], (x, σ, y)) ((.inl (some (.int p.1)), (x, p.2, y))) := by
  have hd9 : 9 ≤ d := by omega
  intro n
  induction n with
  | zero =>
    intros
    rename_i h
    unfold m_type_128_l91 at h
    cases h
  | succ n ih =>
    intro l1 i5 σ p h
    unfold m_type_128_l91 at h
    refine qE.steps 2 hd9 (s' := (if i5 < 0 then 142 else 96, [(0, .ref 64), (1, .long l1), (5, .int i5)], [], (x, σ, y))) rfl ?_
    by_cases c1 : i5 < 0
    · rw [if_pos c1] at h
      rw [if_pos c1]
      refine qE.steps 2 hd9 (s' := (146, [(0, .ref 64), (1, .long l1), (5, .int i5)], [.int (σ.1 6407)], (x, σ, y))) rfl ?_
      obtain rfl := Option.some.inj h
      exact qE.ret hd9 rfl rfl
    · rw [if_neg c1] at h
      rw [if_neg c1]
      obtain ⟨x2, e3, h⟩ := qlet_ex h
      refine qE.steps 7 hd9 (s' := (107, [(6, .int x2), (0, .ref 64), (1, .long l1), (5, .int i5)], [], (x, σ, y))) (by subst e3; rfl) ?_
      refine qE.steps 2 hd9 (s' := (if ¬ (x2 = 0) then 115 else 112, [(6, .int x2), (0, .ref 64), (1, .long l1), (5, .int i5)], [], (x, σ, y))) rfl ?_
      by_cases c4 : x2 = 0
      · rw [if_pos c4] at h
        rw [if_neg (not_not_intro c4)]
        refine qE.steps 3 hd9 (s' := (91, [(5, .int (i5 + Int32.ofInt (-8))), (6, .int x2), (0, .ref 64), (1, .long l1)], [], (x, σ, y))) rfl ?_
        exact qE.wk (ih h) ⟨rfl, rfl, rfl, trivial⟩ rfl
      · rw [if_neg c4] at h
        rw [if_pos c4]
        refine qE.steps 5 hd9 (s' := (125, [(6, .int x2), (0, .ref 64), (1, .long l1), (5, .int i5)], [.int x2, .int (σ.1 6407), .ref 65], (x, σ, y))) rfl ?_
        obtain ⟨σ5, e6, h⟩ := obind h
        refine qE.iastM hd9 e6 rfl rfl ?_
        obtain ⟨σ7, e8, h⟩ := qlet_ex h
        refine qE.steps 6 hd9 (s' := (136, [(6, .int x2), (0, .ref 64), (1, .long l1), (5, .int i5)], [], (x, σ7, y))) (by subst e8; rfl) ?_
        refine qE.steps 2 hd9 (s' := (91, [(5, .int (i5 + Int32.ofInt (-8))), (6, .int x2), (0, .ref 64), (1, .long l1)], [], (x, σ7, y))) rfl ?_
        exact qE.wk (ih h) ⟨rfl, rfl, rfl, trivial⟩ rfl
set_option maxRecDepth 20000 in
theorem t_m_type_128_l9 {S : Nat × (Nat → Int32)} {d : Nat} {x : qC} {y : Int64 × Nat} (hd : 10 ≤ d) : ∀ (n : Nat) {l1 : Int64} {i3 : Int32} {i4 : Int32} {i5 : Int32} {σ : qC} {p : (Int32 × qC)}, m_type_128_l9 n l1 i3 i4 i5 σ = some p → qE S d jm_12_type_128 (9, [(0, .ref 64), (1, .long l1), (3, .int i3), (4, .int i4), (5, .int i5)], [], (x, σ, y)) ((.inl (some (.int p.1)), (x, p.2, y))) := by
  have hd9 : 9 ≤ d := by omega
  intro n
  induction n with
  | zero =>
    intros
    rename_i h
    unfold m_type_128_l9 at h
    cases h
  | succ n ih =>
    intro l1 i3 i4 i5 σ p h
    unfold m_type_128_l9 at h
    refine qE.steps 2 hd9 (s' := (if i5 < 0 then 59 else 14, [(0, .ref 64), (1, .long l1), (3, .int i3), (4, .int i4), (5, .int i5)], [], (x, σ, y))) rfl ?_
    by_cases c1 : i5 < 0
    · rw [if_pos c1] at h
      rw [if_pos c1]
      refine qE.steps 2 hd9 (s' := (62, [(0, .ref 64), (1, .long l1), (3, .int i3), (4, .int i4), (5, .int i5)], [.int i4, .ref 64], (x, σ, y))) rfl ?_
      obtain ⟨p2, e3, h⟩ := obind h
      refine qE.call hd9 rfl rfl rfl rfl (t_m_bad_130 (by omega) e3) ?_
      refine qE.steps 0 hd9 (s' := (65, [(0, .ref 64), (1, .long l1), (3, .int i3), (4, .int i4), (5, .int i5)], [.int p2.1], (x, p2.2, y))) rfl ?_
      refine qE.steps 1 hd9 (s' := (if p2.1 = 0 then 70 else 68, [(0, .ref 64), (1, .long l1), (3, .int i3), (4, .int i4), (5, .int i5)], [], (x, p2.2, y))) rfl ?_
      by_cases c4 : p2.1 = 0
      · rw [if_pos c4] at h
        rw [if_pos c4]
        refine qE.steps 6 hd9 (s' := (if (p2.2.1 6407) + i3 ≤ Int32.ofInt 48 then 87 else 81, [(0, .ref 64), (1, .long l1), (3, .int i3), (4, .int i4), (5, .int i5)], [], (x, p2.2, y))) rfl ?_
        by_cases c5 : (p2.2.1 6407) + i3 ≤ Int32.ofInt 48
        · rw [if_pos c5] at h
          rw [if_pos c5]
          refine qE.steps 2 hd9 (s' := (91, [(5, .int (Int32.ofInt 56)), (0, .ref 64), (1, .long l1), (3, .int i3), (4, .int i4)], [], (x, p2.2, y))) rfl ?_
          exact qE.wk (t_m_type_128_l91 hd qF h) ⟨rfl, rfl, rfl, trivial⟩ rfl
        · rw [if_neg c5] at h
          rw [if_neg c5]
          refine qE.steps 2 hd9 (s' := (83, [(0, .ref 64), (1, .long l1), (3, .int i3), (4, .int i4), (5, .int i5)], [.int (Int32.ofInt 2), .ref 64], (x, p2.2, y))) rfl ?_
          obtain ⟨p6, e7, h⟩ := obind h
          refine qE.call hd9 rfl rfl rfl rfl (t_m_fail_131 (by omega) e7) ?_
          refine qE.steps 0 hd9 (s' := (86, [(0, .ref 64), (1, .long l1), (3, .int i3), (4, .int i4), (5, .int i5)], [.int p6.1], (x, p6.2, y))) rfl ?_
          obtain rfl := Option.some.inj h
          exact qE.ret hd9 rfl rfl
      · rw [if_neg c4] at h
        rw [if_neg c4]
        refine qE.steps 1 hd9 (s' := (69, [(0, .ref 64), (1, .long l1), (3, .int i3), (4, .int i4), (5, .int i5)], [.int (Int32.ofInt 0)], (x, p2.2, y))) rfl ?_
        obtain rfl := Option.some.inj h
        exact qE.ret hd9 rfl rfl
    · rw [if_neg c1] at h
      rw [if_neg c1]
      obtain ⟨x8, e9, h⟩ := qlet_ex h
      refine qE.steps 7 hd9 (s' := (25, [(6, .int x8), (0, .ref 64), (1, .long l1), (3, .int i3), (4, .int i4), (5, .int i5)], [], (x, σ, y))) (by subst e9; rfl) ?_
      refine qE.steps 2 hd9 (s' := (if x8 = 0 then 33 else 30, [(6, .int x8), (0, .ref 64), (1, .long l1), (3, .int i3), (4, .int i4), (5, .int i5)], [], (x, σ, y))) rfl ?_
      by_cases c10 : x8 = 0
      · rw [if_pos c10] at h
        rw [if_pos c10]
        exact qE.wk (t_m_type_128_j33 hd ih h) ⟨rfl, rfl, rfl, rfl, rfl, rfl, trivial⟩ rfl
      · rw [if_neg c10] at h
        rw [if_neg c10]
        refine qE.steps 1 hd9 (s' := (33, [(3, .int (i3 + Int32.ofInt 1)), (6, .int x8), (0, .ref 64), (1, .long l1), (4, .int i4), (5, .int i5)], [], (x, σ, y))) rfl ?_
        exact qE.wk (t_m_type_128_j33 hd ih h) ⟨rfl, rfl, rfl, rfl, rfl, rfl, trivial⟩ rfl
set_option maxRecDepth 20000 in
theorem t_m_type_128 {S : Nat × (Nat → Int32)} {d : Nat} {x : qC} {y : Int64 × Nat} {l1 : Int64} {σ : qC} {p : (Int32 × qC)} (hd : 10 ≤ d) (h : m_type_128 l1 σ = some p) : qE S d jm_12_type_128 (0, [(0, .ref 64), (1, .long l1)], [], (x, σ, y)) ((.inl (some (.int p.1)), (x, p.2, y))) := by
  have hd9 : 9 ≤ d := by omega
  unfold m_type_128 at h
  refine qE.steps 6 hd9 (s' := (9, [(5, .int (Int32.ofInt 56)), (4, .int (Int32.ofInt 1)), (3, .int (Int32.ofInt 0)), (0, .ref 64), (1, .long l1)], [], (x, σ, y))) rfl ?_
  exact qE.wk (t_m_type_128_l9 hd qF h) ⟨rfl, rfl, rfl, rfl, rfl, trivial⟩ rfl
def m_look_135 (σ : qC) : Option Int32 := if σ.1 6407 ≤ σ.1 6410 then some (Int32.ofInt 0) else (aget (σ.2 65) 48 (σ.1 6410)).bind (fun x2 => some x2)
set_option maxRecDepth 20000 in
theorem t_m_look_135 {S : Nat × (Nat → Int32)} {d : Nat} {x : qC} {y : Int64 × Nat} {σ : qC} {p : Int32} (hd : 9 ≤ d) (h : m_look_135 σ = some p) : qE S d jm_12_look_135 (0, [(0, .ref 64)], [], (x, σ, y)) ((.inl (some (.int p)), (x, σ, y))) := by
  have hd9 : 9 ≤ d := by omega
  unfold m_look_135 at h
  refine qE.steps 5 hd9 (s' := (if σ.1 6407 ≤ σ.1 6410 then 23 else 11, [(0, .ref 64)], [], (x, σ, y))) rfl ?_
  by_cases c1 : σ.1 6407 ≤ σ.1 6410
  · rw [if_pos c1] at h
    rw [if_pos c1]
    refine qE.steps 1 hd9 (s' := (24, [(0, .ref 64)], [.int (Int32.ofInt 0)], (x, σ, y))) rfl ?_
    obtain rfl := Option.some.inj h
    exact qE.ret hd9 rfl rfl
  · rw [if_neg c1] at h
    rw [if_neg c1]
    refine qE.steps 4 hd9 (s' := (19, [(0, .ref 64)], [.int (σ.1 6410), .ref 65], (x, σ, y))) rfl ?_
    obtain ⟨x2, e3, h⟩ := obind h
    refine qE.iald hd9 e3 rfl rfl ?_
    refine qE.steps 1 hd9 (s' := (24, [(0, .ref 64)], [.int x2], (x, σ, y))) rfl ?_
    obtain rfl := Option.some.inj h
    exact qE.ret hd9 rfl rfl
def m_passes_136 (i1 : Int32) (σ : qC) : Option (Int32 × qC) := (m_look_135 σ).bind (fun p1 => if p1 = i1 then qlet (upS σ 6410 ((σ.1 6410) + (Int32.ofInt 1))) (fun σ4 => some (Int32.ofInt 1, σ4)) else some (Int32.ofInt 0, σ))
set_option maxRecDepth 20000 in
theorem t_m_passes_136 {S : Nat × (Nat → Int32)} {d : Nat} {x : qC} {y : Int64 × Nat} {i1 : Int32} {σ : qC} {p : (Int32 × qC)} (hd : 10 ≤ d) (h : m_passes_136 i1 σ = some p) : qE S d jm_12_passes_136 (0, [(0, .ref 64), (1, .int i1)], [], (x, σ, y)) ((.inl (some (.int p.1)), (x, p.2, y))) := by
  have hd9 : 9 ≤ d := by omega
  unfold m_passes_136 at h
  refine qE.steps 1 hd9 (s' := (1, [(0, .ref 64), (1, .int i1)], [.ref 64], (x, σ, y))) rfl ?_
  obtain ⟨p1, e2, h⟩ := obind h
  refine qE.call hd9 rfl rfl rfl rfl (t_m_look_135 (by omega) e2) ?_
  refine qE.steps 0 hd9 (s' := (4, [(0, .ref 64), (1, .int i1)], [.int p1], (x, σ, y))) rfl ?_
  refine qE.steps 2 hd9 (s' := (if p1 = i1 then 10 else 8, [(0, .ref 64), (1, .int i1)], [], (x, σ, y))) rfl ?_
  by_cases c3 : p1 = i1
  · rw [if_pos c3] at h
    rw [if_pos c3]
    obtain ⟨σ4, e5, h⟩ := qlet_ex h
    refine qE.steps 6 hd9 (s' := (20, [(0, .ref 64), (1, .int i1)], [], (x, σ4, y))) (by subst e5; rfl) ?_
    refine qE.steps 1 hd9 (s' := (21, [(0, .ref 64), (1, .int i1)], [.int (Int32.ofInt 1)], (x, σ4, y))) rfl ?_
    obtain rfl := Option.some.inj h
    exact qE.ret hd9 rfl rfl
  · rw [if_neg c3] at h
    rw [if_neg c3]
    refine qE.steps 1 hd9 (s' := (9, [(0, .ref 64), (1, .int i1)], [.int (Int32.ofInt 0)], (x, σ, y))) rfl ?_
    obtain rfl := Option.some.inj h
    exact qE.ret hd9 rfl rfl
def m_readTerm_134_j125 (K4 : Int32 → Int32 → Int32 → qC → Option (Int32 × qC)) (i1 : Int32) (i2 : Int32) (i3 : Int32) (σ : qC) : Option (Int32 × qC) := K4 i1 i2 i3 σ
def m_readTerm_134_l4 : Nat → Int32 → Int32 → Int32 → qC → Option (Int32 × qC)
  | 0, _, _, _, _ => none
  | n + 1, i1, i2, i3, σ => if i2 ≤ 0 then some (Int32.ofInt 1, σ) else if i3 = 0 then if i2 = Int32.ofInt 1 then (m_readTerm_134_l4 n) i1 (Int32.ofInt 0) i3 σ else (m_look_135 σ).bind (fun p4 => if p4 = Int32.ofInt 44 then (aget (σ.2 69) 8 i2).bind (fun x7 => if Int32.ofInt 3 ≤ x7 then (m_passes_136 (Int32.ofInt 41) σ).bind (fun p10 => if p10.1 = 0 then some (Int32.ofInt 0, p10.2) else (m_readTerm_134_l4 n) i1 (i2 + Int32.ofInt (-1)) i3 p10.2) else qlet (upS σ 6410 ((σ.1 6410) + (Int32.ofInt 1))) (fun σ13 => (aget (σ13.2 69) 8 i2).bind (fun x15 => (aput σ13 69 8 i2 (x15 + (Int32.ofInt 1))).bind (fun σ17 => (m_readTerm_134_l4 n) i1 i2 (Int32.ofInt 1) σ17)))) else (m_passes_136 (Int32.ofInt 41) σ).bind (fun p19 => if p19.1 = 0 then some (Int32.ofInt 0, p19.2) else (m_readTerm_134_l4 n) i1 (i2 + Int32.ofInt (-1)) i3 p19.2)) else (m_look_135 σ).bind (fun p22 => qlet (m_in_129 p22 (Int32.ofInt 97) (Int32.ofInt 122)) (fun x24 => if x24 = 0 then if i1 = 0 then if m_in_129 p22 (Int32.ofInt 65) (Int32.ofInt 90) = 0 then if m_in_129 p22 (Int32.ofInt 48) (Int32.ofInt 57) = 0 then some (Int32.ofInt 0, σ) else qlet (upS σ 6410 ((σ.1 6410) + (Int32.ofInt 1))) (fun σ30 => m_readTerm_134_j125 (m_readTerm_134_l4 n) i1 i2 (Int32.ofInt 0) σ30) else qlet (upS σ 6410 ((σ.1 6410) + (Int32.ofInt 1))) (fun σ33 => m_readTerm_134_j125 (m_readTerm_134_l4 n) i1 i2 (Int32.ofInt 0) σ33) else if i2 = Int32.ofInt 1 then some (Int32.ofInt 0, σ) else if m_in_129 p22 (Int32.ofInt 65) (Int32.ofInt 90) = 0 then if m_in_129 p22 (Int32.ofInt 48) (Int32.ofInt 57) = 0 then some (Int32.ofInt 0, σ) else qlet (upS σ 6410 ((σ.1 6410) + (Int32.ofInt 1))) (fun σ39 => m_readTerm_134_j125 (m_readTerm_134_l4 n) i1 i2 (Int32.ofInt 0) σ39) else qlet (upS σ 6410 ((σ.1 6410) + (Int32.ofInt 1))) (fun σ42 => m_readTerm_134_j125 (m_readTerm_134_l4 n) i1 i2 (Int32.ofInt 0) σ42) else qlet (upS σ 6410 ((σ.1 6410) + (Int32.ofInt 1))) (fun σ45 => (m_look_135 σ45).bind (fun p48 => if p48 = Int32.ofInt 40 then if i2 = Int32.ofInt 6 then some (Int32.ofInt 0, σ45) else qlet (upS σ45 6410 ((σ45.1 6410) + (Int32.ofInt 1))) (fun σ52 => (aput σ52 69 8 (i2 + Int32.ofInt 1) (Int32.ofInt 1)).bind (fun σ54 => m_readTerm_134_j125 (m_readTerm_134_l4 n) i1 (i2 + Int32.ofInt 1) (Int32.ofInt 1) σ54)) else m_readTerm_134_j125 (m_readTerm_134_l4 n) i1 i2 (Int32.ofInt 0) σ45))))
def m_readTerm_134 (i1 : Int32) (σ : qC) : Option (Int32 × qC) := m_readTerm_134_l4 qF i1 (Int32.ofInt 1) (Int32.ofInt 1) σ
set_option maxRecDepth 20000 in
theorem t_m_readTerm_134_j125 {S : Nat × (Nat → Int32)} {d : Nat} {x : qC} {y : Int64 × Nat} (hd : 11 ≤ d) {K4 : Int32 → Int32 → Int32 → qC → Option (Int32 × qC)} (hK4 : ∀ {i1 : Int32} {i2 : Int32} {i3 : Int32} {σ : qC} {p : (Int32 × qC)}, K4 i1 i2 i3 σ = some p → qE S d jm_12_readTerm_134 (4, [(0, .ref 64), (1, .int i1), (2, .int i2), (3, .int i3)], [], (x, σ, y)) ((.inl (some (.int p.1)), (x, p.2, y)))) {i1 : Int32} {i2 : Int32} {i3 : Int32} {σ : qC} {p : (Int32 × qC)} (h : m_readTerm_134_j125 K4 i1 i2 i3 σ = some p) : qE S d jm_12_readTerm_134 (125, [(0, .ref 64), (1, .int i1), (2, .int i2), (3, .int i3)], [], (x, σ, y)) ((.inl (some (.int p.1)), (x, p.2, y))) := by
  have hd9 : 9 ≤ d := by omega
  unfold m_readTerm_134_j125 at h
  refine qE.steps 1 hd9 (s' := (4, [(0, .ref 64), (1, .int i1), (2, .int i2), (3, .int i3)], [], (x, σ, y))) rfl ?_
  exact qE.wk (hK4 h) ⟨rfl, rfl, rfl, rfl, trivial⟩ rfl
set_option maxRecDepth 20000 in
theorem t_m_readTerm_134_l4 {S : Nat × (Nat → Int32)} {d : Nat} {x : qC} {y : Int64 × Nat} (hd : 11 ≤ d) : ∀ (n : Nat) {i1 : Int32} {i2 : Int32} {i3 : Int32} {σ : qC} {p : (Int32 × qC)}, m_readTerm_134_l4 n i1 i2 i3 σ = some p → qE S d jm_12_readTerm_134 (4, [(0, .ref 64), (1, .int i1), (2, .int i2), (3, .int i3)], [], (x, σ, y)) ((.inl (some (.int p.1)), (x, p.2, y))) := by
  have hd9 : 9 ≤ d := by omega
  intro n
  induction n with
  | zero =>
    intros
    rename_i h
    unfold m_readTerm_134_l4 at h
    cases h
  | succ n ih =>
    intro i1 i2 i3 σ p h
    unfold m_readTerm_134_l4 at h
    refine qE.steps 2 hd9 (s' := (if i2 ≤ 0 then 199 else 8, [(0, .ref 64), (1, .int i1), (2, .int i2), (3, .int i3)], [], (x, σ, y))) rfl ?_
    by_cases c1 : i2 ≤ 0
    · rw [if_pos c1] at h
      rw [if_pos c1]
      refine qE.steps 1 hd9 (s' := (200, [(0, .ref 64), (1, .int i1), (2, .int i2), (3, .int i3)], [.int (Int32.ofInt 1)], (x, σ, y))) rfl ?_
      obtain rfl := Option.some.inj h
      exact qE.ret hd9 rfl rfl
    · rw [if_neg c1] at h
      rw [if_neg c1]
      refine qE.steps 2 hd9 (s' := (if i3 = 0 then 128 else 12, [(0, .ref 64), (1, .int i1), (2, .int i2), (3, .int i3)], [], (x, σ, y))) rfl ?_
      by_cases c2 : i3 = 0
      · rw [if_pos c2] at h
        rw [if_pos c2]
        refine qE.steps 3 hd9 (s' := (if ¬ (i2 = Int32.ofInt 1) then 138 else 133, [(0, .ref 64), (1, .int i1), (2, .int i2), (3, .int i3)], [], (x, σ, y))) rfl ?_
        by_cases c3 : i2 = Int32.ofInt 1
        · rw [if_pos c3] at h
          rw [if_neg (not_not_intro c3)]
          refine qE.steps 3 hd9 (s' := (4, [(2, .int (Int32.ofInt 0)), (0, .ref 64), (1, .int i1), (3, .int i3)], [], (x, σ, y))) rfl ?_
          exact qE.wk (ih h) ⟨rfl, rfl, rfl, rfl, trivial⟩ rfl
        · rw [if_neg c3] at h
          rw [if_pos c3]
          refine qE.steps 1 hd9 (s' := (139, [(0, .ref 64), (1, .int i1), (2, .int i2), (3, .int i3)], [.ref 64], (x, σ, y))) rfl ?_
          obtain ⟨p4, e5, h⟩ := obind h
          refine qE.call hd9 rfl rfl rfl rfl (t_m_look_135 (by omega) e5) ?_
          refine qE.steps 0 hd9 (s' := (142, [(0, .ref 64), (1, .int i1), (2, .int i2), (3, .int i3)], [.int p4], (x, σ, y))) rfl ?_
          refine qE.steps 2 hd9 (s' := (if ¬ (p4 = Int32.ofInt 44) then 182 else 147, [(0, .ref 64), (1, .int i1), (2, .int i2), (3, .int i3)], [], (x, σ, y))) rfl ?_
          by_cases c6 : p4 = Int32.ofInt 44
          · rw [if_pos c6] at h
            rw [if_neg (not_not_intro c6)]
            refine qE.steps 3 hd9 (s' := (152, [(0, .ref 64), (1, .int i1), (2, .int i2), (3, .int i3)], [.int i2, .ref 69], (x, σ, y))) rfl ?_
            obtain ⟨x7, e8, h⟩ := obind h
            refine qE.iald hd9 e8 rfl rfl ?_
            refine qE.steps 2 hd9 (s' := (if Int32.ofInt 3 ≤ x7 then 182 else 157, [(0, .ref 64), (1, .int i1), (2, .int i2), (3, .int i3)], [], (x, σ, y))) rfl ?_
            by_cases c9 : Int32.ofInt 3 ≤ x7
            · rw [if_pos c9] at h
              rw [if_pos c9]
              refine qE.steps 2 hd9 (s' := (185, [(0, .ref 64), (1, .int i1), (2, .int i2), (3, .int i3)], [.int (Int32.ofInt 41), .ref 64], (x, σ, y))) rfl ?_
              obtain ⟨p10, e11, h⟩ := obind h
              refine qE.call hd9 rfl rfl rfl rfl (t_m_passes_136 (by omega) e11) ?_
              refine qE.steps 0 hd9 (s' := (188, [(0, .ref 64), (1, .int i1), (2, .int i2), (3, .int i3)], [.int p10.1], (x, p10.2, y))) rfl ?_
              refine qE.steps 1 hd9 (s' := (if p10.1 = 0 then 197 else 191, [(0, .ref 64), (1, .int i1), (2, .int i2), (3, .int i3)], [], (x, p10.2, y))) rfl ?_
              by_cases c12 : p10.1 = 0
              · rw [if_pos c12] at h
                rw [if_pos c12]
                refine qE.steps 1 hd9 (s' := (198, [(0, .ref 64), (1, .int i1), (2, .int i2), (3, .int i3)], [.int (Int32.ofInt 0)], (x, p10.2, y))) rfl ?_
                obtain rfl := Option.some.inj h
                exact qE.ret hd9 rfl rfl
              · rw [if_neg c12] at h
                rw [if_neg c12]
                refine qE.steps 2 hd9 (s' := (4, [(2, .int (i2 + Int32.ofInt (-1))), (0, .ref 64), (1, .int i1), (3, .int i3)], [], (x, p10.2, y))) rfl ?_
                exact qE.wk (ih h) ⟨rfl, rfl, rfl, rfl, trivial⟩ rfl
            · rw [if_neg c9] at h
              rw [if_neg c9]
              obtain ⟨σ13, e14, h⟩ := qlet_ex h
              refine qE.steps 6 hd9 (s' := (167, [(0, .ref 64), (1, .int i1), (2, .int i2), (3, .int i3)], [], (x, σ13, y))) (by subst e14; rfl) ?_
              refine qE.steps 4 hd9 (s' := (173, [(0, .ref 64), (1, .int i1), (2, .int i2), (3, .int i3)], [.int i2, .ref 69, .int i2, .ref 69], (x, σ13, y))) rfl ?_
              obtain ⟨x15, e16, h⟩ := obind h
              refine qE.iald hd9 e16 rfl rfl ?_
              refine qE.steps 2 hd9 (s' := (176, [(0, .ref 64), (1, .int i1), (2, .int i2), (3, .int i3)], [.int (x15 + (Int32.ofInt 1)), .int i2, .ref 69], (x, σ13, y))) rfl ?_
              obtain ⟨σ17, e18, h⟩ := obind h
              refine qE.iastM hd9 e18 rfl rfl ?_
              refine qE.steps 3 hd9 (s' := (4, [(3, .int (Int32.ofInt 1)), (0, .ref 64), (1, .int i1), (2, .int i2)], [], (x, σ17, y))) rfl ?_
              exact qE.wk (ih h) ⟨rfl, rfl, rfl, rfl, trivial⟩ rfl
          · rw [if_neg c6] at h
            rw [if_pos c6]
            refine qE.steps 2 hd9 (s' := (185, [(0, .ref 64), (1, .int i1), (2, .int i2), (3, .int i3)], [.int (Int32.ofInt 41), .ref 64], (x, σ, y))) rfl ?_
            obtain ⟨p19, e20, h⟩ := obind h
            refine qE.call hd9 rfl rfl rfl rfl (t_m_passes_136 (by omega) e20) ?_
            refine qE.steps 0 hd9 (s' := (188, [(0, .ref 64), (1, .int i1), (2, .int i2), (3, .int i3)], [.int p19.1], (x, p19.2, y))) rfl ?_
            refine qE.steps 1 hd9 (s' := (if p19.1 = 0 then 197 else 191, [(0, .ref 64), (1, .int i1), (2, .int i2), (3, .int i3)], [], (x, p19.2, y))) rfl ?_
            by_cases c21 : p19.1 = 0
            · rw [if_pos c21] at h
              rw [if_pos c21]
              refine qE.steps 1 hd9 (s' := (198, [(0, .ref 64), (1, .int i1), (2, .int i2), (3, .int i3)], [.int (Int32.ofInt 0)], (x, p19.2, y))) rfl ?_
              obtain rfl := Option.some.inj h
              exact qE.ret hd9 rfl rfl
            · rw [if_neg c21] at h
              rw [if_neg c21]
              refine qE.steps 2 hd9 (s' := (4, [(2, .int (i2 + Int32.ofInt (-1))), (0, .ref 64), (1, .int i1), (3, .int i3)], [], (x, p19.2, y))) rfl ?_
              exact qE.wk (ih h) ⟨rfl, rfl, rfl, rfl, trivial⟩ rfl
      · rw [if_neg c2] at h
        rw [if_neg c2]
        refine qE.steps 1 hd9 (s' := (13, [(0, .ref 64), (1, .int i1), (2, .int i2), (3, .int i3)], [.ref 64], (x, σ, y))) rfl ?_
        obtain ⟨p22, e23, h⟩ := obind h
        refine qE.call hd9 rfl rfl rfl rfl (t_m_look_135 (by omega) e23) ?_
        refine qE.steps 0 hd9 (s' := (16, [(0, .ref 64), (1, .int i1), (2, .int i2), (3, .int i3)], [.int p22], (x, σ, y))) rfl ?_
        refine qE.steps 4 hd9 (s' := (24, [(4, .int p22), (0, .ref 64), (1, .int i1), (2, .int i2), (3, .int i3)], [.int (Int32.ofInt 122), .int (Int32.ofInt 97), .int p22], (x, σ, y))) rfl ?_
        refine qE.call hd9 rfl rfl rfl rfl (t_m_in_129 (by omega) rfl) ?_
        refine qE.steps 0 hd9 (s' := (27, [(4, .int p22), (0, .ref 64), (1, .int i1), (2, .int i2), (3, .int i3)], [.int (m_in_129 p22 (Int32.ofInt 97) (Int32.ofInt 122))], (x, σ, y))) rfl ?_
        obtain ⟨x24, e25, h⟩ := qlet_ex h
        refine qE.steps 1 hd9 (s' := (29, [(5, .int x24), (4, .int p22), (0, .ref 64), (1, .int i1), (2, .int i2), (3, .int i3)], [], (x, σ, y))) (by subst e25; rfl) ?_
        refine qE.steps 2 hd9 (s' := (if ¬ (x24 = 0) then 69 else 34, [(5, .int x24), (4, .int p22), (0, .ref 64), (1, .int i1), (2, .int i2), (3, .int i3)], [], (x, σ, y))) rfl ?_
        by_cases c26 : x24 = 0
        · rw [if_pos c26] at h
          rw [if_neg (not_not_intro c26)]
          refine qE.steps 2 hd9 (s' := (if i1 = 0 then 43 else 38, [(5, .int x24), (4, .int p22), (0, .ref 64), (1, .int i1), (2, .int i2), (3, .int i3)], [], (x, σ, y))) rfl ?_
          by_cases c27 : i1 = 0
          · rw [if_pos c27] at h
            rw [if_pos c27]
            refine qE.steps 3 hd9 (s' := (49, [(5, .int x24), (4, .int p22), (0, .ref 64), (1, .int i1), (2, .int i2), (3, .int i3)], [.int (Int32.ofInt 90), .int (Int32.ofInt 65), .int p22], (x, σ, y))) rfl ?_
            refine qE.call hd9 rfl rfl rfl rfl (t_m_in_129 (by omega) rfl) ?_
            refine qE.steps 0 hd9 (s' := (52, [(5, .int x24), (4, .int p22), (0, .ref 64), (1, .int i1), (2, .int i2), (3, .int i3)], [.int (m_in_129 p22 (Int32.ofInt 65) (Int32.ofInt 90))], (x, σ, y))) rfl ?_
            refine qE.steps 1 hd9 (s' := (if ¬ (m_in_129 p22 (Int32.ofInt 65) (Int32.ofInt 90) = 0) then 69 else 55, [(5, .int x24), (4, .int p22), (0, .ref 64), (1, .int i1), (2, .int i2), (3, .int i3)], [], (x, σ, y))) rfl ?_
            by_cases c28 : m_in_129 p22 (Int32.ofInt 65) (Int32.ofInt 90) = 0
            · rw [if_pos c28] at h
              rw [if_neg (not_not_intro c28)]
              refine qE.steps 3 hd9 (s' := (61, [(5, .int x24), (4, .int p22), (0, .ref 64), (1, .int i1), (2, .int i2), (3, .int i3)], [.int (Int32.ofInt 57), .int (Int32.ofInt 48), .int p22], (x, σ, y))) rfl ?_
              refine qE.call hd9 rfl rfl rfl rfl (t_m_in_129 (by omega) rfl) ?_
              refine qE.steps 0 hd9 (s' := (64, [(5, .int x24), (4, .int p22), (0, .ref 64), (1, .int i1), (2, .int i2), (3, .int i3)], [.int (m_in_129 p22 (Int32.ofInt 48) (Int32.ofInt 57))], (x, σ, y))) rfl ?_
              refine qE.steps 1 hd9 (s' := (if ¬ (m_in_129 p22 (Int32.ofInt 48) (Int32.ofInt 57) = 0) then 69 else 67, [(5, .int x24), (4, .int p22), (0, .ref 64), (1, .int i1), (2, .int i2), (3, .int i3)], [], (x, σ, y))) rfl ?_
              by_cases c29 : m_in_129 p22 (Int32.ofInt 48) (Int32.ofInt 57) = 0
              · rw [if_pos c29] at h
                rw [if_neg (not_not_intro c29)]
                refine qE.steps 1 hd9 (s' := (68, [(5, .int x24), (4, .int p22), (0, .ref 64), (1, .int i1), (2, .int i2), (3, .int i3)], [.int (Int32.ofInt 0)], (x, σ, y))) rfl ?_
                obtain rfl := Option.some.inj h
                exact qE.ret hd9 rfl rfl
              · rw [if_neg c29] at h
                rw [if_pos c29]
                obtain ⟨σ30, e31, h⟩ := qlet_ex h
                refine qE.steps 6 hd9 (s' := (79, [(5, .int x24), (4, .int p22), (0, .ref 64), (1, .int i1), (2, .int i2), (3, .int i3)], [], (x, σ30, y))) (by subst e31; rfl) ?_
                refine qE.steps 4 hd9 (s' := (if x24 = 0 then 125 else 86, [(3, .int (Int32.ofInt 0)), (5, .int x24), (4, .int p22), (0, .ref 64), (1, .int i1), (2, .int i2)], [], (x, σ30, y))) rfl ?_
                rw [if_pos c26]
                exact qE.wk (t_m_readTerm_134_j125 hd ih h) ⟨rfl, rfl, rfl, rfl, trivial⟩ rfl
            · rw [if_neg c28] at h
              rw [if_pos c28]
              obtain ⟨σ33, e34, h⟩ := qlet_ex h
              refine qE.steps 6 hd9 (s' := (79, [(5, .int x24), (4, .int p22), (0, .ref 64), (1, .int i1), (2, .int i2), (3, .int i3)], [], (x, σ33, y))) (by subst e34; rfl) ?_
              refine qE.steps 4 hd9 (s' := (if x24 = 0 then 125 else 86, [(3, .int (Int32.ofInt 0)), (5, .int x24), (4, .int p22), (0, .ref 64), (1, .int i1), (2, .int i2)], [], (x, σ33, y))) rfl ?_
              rw [if_pos c26]
              exact qE.wk (t_m_readTerm_134_j125 hd ih h) ⟨rfl, rfl, rfl, rfl, trivial⟩ rfl
          · rw [if_neg c27] at h
            rw [if_neg c27]
            refine qE.steps 3 hd9 (s' := (if i2 = Int32.ofInt 1 then 67 else 43, [(5, .int x24), (4, .int p22), (0, .ref 64), (1, .int i1), (2, .int i2), (3, .int i3)], [], (x, σ, y))) rfl ?_
            by_cases c36 : i2 = Int32.ofInt 1
            · rw [if_pos c36] at h
              rw [if_pos c36]
              refine qE.steps 1 hd9 (s' := (68, [(5, .int x24), (4, .int p22), (0, .ref 64), (1, .int i1), (2, .int i2), (3, .int i3)], [.int (Int32.ofInt 0)], (x, σ, y))) rfl ?_
              obtain rfl := Option.some.inj h
              exact qE.ret hd9 rfl rfl
            · rw [if_neg c36] at h
              rw [if_neg c36]
              refine qE.steps 3 hd9 (s' := (49, [(5, .int x24), (4, .int p22), (0, .ref 64), (1, .int i1), (2, .int i2), (3, .int i3)], [.int (Int32.ofInt 90), .int (Int32.ofInt 65), .int p22], (x, σ, y))) rfl ?_
              refine qE.call hd9 rfl rfl rfl rfl (t_m_in_129 (by omega) rfl) ?_
              refine qE.steps 0 hd9 (s' := (52, [(5, .int x24), (4, .int p22), (0, .ref 64), (1, .int i1), (2, .int i2), (3, .int i3)], [.int (m_in_129 p22 (Int32.ofInt 65) (Int32.ofInt 90))], (x, σ, y))) rfl ?_
              refine qE.steps 1 hd9 (s' := (if ¬ (m_in_129 p22 (Int32.ofInt 65) (Int32.ofInt 90) = 0) then 69 else 55, [(5, .int x24), (4, .int p22), (0, .ref 64), (1, .int i1), (2, .int i2), (3, .int i3)], [], (x, σ, y))) rfl ?_
              by_cases c37 : m_in_129 p22 (Int32.ofInt 65) (Int32.ofInt 90) = 0
              · rw [if_pos c37] at h
                rw [if_neg (not_not_intro c37)]
                refine qE.steps 3 hd9 (s' := (61, [(5, .int x24), (4, .int p22), (0, .ref 64), (1, .int i1), (2, .int i2), (3, .int i3)], [.int (Int32.ofInt 57), .int (Int32.ofInt 48), .int p22], (x, σ, y))) rfl ?_
                refine qE.call hd9 rfl rfl rfl rfl (t_m_in_129 (by omega) rfl) ?_
                refine qE.steps 0 hd9 (s' := (64, [(5, .int x24), (4, .int p22), (0, .ref 64), (1, .int i1), (2, .int i2), (3, .int i3)], [.int (m_in_129 p22 (Int32.ofInt 48) (Int32.ofInt 57))], (x, σ, y))) rfl ?_
                refine qE.steps 1 hd9 (s' := (if ¬ (m_in_129 p22 (Int32.ofInt 48) (Int32.ofInt 57) = 0) then 69 else 67, [(5, .int x24), (4, .int p22), (0, .ref 64), (1, .int i1), (2, .int i2), (3, .int i3)], [], (x, σ, y))) rfl ?_
                by_cases c38 : m_in_129 p22 (Int32.ofInt 48) (Int32.ofInt 57) = 0
                · rw [if_pos c38] at h
                  rw [if_neg (not_not_intro c38)]
                  refine qE.steps 1 hd9 (s' := (68, [(5, .int x24), (4, .int p22), (0, .ref 64), (1, .int i1), (2, .int i2), (3, .int i3)], [.int (Int32.ofInt 0)], (x, σ, y))) rfl ?_
                  obtain rfl := Option.some.inj h
                  exact qE.ret hd9 rfl rfl
                · rw [if_neg c38] at h
                  rw [if_pos c38]
                  obtain ⟨σ39, e40, h⟩ := qlet_ex h
                  refine qE.steps 6 hd9 (s' := (79, [(5, .int x24), (4, .int p22), (0, .ref 64), (1, .int i1), (2, .int i2), (3, .int i3)], [], (x, σ39, y))) (by subst e40; rfl) ?_
                  refine qE.steps 4 hd9 (s' := (if x24 = 0 then 125 else 86, [(3, .int (Int32.ofInt 0)), (5, .int x24), (4, .int p22), (0, .ref 64), (1, .int i1), (2, .int i2)], [], (x, σ39, y))) rfl ?_
                  rw [if_pos c26]
                  exact qE.wk (t_m_readTerm_134_j125 hd ih h) ⟨rfl, rfl, rfl, rfl, trivial⟩ rfl
              · rw [if_neg c37] at h
                rw [if_pos c37]
                obtain ⟨σ42, e43, h⟩ := qlet_ex h
                refine qE.steps 6 hd9 (s' := (79, [(5, .int x24), (4, .int p22), (0, .ref 64), (1, .int i1), (2, .int i2), (3, .int i3)], [], (x, σ42, y))) (by subst e43; rfl) ?_
                refine qE.steps 4 hd9 (s' := (if x24 = 0 then 125 else 86, [(3, .int (Int32.ofInt 0)), (5, .int x24), (4, .int p22), (0, .ref 64), (1, .int i1), (2, .int i2)], [], (x, σ42, y))) rfl ?_
                rw [if_pos c26]
                exact qE.wk (t_m_readTerm_134_j125 hd ih h) ⟨rfl, rfl, rfl, rfl, trivial⟩ rfl
        · rw [if_neg c26] at h
          rw [if_pos c26]
          obtain ⟨σ45, e46, h⟩ := qlet_ex h
          refine qE.steps 6 hd9 (s' := (79, [(5, .int x24), (4, .int p22), (0, .ref 64), (1, .int i1), (2, .int i2), (3, .int i3)], [], (x, σ45, y))) (by subst e46; rfl) ?_
          refine qE.steps 4 hd9 (s' := (if x24 = 0 then 125 else 86, [(3, .int (Int32.ofInt 0)), (5, .int x24), (4, .int p22), (0, .ref 64), (1, .int i1), (2, .int i2)], [], (x, σ45, y))) rfl ?_
          rw [if_neg c26]
          refine qE.steps 1 hd9 (s' := (87, [(3, .int (Int32.ofInt 0)), (5, .int x24), (4, .int p22), (0, .ref 64), (1, .int i1), (2, .int i2)], [.ref 64], (x, σ45, y))) rfl ?_
          obtain ⟨p48, e49, h⟩ := obind h
          refine qE.call hd9 rfl rfl rfl rfl (t_m_look_135 (by omega) e49) ?_
          refine qE.steps 0 hd9 (s' := (90, [(3, .int (Int32.ofInt 0)), (5, .int x24), (4, .int p22), (0, .ref 64), (1, .int i1), (2, .int i2)], [.int p48], (x, σ45, y))) rfl ?_
          refine qE.steps 2 hd9 (s' := (if ¬ (p48 = Int32.ofInt 40) then 125 else 95, [(3, .int (Int32.ofInt 0)), (5, .int x24), (4, .int p22), (0, .ref 64), (1, .int i1), (2, .int i2)], [], (x, σ45, y))) rfl ?_
          by_cases c50 : p48 = Int32.ofInt 40
          · rw [if_pos c50] at h
            rw [if_neg (not_not_intro c50)]
            refine qE.steps 3 hd9 (s' := (if ¬ (i2 = Int32.ofInt 6) then 103 else 101, [(3, .int (Int32.ofInt 0)), (5, .int x24), (4, .int p22), (0, .ref 64), (1, .int i1), (2, .int i2)], [], (x, σ45, y))) rfl ?_
            by_cases c51 : i2 = Int32.ofInt 6
            · rw [if_pos c51] at h
              rw [if_neg (not_not_intro c51)]
              refine qE.steps 1 hd9 (s' := (102, [(3, .int (Int32.ofInt 0)), (5, .int x24), (4, .int p22), (0, .ref 64), (1, .int i1), (2, .int i2)], [.int (Int32.ofInt 0)], (x, σ45, y))) rfl ?_
              obtain rfl := Option.some.inj h
              exact qE.ret hd9 rfl rfl
            · rw [if_neg c51] at h
              rw [if_pos c51]
              obtain ⟨σ52, e53, h⟩ := qlet_ex h
              refine qE.steps 6 hd9 (s' := (113, [(3, .int (Int32.ofInt 0)), (5, .int x24), (4, .int p22), (0, .ref 64), (1, .int i1), (2, .int i2)], [], (x, σ52, y))) (by subst e53; rfl) ?_
              refine qE.steps 5 hd9 (s' := (122, [(2, .int (i2 + Int32.ofInt 1)), (3, .int (Int32.ofInt 0)), (5, .int x24), (4, .int p22), (0, .ref 64), (1, .int i1)], [.int (Int32.ofInt 1), .int (i2 + Int32.ofInt 1), .ref 69], (x, σ52, y))) rfl ?_
              obtain ⟨σ54, e55, h⟩ := obind h
              refine qE.iastM hd9 e55 rfl rfl ?_
              refine qE.steps 2 hd9 (s' := (125, [(3, .int (Int32.ofInt 1)), (2, .int (i2 + Int32.ofInt 1)), (5, .int x24), (4, .int p22), (0, .ref 64), (1, .int i1)], [], (x, σ54, y))) rfl ?_
              exact qE.wk (t_m_readTerm_134_j125 hd ih h) ⟨rfl, rfl, rfl, rfl, trivial⟩ rfl
          · rw [if_neg c50] at h
            rw [if_pos c50]
            exact qE.wk (t_m_readTerm_134_j125 hd ih h) ⟨rfl, rfl, rfl, rfl, trivial⟩ rfl
set_option maxRecDepth 20000 in
theorem t_m_readTerm_134 {S : Nat × (Nat → Int32)} {d : Nat} {x : qC} {y : Int64 × Nat} {i1 : Int32} {σ : qC} {p : (Int32 × qC)} (hd : 11 ≤ d) (h : m_readTerm_134 i1 σ = some p) : qE S d jm_12_readTerm_134 (0, [(0, .ref 64), (1, .int i1)], [], (x, σ, y)) ((.inl (some (.int p.1)), (x, p.2, y))) := by
  have hd9 : 9 ≤ d := by omega
  unfold m_readTerm_134 at h
  refine qE.steps 4 hd9 (s' := (4, [(3, .int (Int32.ofInt 1)), (2, .int (Int32.ofInt 1)), (0, .ref 64), (1, .int i1)], [], (x, σ, y))) rfl ?_
  exact qE.wk (t_m_readTerm_134_l4 hd qF h) ⟨rfl, rfl, rfl, rfl, trivial⟩ rfl
