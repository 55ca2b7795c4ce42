/-! BY PROGRAM (wip/whole/gendc.py): each method as a function over the numbers -/
def m_fits_151_j116 (K28 : Int32 → Int32 → Int32 → Int32 → Int32 → qC → Option Int32) (i1 : Int32) (i2 : Int32) (i3 : Int32) (i4 : Int32) (i5 : Int32) (σ : qC) : Option Int32 := if i3 = 0 then (aget (σ.2 73) 24000 i2).bind (fun x2 => if i4 = x2 then some (Int32.ofInt 1) else some (Int32.ofInt 0)) else K28 i1 i2 i3 i4 (i5 + Int32.ofInt 1) σ
def m_fits_151_j103 (K28 : Int32 → Int32 → Int32 → Int32 → Int32 → qC → Option Int32) (i1 : Int32) (i2 : Int32) (i3 : Int32) (i4 : Int32) (i5 : Int32) (i6 : Int32) (σ : qC) : Option Int32 := if i6 = Int32.ofInt 41 then m_fits_151_j116 K28 i1 i2 (i3 + Int32.ofInt (-1)) (i4 + Int32.ofInt 1) i5 σ else m_fits_151_j116 K28 i1 i2 i3 (i4 + Int32.ofInt 1) i5 σ
def m_fits_151_j91 (K28 : Int32 → Int32 → Int32 → Int32 → Int32 → qC → Option Int32) (i1 : Int32) (i2 : Int32) (i3 : Int32) (i4 : Int32) (i5 : Int32) (i6 : Int32) (σ : qC) : Option Int32 := if i6 = Int32.ofInt 44 then if i3 = Int32.ofInt 1 then m_fits_151_j103 K28 i1 i2 i3 i4 i5 i6 σ else if i6 = Int32.ofInt 41 then m_fits_151_j116 K28 i1 i2 (i3 + Int32.ofInt (-1)) i4 i5 σ else m_fits_151_j116 K28 i1 i2 i3 i4 i5 σ else if i6 = Int32.ofInt 41 then m_fits_151_j116 K28 i1 i2 (i3 + Int32.ofInt (-1)) i4 i5 σ else m_fits_151_j116 K28 i1 i2 i3 i4 i5 σ
def m_fits_151_j79 (K28 : Int32 → Int32 → Int32 → Int32 → Int32 → qC → Option Int32) (i1 : Int32) (i2 : Int32) (i3 : Int32) (i4 : Int32) (i5 : Int32) (i6 : Int32) (σ : qC) : Option Int32 := if i6 = Int32.ofInt 40 then if i3 = Int32.ofInt 1 then m_fits_151_j103 K28 i1 i2 i3 i4 i5 i6 σ else m_fits_151_j91 K28 i1 i2 i3 i4 i5 i6 σ else m_fits_151_j91 K28 i1 i2 i3 i4 i5 i6 σ
def m_fits_151_j69 (K28 : Int32 → Int32 → Int32 → Int32 → Int32 → qC → Option Int32) (i1 : Int32) (i2 : Int32) (i3 : Int32) (i4 : Int32) (i5 : Int32) (i6 : Int32) (σ : qC) : Option Int32 := if i6 = Int32.ofInt 40 then m_fits_151_j79 K28 i1 i2 (i3 + Int32.ofInt 1) i4 i5 i6 σ else m_fits_151_j79 K28 i1 i2 i3 i4 i5 i6 σ
def m_fits_151_l28 : Nat → Int32 → Int32 → Int32 → Int32 → Int32 → qC → Option Int32
  | 0, _, _, _, _, _, _ => none
  | n + 1, i1, i2, i3, i4, i5, σ => (aget (σ.2 67) 12 i1).bind (fun x1 => if x1 ≤ i5 then (aget (σ.2 73) 24000 i2).bind (fun x4 => if i4 = x4 then some (Int32.ofInt 1) else some (Int32.ofInt 0)) else (aget (σ.2 66) 624 ((i1 * (Int32.ofInt 48)) + i5)).bind (fun x7 => if i5 = Int32.ofInt 1 then if x7 = Int32.ofInt 40 then m_fits_151_j69 (m_fits_151_l28 n) i1 i2 i3 i4 i5 x7 σ else (aget (σ.2 73) 24000 i2).bind (fun x11 => if i4 = x11 then some (Int32.ofInt 1) else some (Int32.ofInt 0)) else m_fits_151_j69 (m_fits_151_l28 n) i1 i2 i3 i4 i5 x7 σ))
def m_fits_151 (i1 : Int32) (i2 : Int32) (σ : qC) : Option Int32 := (aget (σ.2 66) 624 (i1 * (Int32.ofInt 48))).bind (fun x1 => (aget (σ.2 72) 24000 i2).bind (fun x3 => if x1 = x3 then m_fits_151_l28 qF i1 i2 (Int32.ofInt 0) (Int32.ofInt 0) (Int32.ofInt 1) σ else some (Int32.ofInt 0)))
set_option maxRecDepth 20000 in
theorem t_m_fits_151_j116 {S : Nat × (Nat → Int32)} {d : Nat} {x : qC} {y : Int64 × Nat} (hd : 9 ≤ d) {K28 : Int32 → Int32 → Int32 → Int32 → Int32 → qC → Option Int32} (hK28 : ∀ {i1 : Int32} {i2 : Int32} {i3 : Int32} {i4 : Int32} {i5 : Int32} {σ : qC} {p : Int32}, K28 i1 i2 i3 i4 i5 σ = some p → qE S d jm_12_fits_151 (28, [(0, .ref 64), (1, .int i1), (2, .int i2), (3, .int i3), (4, .int i4), (5, .int i5)], [], (x, σ, y)) ((.inl (some (.int p)), (x, σ, y)))) {i1 : Int32} {i2 : Int32} {i3 : Int32} {i4 : Int32} {i5 : Int32} {σ : qC} {p : Int32} (h : m_fits_151_j116 K28 i1 i2 i3 i4 i5 σ = some p) : qE S d jm_12_fits_151 (116, [(0, .ref 64), (1, .int i1), (2, .int i2), (3, .int i3), (4, .int i4), (5, .int i5)], [], (x, σ, y)) ((.inl (some (.int p)), (x, σ, y))) := by
  have hd9 : 9 ≤ d := by omega
  unfold m_fits_151_j116 at h
  refine qE.steps 2 hd9 (s' := (if ¬ (i3 = 0) then 123 else 120, [(0, .ref 64), (1, .int i1), (2, .int i2), (3, .int i3), (4, .int i4), (5, .int i5)], [], (x, σ, y))) rfl ?_
  by_cases c1 : i3 = 0
  · rw [if_pos c1] at h
    rw [if_neg (not_not_intro c1)]
    refine qE.steps 5 hd9 (s' := (136, [(0, .ref 64), (1, .int i1), (2, .int i2), (3, .int i3), (4, .int i4), (5, .int i5)], [.int i2, .ref 73, .int i4], (x, σ, y))) rfl ?_
    obtain ⟨x2, e3, h⟩ := obind h
    refine qE.iald hd9 e3 rfl rfl ?_
    refine qE.steps 1 hd9 (s' := (if ¬ (i4 = x2) then 144 else 140, [(0, .ref 64), (1, .int i1), (2, .int i2), (3, .int i3), (4, .int i4), (5, .int i5)], [], (x, σ, y))) rfl ?_
    by_cases c4 : i4 = x2
    · rw [if_pos c4] at h
      rw [if_neg (not_not_intro c4)]
      refine qE.steps 2 hd9 (s' := (145, [(0, .ref 64), (1, .int i1), (2, .int i2), (3, .int i3), (4, .int i4), (5, .int i5)], [.int (Int32.ofInt 1)], (x, σ, y))) rfl ?_
      obtain rfl := Option.some.inj h
      exact qE.ret hd9 rfl rfl
    · rw [if_neg c4] at h
      rw [if_pos c4]
      refine qE.steps 1 hd9 (s' := (145, [(0, .ref 64), (1, .int i1), (2, .int i2), (3, .int i3), (4, .int i4), (5, .int i5)], [.int (Int32.ofInt 0)], (x, σ, y))) rfl ?_
      obtain rfl := Option.some.inj h
      exact qE.ret hd9 rfl rfl
  · rw [if_neg c1] at h
    rw [if_pos c1]
    refine qE.steps 2 hd9 (s' := (28, [(5, .int (i5 + Int32.ofInt 1)), (0, .ref 64), (1, .int i1), (2, .int i2), (3, .int i3), (4, .int i4)], [], (x, σ, y))) rfl ?_
    exact qE.wk (hK28 h) ⟨rfl, rfl, rfl, rfl, rfl, rfl, trivial⟩ rfl
set_option maxRecDepth 20000 in
theorem t_m_fits_151_j103 {S : Nat × (Nat → Int32)} {d : Nat} {x : qC} {y : Int64 × Nat} (hd : 9 ≤ d) {K28 : Int32 → Int32 → Int32 → Int32 → Int32 → qC → Option Int32} (hK28 : ∀ {i1 : Int32} {i2 : Int32} {i3 : Int32} {i4 : Int32} {i5 : Int32} {σ : qC} {p : Int32}, K28 i1 i2 i3 i4 i5 σ = some p → qE S d jm_12_fits_151 (28, [(0, .ref 64), (1, .int i1), (2, .int i2), (3, .int i3), (4, .int i4), (5, .int i5)], [], (x, σ, y)) ((.inl (some (.int p)), (x, σ, y)))) {i1 : Int32} {i2 : Int32} {i3 : Int32} {i4 : Int32} {i5 : Int32} {i6 : Int32} {σ : qC} {p : Int32} (h : m_fits_151_j103 K28 i1 i2 i3 i4 i5 i6 σ = some p) : qE S d jm_12_fits_151 (103, [(0, .ref 64), (1, .int i1), (2, .int i2), (3, .int i3), (4, .int i4), (5, .int i5), (6, .int i6)], [], (x, σ, y)) ((.inl (some (.int p)), (x, σ, y))) := by
  have hd9 : 9 ≤ d := by omega
  unfold m_fits_151_j103 at h
  refine qE.steps 4 hd9 (s' := (if ¬ (i6 = Int32.ofInt 41) then 116 else 113, [(4, .int (i4 + Int32.ofInt 1)), (0, .ref 64), (1, .int i1), (2, .int i2), (3, .int i3), (5, .int i5), (6, .int i6)], [], (x, σ, y))) rfl ?_
  by_cases c1 : i6 = Int32.ofInt 41
  · rw [if_pos c1] at h
    rw [if_neg (not_not_intro c1)]
    refine qE.steps 1 hd9 (s' := (116, [(3, .int (i3 + Int32.ofInt (-1))), (4, .int (i4 + Int32.ofInt 1)), (0, .ref 64), (1, .int i1), (2, .int i2), (5, .int i5), (6, .int i6)], [], (x, σ, y))) rfl ?_
    exact qE.wk (t_m_fits_151_j116 hd hK28 h) ⟨rfl, rfl, rfl, rfl, rfl, rfl, trivial⟩ rfl
  · rw [if_neg c1] at h
    rw [if_pos c1]
    exact qE.wk (t_m_fits_151_j116 hd hK28 h) ⟨rfl, rfl, rfl, rfl, rfl, rfl, trivial⟩ rfl
set_option maxRecDepth 20000 in
theorem t_m_fits_151_j91 {S : Nat × (Nat → Int32)} {d : Nat} {x : qC} {y : Int64 × Nat} (hd : 9 ≤ d) {K28 : Int32 → Int32 → Int32 → Int32 → Int32 → qC → Option Int32} (hK28 : ∀ {i1 : Int32} {i2 : Int32} {i3 : Int32} {i4 : Int32} {i5 : Int32} {σ : qC} {p : Int32}, K28 i1 i2 i3 i4 i5 σ = some p → qE S d jm_12_fits_151 (28, [(0, .ref 64), (1, .int i1), (2, .int i2), (3, .int i3), (4, .int i4), (5, .int i5)], [], (x, σ, y)) ((.inl (some (.int p)), (x, σ, y)))) {i1 : Int32} {i2 : Int32} {i3 : Int32} {i4 : Int32} {i5 : Int32} {i6 : Int32} {σ : qC} {p : Int32} (h : m_fits_151_j91 K28 i1 i2 i3 i4 i5 i6 σ = some p) : qE S d jm_12_fits_151 (91, [(0, .ref 64), (1, .int i1), (2, .int i2), (3, .int i3), (4, .int i4), (5, .int i5), (6, .int i6)], [], (x, σ, y)) ((.inl (some (.int p)), (x, σ, y))) := by
  have hd9 : 9 ≤ d := by omega
  unfold m_fits_151_j91 at h
  refine qE.steps 3 hd9 (s' := (if ¬ (i6 = Int32.ofInt 44) then 106 else 98, [(0, .ref 64), (1, .int i1), (2, .int i2), (3, .int i3), (4, .int i4), (5, .int i5), (6, .int i6)], [], (x, σ, y))) rfl ?_
  by_cases c1 : i6 = Int32.ofInt 44
  · rw [if_pos c1] at h
    rw [if_neg (not_not_intro c1)]
    refine qE.steps 3 hd9 (s' := (if ¬ (i3 = Int32.ofInt 1) then 106 else 103, [(0, .ref 64), (1, .int i1), (2, .int i2), (3, .int i3), (4, .int i4), (5, .int i5), (6, .int i6)], [], (x, σ, y))) rfl ?_
    by_cases c2 : i3 = Int32.ofInt 1
    · rw [if_pos c2] at h
      rw [if_neg (not_not_intro c2)]
      exact qE.wk (t_m_fits_151_j103 hd hK28 h) ⟨rfl, rfl, rfl, rfl, rfl, rfl, rfl, trivial⟩ rfl
    · rw [if_neg c2] at h
      rw [if_pos c2]
      refine qE.steps 3 hd9 (s' := (if ¬ (i6 = Int32.ofInt 41) then 116 else 113, [(0, .ref 64), (1, .int i1), (2, .int i2), (3, .int i3), (4, .int i4), (5, .int i5), (6, .int i6)], [], (x, σ, y))) rfl ?_
      by_cases c3 : i6 = Int32.ofInt 41
      · rw [if_pos c3] at h
        rw [if_neg (not_not_intro c3)]
        refine qE.steps 1 hd9 (s' := (116, [(3, .int (i3 + Int32.ofInt (-1))), (0, .ref 64), (1, .int i1), (2, .int i2), (4, .int i4), (5, .int i5), (6, .int i6)], [], (x, σ, y))) rfl ?_
        exact qE.wk (t_m_fits_151_j116 hd hK28 h) ⟨rfl, rfl, rfl, rfl, rfl, rfl, trivial⟩ rfl
      · rw [if_neg c3] at h
        rw [if_pos c3]
        exact qE.wk (t_m_fits_151_j116 hd hK28 h) ⟨rfl, rfl, rfl, rfl, rfl, rfl, trivial⟩ rfl
  · rw [if_neg c1] at h
    rw [if_pos c1]
    refine qE.steps 3 hd9 (s' := (if ¬ (i6 = Int32.ofInt 41) then 116 else 113, [(0, .ref 64), (1, .int i1), (2, .int i2), (3, .int i3), (4, .int i4), (5, .int i5), (6, .int i6)], [], (x, σ, y))) rfl ?_
    by_cases c4 : i6 = Int32.ofInt 41
    · rw [if_pos c4] at h
      rw [if_neg (not_not_intro c4)]
      refine qE.steps 1 hd9 (s' := (116, [(3, .int (i3 + Int32.ofInt (-1))), (0, .ref 64), (1, .int i1), (2, .int i2), (4, .int i4), (5, .int i5), (6, .int i6)], [], (x, σ, y))) rfl ?_
      exact qE.wk (t_m_fits_151_j116 hd hK28 h) ⟨rfl, rfl, rfl, rfl, rfl, rfl, trivial⟩ rfl
    · rw [if_neg c4] at h
      rw [if_pos c4]
      exact qE.wk (t_m_fits_151_j116 hd hK28 h) ⟨rfl, rfl, rfl, rfl, rfl, rfl, trivial⟩ rfl
set_option maxRecDepth 20000 in
theorem t_m_fits_151_j79 {S : Nat × (Nat → Int32)} {d : Nat} {x : qC} {y : Int64 × Nat} (hd : 9 ≤ d) {K28 : Int32 → Int32 → Int32 → Int32 → Int32 → qC → Option Int32} (hK28 : ∀ {i1 : Int32} {i2 : Int32} {i3 : Int32} {i4 : Int32} {i5 : Int32} {σ : qC} {p : Int32}, K28 i1 i2 i3 i4 i5 σ = some p → qE S d jm_12_fits_151 (28, [(0, .ref 64), (1, .int i1), (2, .int i2), (3, .int i3), (4, .int i4), (5, .int i5)], [], (x, σ, y)) ((.inl (some (.int p)), (x, σ, y)))) {i1 : Int32} {i2 : Int32} {i3 : Int32} {i4 : Int32} {i5 : Int32} {i6 : Int32} {σ : qC} {p : Int32} (h : m_fits_151_j79 K28 i1 i2 i3 i4 i5 i6 σ = some p) : qE S d jm_12_fits_151 (79, [(0, .ref 64), (1, .int i1), (2, .int i2), (3, .int i3), (4, .int i4), (5, .int i5), (6, .int i6)], [], (x, σ, y)) ((.inl (some (.int p)), (x, σ, y))) := by
  have hd9 : 9 ≤ d := by omega
  unfold m_fits_151_j79 at h
  refine qE.steps 3 hd9 (s' := (if ¬ (i6 = Int32.ofInt 40) then 91 else 86, [(0, .ref 64), (1, .int i1), (2, .int i2), (3, .int i3), (4, .int i4), (5, .int i5), (6, .int i6)], [], (x, σ, y))) rfl ?_
  by_cases c1 : i6 = Int32.ofInt 40
  · rw [if_pos c1] at h
    rw [if_neg (not_not_intro c1)]
    refine qE.steps 3 hd9 (s' := (if i3 = Int32.ofInt 1 then 103 else 91, [(0, .ref 64), (1, .int i1), (2, .int i2), (3, .int i3), (4, .int i4), (5, .int i5), (6, .int i6)], [], (x, σ, y))) rfl ?_
    by_cases c2 : i3 = Int32.ofInt 1
    · rw [if_pos c2] at h
      rw [if_pos c2]
      exact qE.wk (t_m_fits_151_j103 hd hK28 h) ⟨rfl, rfl, rfl, rfl, rfl, rfl, rfl, trivial⟩ rfl
    · rw [if_neg c2] at h
      rw [if_neg c2]
      exact qE.wk (t_m_fits_151_j91 hd hK28 h) ⟨rfl, rfl, rfl, rfl, rfl, rfl, rfl, trivial⟩ rfl
  · rw [if_neg c1] at h
    rw [if_pos c1]
    exact qE.wk (t_m_fits_151_j91 hd hK28 h) ⟨rfl, rfl, rfl, rfl, rfl, rfl, rfl, trivial⟩ rfl
set_option maxRecDepth 20000 in
theorem t_m_fits_151_j69 {S : Nat × (Nat → Int32)} {d : Nat} {x : qC} {y : Int64 × Nat} (hd : 9 ≤ d) {K28 : Int32 → Int32 → Int32 → Int32 → Int32 → qC → Option Int32} (hK28 : ∀ {i1 : Int32} {i2 : Int32} {i3 : Int32} {i4 : Int32} {i5 : Int32} {σ : qC} {p : Int32}, K28 i1 i2 i3 i4 i5 σ = some p → qE S d jm_12_fits_151 (28, [(0, .ref 64), (1, .int i1), (2, .int i2), (3, .int i3), (4, .int i4), (5, .int i5)], [], (x, σ, y)) ((.inl (some (.int p)), (x, σ, y)))) {i1 : Int32} {i2 : Int32} {i3 : Int32} {i4 : Int32} {i5 : Int32} {i6 : Int32} {σ : qC} {p : Int32} (h : m_fits_151_j69 K28 i1 i2 i3 i4 i5 i6 σ = some p) : qE S d jm_12_fits_151 (69, [(0, .ref 64), (1, .int i1), (2, .int i2), (3, .int i3), (4, .int i4), (5, .int i5), (6, .int i6)], [], (x, σ, y)) ((.inl (some (.int p)), (x, σ, y))) := by
  have hd9 : 9 ≤ d := by omega
  unfold m_fits_151_j69 at h
  refine qE.steps 3 hd9 (s' := (if ¬ (i6 = Int32.ofInt 40) then 79 else 76, [(0, .ref 64), (1, .int i1), (2, .int i2), (3, .int i3), (4, .int i4), (5, .int i5), (6, .int i6)], [], (x, σ, y))) rfl ?_
  by_cases c1 : i6 = Int32.ofInt 40
  · rw [if_pos c1] at h
    rw [if_neg (not_not_intro c1)]
    refine qE.steps 1 hd9 (s' := (79, [(3, .int (i3 + Int32.ofInt 1)), (0, .ref 64), (1, .int i1), (2, .int i2), (4, .int i4), (5, .int i5), (6, .int i6)], [], (x, σ, y))) rfl ?_
    exact qE.wk (t_m_fits_151_j79 hd hK28 h) ⟨rfl, rfl, rfl, rfl, rfl, rfl, rfl, trivial⟩ rfl
  · rw [if_neg c1] at h
    rw [if_pos c1]
    exact qE.wk (t_m_fits_151_j79 hd hK28 h) ⟨rfl, rfl, rfl, rfl, rfl, rfl, rfl, trivial⟩ rfl
set_option maxRecDepth 20000 in
theorem t_m_fits_151_l28 {S : Nat × (Nat → Int32)} {d : Nat} {x : qC} {y : Int64 × Nat} (hd : 9 ≤ d) : ∀ (n : Nat) {i1 : Int32} {i2 : Int32} {i3 : Int32} {i4 : Int32} {i5 : Int32} {σ : qC} {p : Int32}, m_fits_151_l28 n i1 i2 i3 i4 i5 σ = some p → qE S d jm_12_fits_151 (28, [(0, .ref 64), (1, .int i1), (2, .int i2), (3, .int i3), (4, .int i4), (5, .int i5)], [], (x, σ, y)) ((.inl (some (.int p)), (x, σ, y))) := by
  have hd9 : 9 ≤ d := by omega
  intro n
  induction n with
  | zero =>
    intros
    rename_i h
    unfold m_fits_151_l28 at h
    cases h
  | succ n ih =>
    intro i1 i2 i3 i4 i5 σ p h
    unfold m_fits_151_l28 at h
    refine qE.steps 4 hd9 (s' := (35, [(0, .ref 64), (1, .int i1), (2, .int i2), (3, .int i3), (4, .int i4), (5, .int i5)], [.int i1, .ref 67, .int i5], (x, σ, y))) rfl ?_
    obtain ⟨x1, e2, h⟩ := obind h
    refine qE.iald hd9 e2 rfl rfl ?_
    refine qE.steps 1 hd9 (s' := (if x1 ≤ i5 then 129 else 39, [(0, .ref 64), (1, .int i1), (2, .int i2), (3, .int i3), (4, .int i4), (5, .int i5)], [], (x, σ, y))) rfl ?_
    by_cases c3 : x1 ≤ i5
    · rw [if_pos c3] at h
      rw [if_pos c3]
      refine qE.steps 4 hd9 (s' := (136, [(0, .ref 64), (1, .int i1), (2, .int i2), (3, .int i3), (4, .int i4), (5, .int i5)], [.int i2, .ref 73, .int i4], (x, σ, y))) rfl ?_
      obtain ⟨x4, e5, h⟩ := obind h
      refine qE.iald hd9 e5 rfl rfl ?_
      refine qE.steps 1 hd9 (s' := (if ¬ (i4 = x4) then 144 else 140, [(0, .ref 64), (1, .int i1), (2, .int i2), (3, .int i3), (4, .int i4), (5, .int i5)], [], (x, σ, y))) rfl ?_
      by_cases c6 : i4 = x4
      · rw [if_pos c6] at h
        rw [if_neg (not_not_intro c6)]
        refine qE.steps 2 hd9 (s' := (145, [(0, .ref 64), (1, .int i1), (2, .int i2), (3, .int i3), (4, .int i4), (5, .int i5)], [.int (Int32.ofInt 1)], (x, σ, y))) rfl ?_
        obtain rfl := Option.some.inj h
        exact qE.ret hd9 rfl rfl
      · rw [if_neg c6] at h
        rw [if_pos c6]
        refine qE.steps 1 hd9 (s' := (145, [(0, .ref 64), (1, .int i1), (2, .int i2), (3, .int i3), (4, .int i4), (5, .int i5)], [.int (Int32.ofInt 0)], (x, σ, y))) rfl ?_
        obtain rfl := Option.some.inj h
        exact qE.ret hd9 rfl rfl
    · rw [if_neg c3] at h
      rw [if_neg c3]
      refine qE.steps 7 hd9 (s' := (50, [(0, .ref 64), (1, .int i1), (2, .int i2), (3, .int i3), (4, .int i4), (5, .int i5)], [.int ((i1 * (Int32.ofInt 48)) + i5), .ref 66], (x, σ, y))) rfl ?_
      obtain ⟨x7, e8, h⟩ := obind h
      refine qE.iald hd9 e8 rfl rfl ?_
      refine qE.steps 4 hd9 (s' := (if ¬ (i5 = Int32.ofInt 1) then 69 else 59, [(6, .int x7), (0, .ref 64), (1, .int i1), (2, .int i2), (3, .int i3), (4, .int i4), (5, .int i5)], [], (x, σ, y))) rfl ?_
      by_cases c9 : i5 = Int32.ofInt 1
      · rw [if_pos c9] at h
        rw [if_neg (not_not_intro c9)]
        refine qE.steps 3 hd9 (s' := (if x7 = Int32.ofInt 40 then 69 else 66, [(6, .int x7), (0, .ref 64), (1, .int i1), (2, .int i2), (3, .int i3), (4, .int i4), (5, .int i5)], [], (x, σ, y))) rfl ?_
        by_cases c10 : x7 = Int32.ofInt 40
        · rw [if_pos c10] at h
          rw [if_pos c10]
          exact qE.wk (t_m_fits_151_j69 hd ih h) ⟨rfl, rfl, rfl, rfl, rfl, rfl, rfl, trivial⟩ rfl
        · rw [if_neg c10] at h
          rw [if_neg c10]
          refine qE.steps 5 hd9 (s' := (136, [(6, .int x7), (0, .ref 64), (1, .int i1), (2, .int i2), (3, .int i3), (4, .int i4), (5, .int i5)], [.int i2, .ref 73, .int i4], (x, σ, y))) rfl ?_
          obtain ⟨x11, e12, h⟩ := obind h
          refine qE.iald hd9 e12 rfl rfl ?_
          refine qE.steps 1 hd9 (s' := (if ¬ (i4 = x11) then 144 else 140, [(6, .int x7), (0, .ref 64), (1, .int i1), (2, .int i2), (3, .int i3), (4, .int i4), (5, .int i5)], [], (x, σ, y))) rfl ?_
          by_cases c13 : i4 = x11
          · rw [if_pos c13] at h
            rw [if_neg (not_not_intro c13)]
            refine qE.steps 2 hd9 (s' := (145, [(6, .int x7), (0, .ref 64), (1, .int i1), (2, .int i2), (3, .int i3), (4, .int i4), (5, .int i5)], [.int (Int32.ofInt 1)], (x, σ, y))) rfl ?_
            obtain rfl := Option.some.inj h
            exact qE.ret hd9 rfl rfl
          · rw [if_neg c13] at h
            rw [if_pos c13]
            refine qE.steps 1 hd9 (s' := (145, [(6, .int x7), (0, .ref 64), (1, .int i1), (2, .int i2), (3, .int i3), (4, .int i4), (5, .int i5)], [.int (Int32.ofInt 0)], (x, σ, y))) rfl ?_
            obtain rfl := Option.some.inj h
            exact qE.ret hd9 rfl rfl
      · rw [if_neg c9] at h
        rw [if_pos c9]
        exact qE.wk (t_m_fits_151_j69 hd ih h) ⟨rfl, rfl, rfl, rfl, rfl, rfl, rfl, trivial⟩ rfl
set_option maxRecDepth 20000 in
theorem t_m_fits_151 {S : Nat × (Nat → Int32)} {d : Nat} {x : qC} {y : Int64 × Nat} {i1 : Int32} {i2 : Int32} {σ : qC} {p : Int32} (hd : 9 ≤ d) (h : m_fits_151 i1 i2 σ = some p) : qE S d jm_12_fits_151 (0, [(0, .ref 64), (1, .int i1), (2, .int i2)], [], (x, σ, y)) ((.inl (some (.int p)), (x, σ, y))) := by
  have hd9 : 9 ≤ d := by omega
  unfold m_fits_151 at h
  refine qE.steps 5 hd9 (s' := (8, [(0, .ref 64), (1, .int i1), (2, .int i2)], [.int (i1 * (Int32.ofInt 48)), .ref 66], (x, σ, y))) rfl ?_
  obtain ⟨x1, e2, h⟩ := obind h
  refine qE.iald hd9 e2 rfl rfl ?_
  refine qE.steps 3 hd9 (s' := (14, [(0, .ref 64), (1, .int i1), (2, .int i2)], [.int i2, .ref 72, .int x1], (x, σ, y))) rfl ?_
  obtain ⟨x3, e4, h⟩ := obind h
  refine qE.iald hd9 e4 rfl rfl ?_
  refine qE.steps 1 hd9 (s' := (if x1 = x3 then 20 else 18, [(0, .ref 64), (1, .int i1), (2, .int i2)], [], (x, σ, y))) rfl ?_
  by_cases c5 : x1 = x3
  · rw [if_pos c5] at h
    rw [if_pos c5]
    refine qE.steps 6 hd9 (s' := (28, [(5, .int (Int32.ofInt 1)), (4, .int (Int32.ofInt 0)), (3, .int (Int32.ofInt 0)), (0, .ref 64), (1, .int i1), (2, .int i2)], [], (x, σ, y))) rfl ?_
    exact qE.wk (t_m_fits_151_l28 hd qF h) ⟨rfl, rfl, rfl, rfl, rfl, rfl, trivial⟩ rfl
  · rw [if_neg c5] at h
    rw [if_neg c5]
    refine qE.steps 1 hd9 (s' := (19, [(0, .ref 64), (1, .int i1), (2, .int i2)], [.int (Int32.ofInt 0)], (x, σ, y))) rfl ?_
    obtain rfl := Option.some.inj h
    exact qE.ret hd9 rfl rfl
def m_nextFit_150_l2 : Nat → Int32 → Int32 → qC → Option Int32
  | 0, _, _, _ => none
  | n + 1, i2, i3, σ => if σ.1 6408 ≤ i3 then some i3 else (m_fits_151 i3 i2 σ).bind (fun p2 => if p2 = 0 then (m_nextFit_150_l2 n) i2 (i3 + Int32.ofInt 1) σ else some i3)
def m_nextFit_150 (i1 : Int32) (i2 : Int32) (σ : qC) : Option Int32 := m_nextFit_150_l2 qF i2 i1 σ
set_option maxRecDepth 20000 in
theorem t_m_nextFit_150_l2 {S : Nat × (Nat → Int32)} {d : Nat} {x : qC} {y : Int64 × Nat} (hd : 10 ≤ d) : ∀ (n : Nat) {i2 : Int32} {i3 : Int32} {σ : qC} {p : Int32}, m_nextFit_150_l2 n i2 i3 σ = some p → qE S d jm_12_nextFit_150 (2, [(0, .ref 64), (2, .int i2), (3, .int i3)], [], (x, σ, y)) ((.inl (some (.int p)), (x, σ, y))) := by
  have hd9 : 9 ≤ d := by omega
  intro n
  induction n with
  | zero =>
    intros
    rename_i h
    unfold m_nextFit_150_l2 at h
    cases h
  | succ n ih =>
    intro i2 i3 σ p h
    unfold m_nextFit_150_l2 at h
    refine qE.steps 4 hd9 (s' := (if σ.1 6408 ≤ i3 then 25 else 10, [(0, .ref 64), (2, .int i2), (3, .int i3)], [], (x, σ, y))) rfl ?_
    by_cases c1 : σ.1 6408 ≤ i3
    · rw [if_pos c1] at h
      rw [if_pos c1]
      refine qE.steps 1 hd9 (s' := (26, [(0, .ref 64), (2, .int i2), (3, .int i3)], [.int i3], (x, σ, y))) rfl ?_
      obtain rfl := Option.some.inj h
      exact qE.ret hd9 rfl rfl
    · rw [if_neg c1] at h
      rw [if_neg c1]
      refine qE.steps 3 hd9 (s' := (13, [(0, .ref 64), (2, .int i2), (3, .int i3)], [.int i2, .int i3, .ref 64], (x, σ, y))) rfl ?_
      obtain ⟨p2, e3, h⟩ := obind h
      refine qE.call hd9 rfl rfl rfl rfl (t_m_fits_151 (by omega) e3) ?_
      refine qE.steps 0 hd9 (s' := (16, [(0, .ref 64), (2, .int i2), (3, .int i3)], [.int p2], (x, σ, y))) rfl ?_
      refine qE.steps 1 hd9 (s' := (if ¬ (p2 = 0) then 25 else 19, [(0, .ref 64), (2, .int i2), (3, .int i3)], [], (x, σ, y))) rfl ?_
      by_cases c4 : p2 = 0
      · rw [if_pos c4] at h
        rw [if_neg (not_not_intro c4)]
        refine qE.steps 2 hd9 (s' := (2, [(3, .int (i3 + Int32.ofInt 1)), (0, .ref 64), (2, .int i2)], [], (x, σ, y))) rfl ?_
        exact qE.wk (ih h) ⟨rfl, rfl, rfl, trivial⟩ rfl
      · rw [if_neg c4] at h
        rw [if_pos c4]
        refine qE.steps 1 hd9 (s' := (26, [(0, .ref 64), (2, .int i2), (3, .int i3)], [.int i3], (x, σ, y))) rfl ?_
        obtain rfl := Option.some.inj h
        exact qE.ret hd9 rfl rfl
set_option maxRecDepth 20000 in
theorem t_m_nextFit_150 {S : Nat × (Nat → Int32)} {d : Nat} {x : qC} {y : Int64 × Nat} {i1 : Int32} {i2 : Int32} {σ : qC} {p : Int32} (hd : 10 ≤ d) (h : m_nextFit_150 i1 i2 σ = some p) : qE S d jm_12_nextFit_150 (0, [(0, .ref 64), (1, .int i1), (2, .int i2)], [], (x, σ, y)) ((.inl (some (.int p)), (x, σ, y))) := by
  have hd9 : 9 ≤ d := by omega
  unfold m_nextFit_150 at h
  refine qE.steps 2 hd9 (s' := (2, [(3, .int i1), (0, .ref 64), (1, .int i1), (2, .int i2)], [], (x, σ, y))) rfl ?_
  exact qE.wk (t_m_nextFit_150_l2 hd qF h) ⟨rfl, rfl, rfl, trivial⟩ rfl
def m_pair_154 (i1 : Int32) (i2 : Int32) (σ : qC) : Option qC := (aput σ 90 2200 (σ.1 6436) i1).bind (fun σ1 => (aput σ1 91 2200 (σ1.1 6436) i2).bind (fun σ3 => qlet (upS σ3 6436 ((σ3.1 6436) + (Int32.ofInt 1))) (fun σ5 => some σ5)))
set_option maxRecDepth 20000 in
theorem t_m_pair_154 {S : Nat × (Nat → Int32)} {d : Nat} {x : qC} {y : Int64 × Nat} {i1 : Int32} {i2 : Int32} {σ : qC} {p : qC} (hd : 9 ≤ d) (h : m_pair_154 i1 i2 σ = some p) : qE S d jm_12_pair_154 (0, [(0, .ref 64), (1, .int i1), (2, .int i2)], [], (x, σ, y)) ((.inl none, (x, p, y))) := by
  have hd9 : 9 ≤ d := by omega
  unfold m_pair_154 at h
  refine qE.steps 5 hd9 (s' := (9, [(0, .ref 64), (1, .int i1), (2, .int i2)], [.int i1, .int (σ.1 6436), .ref 90], (x, σ, y))) rfl ?_
  obtain ⟨σ1, e2, h⟩ := obind h
  refine qE.iastM hd9 e2 rfl rfl ?_
  refine qE.steps 5 hd9 (s' := (19, [(0, .ref 64), (1, .int i1), (2, .int i2)], [.int i2, .int (σ1.1 6436), .ref 91], (x, σ1, y))) rfl ?_
  obtain ⟨σ3, e4, h⟩ := obind h
  refine qE.iastM hd9 e4 rfl rfl ?_
  obtain ⟨σ5, e6, h⟩ := qlet_ex h
  refine qE.steps 6 hd9 (s' := (30, [(0, .ref 64), (1, .int i1), (2, .int i2)], [], (x, σ5, y))) (by subst e6; rfl) ?_
  obtain rfl := Option.some.inj h
  exact qE.ret hd9 rfl rfl
def m_change_160 (i1 : Int32) (i2 : Int32) (σ : qC) : Option qC := (aput σ 83 6000 (σ.1 6432) i1).bind (fun σ1 => (aput σ1 84 6000 (σ1.1 6432) i2).bind (fun σ3 => qlet (upS σ3 6432 ((σ3.1 6432) + (Int32.ofInt 1))) (fun σ5 => some σ5)))
set_option maxRecDepth 20000 in
theorem t_m_change_160 {S : Nat × (Nat → Int32)} {d : Nat} {x : qC} {y : Int64 × Nat} {i1 : Int32} {i2 : Int32} {σ : qC} {p : qC} (hd : 9 ≤ d) (h : m_change_160 i1 i2 σ = some p) : qE S d jm_12_change_160 (0, [(0, .ref 64), (1, .int i1), (2, .int i2)], [], (x, σ, y)) ((.inl none, (x, p, y))) := by
  have hd9 : 9 ≤ d := by omega
  unfold m_change_160 at h
  refine qE.steps 5 hd9 (s' := (9, [(0, .ref 64), (1, .int i1), (2, .int i2)], [.int i1, .int (σ.1 6432), .ref 83], (x, σ, y))) rfl ?_
  obtain ⟨σ1, e2, h⟩ := obind h
  refine qE.iastM hd9 e2 rfl rfl ?_
  refine qE.steps 5 hd9 (s' := (19, [(0, .ref 64), (1, .int i1), (2, .int i2)], [.int i2, .int (σ1.1 6432), .ref 84], (x, σ1, y))) rfl ?_
  obtain ⟨σ3, e4, h⟩ := obind h
  refine qE.iastM hd9 e4 rfl rfl ?_
  obtain ⟨σ5, e6, h⟩ := qlet_ex h
  refine qE.steps 6 hd9 (s' := (30, [(0, .ref 64), (1, .int i1), (2, .int i2)], [], (x, σ5, y))) (by subst e6; rfl) ?_
  obtain rfl := Option.some.inj h
  exact qE.ret hd9 rfl rfl
def m_tie_159 (i1 : Int32) (i2 : Int32) (σ : qC) : Option qC := (m_change_160 (i1 * (Int32.ofInt 5)) (Int32.ofInt 2147483647) σ).bind (fun p1 => (aput p1 75 13000 i1 i2).bind (fun σ3 => qlet (upS σ3 6439 (Int32.ofInt 1)) (fun σ5 => some σ5)))
set_option maxRecDepth 20000 in
theorem t_m_tie_159 {S : Nat × (Nat → Int32)} {d : Nat} {x : qC} {y : Int64 × Nat} {i1 : Int32} {i2 : Int32} {σ : qC} {p : qC} (hd : 10 ≤ d) (h : m_tie_159 i1 i2 σ = some p) : qE S d jm_12_tie_159 (0, [(0, .ref 64), (1, .int i1), (2, .int i2)], [], (x, σ, y)) ((.inl none, (x, p, y))) := by
  have hd9 : 9 ≤ d := by omega
  unfold m_tie_159 at h
  refine qE.steps 5 hd9 (s' := (6, [(0, .ref 64), (1, .int i1), (2, .int i2)], [.int (Int32.ofInt 2147483647), .int (i1 * (Int32.ofInt 5)), .ref 64], (x, σ, y))) rfl ?_
  obtain ⟨p1, e2, h⟩ := obind h
  refine qE.call hd9 rfl rfl rfl rfl (t_m_change_160 (by omega) e2) ?_
  refine qE.steps 0 hd9 (s' := (9, [(0, .ref 64), (1, .int i1), (2, .int i2)], [], (x, p1, y))) rfl ?_
  refine qE.steps 4 hd9 (s' := (15, [(0, .ref 64), (1, .int i1), (2, .int i2)], [.int i2, .int i1, .ref 75], (x, p1, y))) rfl ?_
  obtain ⟨σ3, e4, h⟩ := obind h
  refine qE.iastM hd9 e4 rfl rfl ?_
  obtain ⟨σ5, e6, h⟩ := qlet_ex h
  refine qE.steps 3 hd9 (s' := (21, [(0, .ref 64), (1, .int i1), (2, .int i2)], [], (x, σ5, y))) (by subst e6; rfl) ?_
  obtain rfl := Option.some.inj h
  exact qE.ret hd9 rfl rfl
def m_value_158_l2 : Nat → Int32 → qC → Option Int32
  | 0, _, _ => none
  | n + 1, i2, σ => if 0 ≤ i2 then some i2 else (aget (σ.2 75) 13000 ((Int32.ofInt (-1)) - i2)).bind (fun x2 => if x2 = Int32.ofInt 2147483647 then some i2 else (aget (σ.2 75) 13000 ((Int32.ofInt (-1)) - i2)).bind (fun x5 => (m_value_158_l2 n) x5 σ))
def m_value_158 (i1 : Int32) (σ : qC) : Option Int32 := m_value_158_l2 qF i1 σ
set_option maxRecDepth 20000 in
theorem t_m_value_158_l2 {S : Nat × (Nat → Int32)} {d : Nat} {x : qC} {y : Int64 × Nat} (hd : 9 ≤ d) : ∀ (n : Nat) {i2 : Int32} {σ : qC} {p : Int32}, m_value_158_l2 n i2 σ = some p → qE S d jm_12_value_158 (2, [(0, .ref 64), (2, .int i2)], [], (x, σ, y)) ((.inl (some (.int p)), (x, σ, y))) := by
  have hd9 : 9 ≤ d := by omega
  intro n
  induction n with
  | zero =>
    intros
    rename_i h
    unfold m_value_158_l2 at h
    cases h
  | succ n ih =>
    intro i2 σ p h
    unfold m_value_158_l2 at h
    refine qE.steps 2 hd9 (s' := (if 0 ≤ i2 then 31 else 6, [(0, .ref 64), (2, .int i2)], [], (x, σ, y))) rfl ?_
    by_cases c1 : 0 ≤ i2
    · rw [if_pos c1] at h
      rw [if_pos c1]
      refine qE.steps 1 hd9 (s' := (32, [(0, .ref 64), (2, .int i2)], [.int i2], (x, σ, y))) rfl ?_
      obtain rfl := Option.some.inj h
      exact qE.ret hd9 rfl rfl
    · rw [if_neg c1] at h
      rw [if_neg c1]
      refine qE.steps 5 hd9 (s' := (13, [(0, .ref 64), (2, .int i2)], [.int ((Int32.ofInt (-1)) - i2), .ref 75], (x, σ, y))) rfl ?_
      obtain ⟨x2, e3, h⟩ := obind h
      refine qE.iald hd9 e3 rfl rfl ?_
      refine qE.steps 2 hd9 (s' := (if x2 = Int32.ofInt 2147483647 then 31 else 19, [(0, .ref 64), (2, .int i2)], [], (x, σ, y))) rfl ?_
      by_cases c4 : x2 = Int32.ofInt 2147483647
      · rw [if_pos c4] at h
        rw [if_pos c4]
        refine qE.steps 1 hd9 (s' := (32, [(0, .ref 64), (2, .int i2)], [.int i2], (x, σ, y))) rfl ?_
        obtain rfl := Option.some.inj h
        exact qE.ret hd9 rfl rfl
      · rw [if_neg c4] at h
        rw [if_neg c4]
        refine qE.steps 5 hd9 (s' := (26, [(0, .ref 64), (2, .int i2)], [.int ((Int32.ofInt (-1)) - i2), .ref 75], (x, σ, y))) rfl ?_
        obtain ⟨x5, e6, h⟩ := obind h
        refine qE.iald hd9 e6 rfl rfl ?_
        refine qE.steps 2 hd9 (s' := (2, [(2, .int x5), (0, .ref 64)], [], (x, σ, y))) rfl ?_
        exact qE.wk (ih h) ⟨rfl, rfl, trivial⟩ rfl
set_option maxRecDepth 20000 in
theorem t_m_value_158 {S : Nat × (Nat → Int32)} {d : Nat} {x : qC} {y : Int64 × Nat} {i1 : Int32} {σ : qC} {p : Int32} (hd : 9 ≤ d) (h : m_value_158 i1 σ = some p) : qE S d jm_12_value_158 (0, [(0, .ref 64), (1, .int i1)], [], (x, σ, y)) ((.inl (some (.int p)), (x, σ, y))) := by
  have hd9 : 9 ≤ d := by omega
  unfold m_value_158 at h
  refine qE.steps 2 hd9 (s' := (2, [(2, .int i1), (0, .ref 64), (1, .int i1)], [], (x, σ, y))) rfl ?_
  exact qE.wk (t_m_value_158_l2 hd qF h) ⟨rfl, rfl, trivial⟩ rfl
def m_follow_161 (i1 : Int32) (i2 : Int32) (i3 : Int32) (σ : qC) : Option qC := if 0 ≤ i2 then (aget (σ.2 76) 13000 i1).bind (fun x2 => (m_change_160 ((i1 * (Int32.ofInt 5)) + (Int32.ofInt 1)) x2 σ).bind (fun p4 => (aget (p4.2 77) 13000 i1).bind (fun x6 => (m_change_160 ((i1 * (Int32.ofInt 5)) + (Int32.ofInt 2)) x6 p4).bind (fun p8 => (aget (p8.2 76) 13000 i1).bind (fun x10 => if 0 ≤ x10 then (aget (p8.2 77) 13000 i1).bind (fun x13 => (aget (p8.2 77) 13000 i1).bind (fun x15 => (aget (p8.2 86) 1200 x15).bind (fun x17 => (m_change_160 ((x13 * (Int32.ofInt 5)) + (Int32.ofInt 3)) x17 p8).bind (fun p19 => (aget (p19.2 77) 13000 i1).bind (fun x21 => (aput p19 86 1200 x21 i2).bind (fun σ23 => (aput σ23 77 13000 i1 i3).bind (fun σ25 => some σ25))))))) else (aput p8 76 13000 i1 i2).bind (fun σ27 => (aput σ27 77 13000 i1 i3).bind (fun σ29 => some σ29))))))) else some σ
set_option maxRecDepth 20000 in
theorem t_m_follow_161 {S : Nat × (Nat → Int32)} {d : Nat} {x : qC} {y : Int64 × Nat} {i1 : Int32} {i2 : Int32} {i3 : Int32} {σ : qC} {p : qC} (hd : 10 ≤ d) (h : m_follow_161 i1 i2 i3 σ = some p) : qE S d jm_12_follow_161 (0, [(0, .ref 64), (1, .int i1), (2, .int i2), (3, .int i3)], [], (x, σ, y)) ((.inl none, (x, p, y))) := by
  have hd9 : 9 ≤ d := by omega
  unfold m_follow_161 at h
  refine qE.steps 2 hd9 (s' := (if 0 ≤ i2 then 5 else 4, [(0, .ref 64), (1, .int i1), (2, .int i2), (3, .int i3)], [], (x, σ, y))) rfl ?_
  by_cases c1 : 0 ≤ i2
  · rw [if_pos c1] at h
    rw [if_pos c1]
    refine qE.steps 9 hd9 (s' := (16, [(0, .ref 64), (1, .int i1), (2, .int i2), (3, .int i3)], [.int i1, .ref 76, .int ((i1 * (Int32.ofInt 5)) + (Int32.ofInt 1)), .ref 64], (x, σ, y))) rfl ?_
    obtain ⟨x2, e3, h⟩ := obind h
    refine qE.iald hd9 e3 rfl rfl ?_
    obtain ⟨p4, e5, h⟩ := obind h
    refine qE.call hd9 rfl rfl rfl rfl (t_m_change_160 (by omega) e5) ?_
    refine qE.steps 0 hd9 (s' := (20, [(0, .ref 64), (1, .int i1), (2, .int i2), (3, .int i3)], [], (x, p4, y))) rfl ?_
    refine qE.steps 9 hd9 (s' := (31, [(0, .ref 64), (1, .int i1), (2, .int i2), (3, .int i3)], [.int i1, .ref 77, .int ((i1 * (Int32.ofInt 5)) + (Int32.ofInt 2)), .ref 64], (x, p4, y))) rfl ?_
    obtain ⟨x6, e7, h⟩ := obind h
    refine qE.iald hd9 e7 rfl rfl ?_
    obtain ⟨p8, e9, h⟩ := obind h
    refine qE.call hd9 rfl rfl rfl rfl (t_m_change_160 (by omega) e9) ?_
    refine qE.steps 0 hd9 (s' := (35, [(0, .ref 64), (1, .int i1), (2, .int i2), (3, .int i3)], [], (x, p8, y))) rfl ?_
    refine qE.steps 3 hd9 (s' := (40, [(0, .ref 64), (1, .int i1), (2, .int i2), (3, .int i3)], [.int i1, .ref 76], (x, p8, y))) rfl ?_
    obtain ⟨x10, e11, h⟩ := obind h
    refine qE.iald hd9 e11 rfl rfl ?_
    refine qE.steps 1 hd9 (s' := (if 0 ≤ x10 then 54 else 44, [(0, .ref 64), (1, .int i1), (2, .int i2), (3, .int i3)], [], (x, p8, y))) rfl ?_
    by_cases c12 : 0 ≤ x10
    · rw [if_pos c12] at h
      rw [if_pos c12]
      refine qE.steps 4 hd9 (s' := (60, [(0, .ref 64), (1, .int i1), (2, .int i2), (3, .int i3)], [.int i1, .ref 77, .ref 64], (x, p8, y))) rfl ?_
      obtain ⟨x13, e14, h⟩ := obind h
      refine qE.iald hd9 e14 rfl rfl ?_
      refine qE.steps 9 hd9 (s' := (74, [(0, .ref 64), (1, .int i1), (2, .int i2), (3, .int i3)], [.int i1, .ref 77, .ref 86, .int ((x13 * (Int32.ofInt 5)) + (Int32.ofInt 3)), .ref 64], (x, p8, y))) rfl ?_
      obtain ⟨x15, e16, h⟩ := obind h
      refine qE.iald hd9 e16 rfl rfl ?_
      obtain ⟨x17, e18, h⟩ := obind h
      refine qE.iald hd9 e18 rfl rfl ?_
      obtain ⟨p19, e20, h⟩ := obind h
      refine qE.call hd9 rfl rfl rfl rfl (t_m_change_160 (by omega) e20) ?_
      refine qE.steps 0 hd9 (s' := (79, [(0, .ref 64), (1, .int i1), (2, .int i2), (3, .int i3)], [], (x, p19, y))) rfl ?_
      refine qE.steps 5 hd9 (s' := (88, [(0, .ref 64), (1, .int i1), (2, .int i2), (3, .int i3)], [.int i1, .ref 77, .ref 86], (x, p19, y))) rfl ?_
      obtain ⟨x21, e22, h⟩ := obind h
      refine qE.iald hd9 e22 rfl rfl ?_
      refine qE.steps 1 hd9 (s' := (90, [(0, .ref 64), (1, .int i1), (2, .int i2), (3, .int i3)], [.int i2, .int x21, .ref 86], (x, p19, y))) rfl ?_
      obtain ⟨σ23, e24, h⟩ := obind h
      refine qE.iastM hd9 e24 rfl rfl ?_
      refine qE.steps 4 hd9 (s' := (97, [(0, .ref 64), (1, .int i1), (2, .int i2), (3, .int i3)], [.int i3, .int i1, .ref 77], (x, σ23, y))) rfl ?_
      obtain ⟨σ25, e26, h⟩ := obind h
      refine qE.iastM hd9 e26 rfl rfl ?_
      obtain rfl := Option.some.inj h
      exact qE.ret hd9 rfl rfl
    · rw [if_neg c12] at h
      rw [if_neg c12]
      refine qE.steps 4 hd9 (s' := (50, [(0, .ref 64), (1, .int i1), (2, .int i2), (3, .int i3)], [.int i2, .int i1, .ref 76], (x, p8, y))) rfl ?_
      obtain ⟨σ27, e28, h⟩ := obind h
      refine qE.iastM hd9 e28 rfl rfl ?_
      refine qE.steps 5 hd9 (s' := (97, [(0, .ref 64), (1, .int i1), (2, .int i2), (3, .int i3)], [.int i3, .int i1, .ref 77], (x, σ27, y))) rfl ?_
      obtain ⟨σ29, e30, h⟩ := obind h
      refine qE.iastM hd9 e30 rfl rfl ?_
      obtain rfl := Option.some.inj h
      exact qE.ret hd9 rfl rfl
  · rw [if_neg c1] at h
    rw [if_neg c1]
    obtain rfl := Option.some.inj h
    exact qE.ret hd9 rfl rfl
