/-! BY PROGRAM (wip/whole/gendc.py): each method as a function over the numbers -/
def c_length_12 (σ : qC) : Int32 := σ.1 2501
theorem t_c_length_12 {S : Nat × (Nat → Int32)} {d : Nat} {y : qC × Int64 × Nat} {σ : qC} {p : Int32} (hd : 9 ≤ d) (h : c_length_12 σ = p) : qE S d jm_9_length_12 (0, [(0, .ref 25)], [], (σ, y)) ((.inl (some (.int p)), (σ, y))) := by
  have hd9 : 9 ≤ d := by omega
  unfold c_length_12 at h
  refine qE.steps 2 hd9 (s' := (4, [(0, .ref 25)], [.int (σ.1 2501)], (σ, y))) rfl ?_
  subst h
  exact qE.ret hd9 rfl rfl
def c_byteOf_21 (l0 : Int64) (i2 : Int32) : Int32 := (((l0.toUInt64 >>> (i2.toInt64.toUInt64 &&& Int64.toUInt64 63)).toInt64).toInt32) &&& (Int32.ofInt 255)
theorem t_c_byteOf_21 {S : Nat × (Nat → Int32)} {d : Nat} {y : qC × Int64 × Nat} {l0 : Int64} {i2 : Int32} {σ : qC} {p : Int32} (hd : 9 ≤ d) (h : c_byteOf_21 l0 i2 = p) : qE S d jm_0_byteOf_21 (0, [(0, .long l0), (2, .int i2)], [], (σ, y)) ((.inl (some (.int p)), (σ, y))) := by
  have hd9 : 9 ≤ d := by omega
  unfold c_byteOf_21 at h
  refine qE.steps 6 hd9 (s' := (8, [(0, .long l0), (2, .int i2)], [.int ((((l0.toUInt64 >>> (i2.toInt64.toUInt64 &&& Int64.toUInt64 63)).toInt64).toInt32) &&& (Int32.ofInt 255))], (σ, y))) rfl ?_
  subst h
  exact qE.ret hd9 rfl rfl
def c_append_22 (i1 : Int32) (σ : qC) : Option qC := if i1 = 0 then some σ else if Int32.ofNat 48 ≤ σ.1 2501 then some σ else (aput σ 26 48 (σ.1 2501) ((i1.toUInt32 % 65536).toInt32).toUInt32.toUInt16.toUInt32.toInt32).bind (fun σ3 => qlet (upS σ3 2501 ((σ3.1 2501) + (Int32.ofInt 1))) (fun σ5 => some σ5))
theorem t_c_append_22 {S : Nat × (Nat → Int32)} {d : Nat} {y : qC × Int64 × Nat} {i1 : Int32} {σ : qC} {p : qC} (hd : 9 ≤ d) (h : c_append_22 i1 σ = some p) : qE S d jm_9_append_22 (0, [(0, .ref 25), (1, .int i1)], [], (σ, y)) ((.inl none, (p, y))) := by
  have hd9 : 9 ≤ d := by omega
  unfold c_append_22 at h
  refine qE.steps 2 hd9 (s' := (if i1 = 0 then 37 else 4, [(0, .ref 25), (1, .int i1)], [], (σ, y))) rfl ?_
  by_cases c1 : i1 = 0
  · rw [if_pos c1] at h
    rw [if_pos c1]
    obtain rfl := Option.some.inj h
    exact qE.ret hd9 rfl rfl
  · rw [if_neg c1] at h
    rw [if_neg c1]
    refine qE.steps 6 hd9 (s' := (if Int32.ofNat 48 ≤ σ.1 2501 then 37 else 16, [(0, .ref 25), (1, .int i1)], [], (σ, y))) rfl ?_
    by_cases c2 : Int32.ofNat 48 ≤ σ.1 2501
    · rw [if_pos c2] at h
      rw [if_pos c2]
      obtain rfl := Option.some.inj h
      exact qE.ret hd9 rfl rfl
    · rw [if_neg c2] at h
      rw [if_neg c2]
      refine qE.steps 6 hd9 (s' := (26, [(0, .ref 25), (1, .int i1)], [.int ((i1.toUInt32 % 65536).toInt32), .int (σ.1 2501), .ref 26], (σ, y))) rfl ?_
      obtain ⟨σ3, e4, h⟩ := obind h
      refine qE.castC hd9 e4 rfl rfl ?_
      obtain ⟨σ5, e6, h⟩ := qlet_ex h
      refine qE.steps 6 hd9 (s' := (37, [(0, .ref 25), (1, .int i1)], [], (σ5, y))) (by subst e6; rfl) ?_
      obtain rfl := Option.some.inj h
      exact qE.ret hd9 rfl rfl
def c_type_20_j48 (K6 : Int64 → Int32 → Int32 → qC → Option ((Int32 ⊕ Nat) × qC)) (l1 : Int64) (i3 : Int32) (i4 : Int32) (i5 : Int32) (σ : qC) : Option ((Int32 ⊕ Nat) × qC) := if i5 = 0 then K6 l1 (i3 + (Int32.ofInt 0)) (i4 + Int32.ofInt (-8)) σ else K6 l1 (i3 + (Int32.ofInt 1)) (i4 + Int32.ofInt (-8)) σ
def c_type_20_l95 : Nat → Int64 → Int32 → qC → Option ((Int32 ⊕ Nat) × qC)
  | 0, _, _, _ => none
  | n + 1, l1, i4, σ => if i4 < 0 then some (.inl (c_length_12 σ), σ) else (c_append_22 (c_byteOf_21 l1 i4) σ).bind (fun p2 => (c_type_20_l95 n) l1 (i4 + Int32.ofInt (-8)) p2)
def c_type_20_l6 : Nat → Int64 → Int32 → Int32 → qC → Option ((Int32 ⊕ Nat) × qC)
  | 0, _, _, _, _ => none
  | n + 1, l1, i3, i4, σ => if i4 < 0 then if (c_length_12 σ) + i3 ≤ Int32.ofInt 48 then c_type_20_l95 qF l1 (Int32.ofInt 56) σ else some (.inr 13, σ) else if c_byteOf_21 l1 i4 = 0 then c_type_20_j48 (c_type_20_l6 n) l1 i3 i4 (c_byteOf_21 l1 i4) σ else if c_byteOf_21 l1 i4 < Int32.ofInt 33 then some (.inr 12, σ) else if c_byteOf_21 l1 i4 ≤ Int32.ofInt 126 then c_type_20_j48 (c_type_20_l6 n) l1 i3 i4 (c_byteOf_21 l1 i4) σ else some (.inr 12, σ)
def c_type_20 (l1 : Int64) (σ : qC) : Option ((Int32 ⊕ Nat) × qC) := c_type_20_l6 qF l1 (Int32.ofInt 0) (Int32.ofInt 56) σ
theorem t_c_type_20_j48 {S : Nat × (Nat → Int32)} {d : Nat} {y : qC × Int64 × Nat} (hd : 10 ≤ d) {K6 : Int64 → Int32 → Int32 → qC → Option ((Int32 ⊕ Nat) × qC)} (hK6 : ∀ {l1 : Int64} {i3 : Int32} {i4 : Int32} {σ : qC} {p : ((Int32 ⊕ Nat) × qC)}, K6 l1 i3 i4 σ = some p → qE S d jm_0_type_20 (6, [(0, .ref 24), (1, .long l1), (3, .int i3), (4, .int i4)], [], (σ, y)) (qres p y)) {l1 : Int64} {i3 : Int32} {i4 : Int32} {i5 : Int32} {σ : qC} {p : ((Int32 ⊕ Nat) × qC)} (h : c_type_20_j48 K6 l1 i3 i4 i5 σ = some p) : qE S d jm_0_type_20 (48, [(0, .ref 24), (1, .long l1), (3, .int i3), (4, .int i4), (5, .int i5)], [], (σ, y)) (qres p y) := by
  have hd9 : 9 ≤ d := by omega
  unfold c_type_20_j48 at h
  refine qE.steps 3 hd9 (s' := (if ¬ (i5 = 0) then 58 else 54, [(0, .ref 24), (1, .long l1), (3, .int i3), (4, .int i4), (5, .int i5)], [.int i3], (σ, y))) rfl ?_
  by_cases c1 : i5 = 0
  · rw [if_pos c1] at h
    rw [if_neg (not_not_intro c1)]
    refine qE.steps 6 hd9 (s' := (6, [(4, .int (i4 + Int32.ofInt (-8))), (3, .int (i3 + (Int32.ofInt 0))), (0, .ref 24), (1, .long l1), (5, .int i5)], [], (σ, y))) rfl ?_
    exact qE.wk (hK6 h) ⟨rfl, rfl, rfl, rfl, trivial⟩ rfl
  · rw [if_neg c1] at h
    rw [if_pos c1]
    refine qE.steps 5 hd9 (s' := (6, [(4, .int (i4 + Int32.ofInt (-8))), (3, .int (i3 + (Int32.ofInt 1))), (0, .ref 24), (1, .long l1), (5, .int i5)], [], (σ, y))) rfl ?_
    exact qE.wk (hK6 h) ⟨rfl, rfl, rfl, rfl, trivial⟩ rfl
theorem t_c_type_20_l95 {S : Nat × (Nat → Int32)} {d : Nat} {y : qC × Int64 × Nat} (hd : 10 ≤ d) : ∀ (n : Nat) {l1 : Int64} {i4 : Int32} {σ : qC} {p : ((Int32 ⊕ Nat) × qC)}, c_type_20_l95 n l1 i4 σ = some p → qE S d jm_0_type_20 (95, [(0, .ref 24), (1, .long l1), (4, .int i4)], [], (σ, y)) (qres p y) := by
  have hd9 : 9 ≤ d := by omega
  intro n
  induction n with
  | zero =>
    intros
    rename_i h
    unfold c_type_20_l95 at h
    cases h
  | succ n ih =>
    intro l1 i4 σ p h
    unfold c_type_20_l95 at h
    refine qE.steps 2 hd9 (s' := (if i4 < 0 then 119 else 100, [(0, .ref 24), (1, .long l1), (4, .int i4)], [], (σ, y))) rfl ?_
    by_cases c1 : i4 < 0
    · rw [if_pos c1] at h
      rw [if_pos c1]
      refine qE.steps 2 hd9 (s' := (123, [(0, .ref 24), (1, .long l1), (4, .int i4)], [.ref 25], (σ, y))) rfl ?_
      refine qE.call hd9 rfl rfl rfl rfl (t_c_length_12 (by omega) rfl) ?_
      refine qE.steps 0 hd9 (s' := (126, [(0, .ref 24), (1, .long l1), (4, .int i4)], [.int (c_length_12 σ)], (σ, y))) rfl ?_
      obtain rfl := Option.some.inj h
      exact qE.ret hd9 rfl rfl
    · rw [if_neg c1] at h
      rw [if_neg c1]
      refine qE.steps 4 hd9 (s' := (107, [(0, .ref 24), (1, .long l1), (4, .int i4)], [.int i4, .long l1, .ref 25], (σ, y))) rfl ?_
      refine qE.call hd9 rfl rfl rfl rfl (t_c_byteOf_21 (by omega) rfl) ?_
      refine qE.steps 0 hd9 (s' := (110, [(0, .ref 24), (1, .long l1), (4, .int i4)], [.int (c_byteOf_21 l1 i4), .ref 25], (σ, y))) rfl ?_
      obtain ⟨p2, e3, h⟩ := obind h
      refine qE.call hd9 rfl rfl rfl rfl (t_c_append_22 (by omega) e3) ?_
      refine qE.steps 0 hd9 (s' := (113, [(0, .ref 24), (1, .long l1), (4, .int i4)], [], (p2, y))) rfl ?_
      refine qE.steps 2 hd9 (s' := (95, [(4, .int (i4 + Int32.ofInt (-8))), (0, .ref 24), (1, .long l1)], [], (p2, y))) rfl ?_
      exact qE.wk (ih h) ⟨rfl, rfl, rfl, trivial⟩ rfl
theorem t_c_type_20_l6 {S : Nat × (Nat → Int32)} {d : Nat} {y : qC × Int64 × Nat} (hd : 10 ≤ d) : ∀ (n : Nat) {l1 : Int64} {i3 : Int32} {i4 : Int32} {σ : qC} {p : ((Int32 ⊕ Nat) × qC)}, c_type_20_l6 n l1 i3 i4 σ = some p → qE S d jm_0_type_20 (6, [(0, .ref 24), (1, .long l1), (3, .int i3), (4, .int i4)], [], (σ, y)) (qres p y) := by
  have hd9 : 9 ≤ d := by omega
  intro n
  induction n with
  | zero =>
    intros
    rename_i h
    unfold c_type_20_l6 at h
    cases h
  | succ n ih =>
    intro l1 i3 i4 σ p h
    unfold c_type_20_l6 at h
    refine qE.steps 2 hd9 (s' := (if i4 < 0 then 67 else 11, [(0, .ref 24), (1, .long l1), (3, .int i3), (4, .int i4)], [], (σ, y))) rfl ?_
    by_cases c1 : i4 < 0
    · rw [if_pos c1] at h
      rw [if_pos c1]
      refine qE.steps 2 hd9 (s' := (71, [(0, .ref 24), (1, .long l1), (3, .int i3), (4, .int i4)], [.ref 25], (σ, y))) rfl ?_
      refine qE.call hd9 rfl rfl rfl rfl (t_c_length_12 (by omega) rfl) ?_
      refine qE.steps 0 hd9 (s' := (74, [(0, .ref 24), (1, .long l1), (3, .int i3), (4, .int i4)], [.int (c_length_12 σ)], (σ, y))) rfl ?_
      refine qE.steps 4 hd9 (s' := (if (c_length_12 σ) + i3 ≤ Int32.ofInt 48 then 91 else 81, [(0, .ref 24), (1, .long l1), (3, .int i3), (4, .int i4)], [], (σ, y))) rfl ?_
      by_cases c2 : (c_length_12 σ) + i3 ≤ Int32.ofInt 48
      · rw [if_pos c2] at h
        rw [if_pos c2]
        refine qE.steps 2 hd9 (s' := (95, [(4, .int (Int32.ofInt 56)), (0, .ref 24), (1, .long l1), (3, .int i3)], [], (σ, y))) rfl ?_
        exact qE.wk (t_c_type_20_l95 hd qF h) ⟨rfl, rfl, rfl, trivial⟩ rfl
      · rw [if_neg c2] at h
        rw [if_neg c2]
        obtain rfl := Option.some.inj h
        exact qE.thr hd9 rfl rfl rfl
    · rw [if_neg c1] at h
      rw [if_neg c1]
      refine qE.steps 2 hd9 (s' := (14, [(0, .ref 24), (1, .long l1), (3, .int i3), (4, .int i4)], [.int i4, .long l1], (σ, y))) rfl ?_
      refine qE.call hd9 rfl rfl rfl rfl (t_c_byteOf_21 (by omega) rfl) ?_
      refine qE.steps 0 hd9 (s' := (17, [(0, .ref 24), (1, .long l1), (3, .int i3), (4, .int i4)], [.int (c_byteOf_21 l1 i4)], (σ, y))) rfl ?_
      refine qE.steps 3 hd9 (s' := (if c_byteOf_21 l1 i4 = 0 then 48 else 24, [(5, .int (c_byteOf_21 l1 i4)), (0, .ref 24), (1, .long l1), (3, .int i3), (4, .int i4)], [], (σ, y))) rfl ?_
      by_cases c3 : c_byteOf_21 l1 i4 = 0
      · rw [if_pos c3] at h
        rw [if_pos c3]
        exact qE.wk (t_c_type_20_j48 hd ih h) ⟨rfl, rfl, rfl, rfl, rfl, trivial⟩ rfl
      · rw [if_neg c3] at h
        rw [if_neg c3]
        refine qE.steps 3 hd9 (s' := (if c_byteOf_21 l1 i4 < Int32.ofInt 33 then 38 else 31, [(5, .int (c_byteOf_21 l1 i4)), (0, .ref 24), (1, .long l1), (3, .int i3), (4, .int i4)], [], (σ, y))) rfl ?_
        by_cases c4 : c_byteOf_21 l1 i4 < Int32.ofInt 33
        · rw [if_pos c4] at h
          rw [if_pos c4]
          obtain rfl := Option.some.inj h
          exact qE.thr hd9 rfl rfl rfl
        · rw [if_neg c4] at h
          rw [if_neg c4]
          refine qE.steps 3 hd9 (s' := (if c_byteOf_21 l1 i4 ≤ Int32.ofInt 126 then 48 else 38, [(5, .int (c_byteOf_21 l1 i4)), (0, .ref 24), (1, .long l1), (3, .int i3), (4, .int i4)], [], (σ, y))) rfl ?_
          by_cases c5 : c_byteOf_21 l1 i4 ≤ Int32.ofInt 126
          · rw [if_pos c5] at h
            rw [if_pos c5]
            exact qE.wk (t_c_type_20_j48 hd ih h) ⟨rfl, rfl, rfl, rfl, rfl, trivial⟩ rfl
          · rw [if_neg c5] at h
            rw [if_neg c5]
            obtain rfl := Option.some.inj h
            exact qE.thr hd9 rfl rfl rfl
theorem t_c_type_20 {S : Nat × (Nat → Int32)} {d : Nat} {y : qC × Int64 × Nat} {l1 : Int64} {σ : qC} {p : ((Int32 ⊕ Nat) × qC)} (hd : 10 ≤ d) (h : c_type_20 l1 σ = some p) : qE S d jm_0_type_20 (0, [(0, .ref 24), (1, .long l1)], [], (σ, y)) (qres p y) := by
  have hd9 : 9 ≤ d := by omega
  unfold c_type_20 at h
  refine qE.steps 4 hd9 (s' := (6, [(4, .int (Int32.ofInt 56)), (3, .int (Int32.ofInt 0)), (0, .ref 24), (1, .long l1)], [], (σ, y))) rfl ?_
  exact qE.wk (t_c_type_20_l6 hd qF h) ⟨rfl, rfl, rfl, rfl, trivial⟩ rfl
def c_size_13 (σ : qC) : Int32 := σ.1 3302
theorem t_c_size_13 {S : Nat × (Nat → Int32)} {d : Nat} {y : qC × Int64 × Nat} {σ : qC} {p : Int32} (hd : 9 ≤ d) (h : c_size_13 σ = p) : qE S d jm_2_size_13 (0, [(0, .ref 33)], [], (σ, y)) ((.inl (some (.int p)), (σ, y))) := by
  have hd9 : 9 ≤ d := by omega
  unfold c_size_13 at h
  refine qE.steps 2 hd9 (s' := (4, [(0, .ref 33)], [.int (σ.1 3302)], (σ, y))) rfl ?_
  subst h
  exact qE.ret hd9 rfl rfl
def c_page_26 (i1 : Int32) (σ : qC) : Int32 := if i1 < 0 then Int32.ofInt (-1) else if Int32.ofNat 12 ≤ i1 then Int32.ofInt (-1) else σ.2 34 i1.toNatClampNeg
theorem t_c_page_26 {S : Nat × (Nat → Int32)} {d : Nat} {y : qC × Int64 × Nat} {i1 : Int32} {σ : qC} {p : Int32} (hd : 9 ≤ d) (h : c_page_26 i1 σ = p) : qE S d jm_2_page_26 (0, [(0, .ref 33), (1, .int i1)], [], (σ, y)) ((.inl (some (.int p)), (σ, y))) := by
  have hd9 : 9 ≤ d := by omega
  unfold c_page_26 at h
  refine qE.steps 2 hd9 (s' := (if i1 < 0 then 22 else 4, [(0, .ref 33), (1, .int i1)], [], (σ, y))) rfl ?_
  by_cases c1 : i1 < 0
  · rw [if_pos c1] at h
    rw [if_pos c1]
    refine qE.steps 1 hd9 (s' := (23, [(0, .ref 33), (1, .int i1)], [.int (Int32.ofInt (-1))], (σ, y))) rfl ?_
    subst h
    exact qE.ret hd9 rfl rfl
  · rw [if_neg c1] at h
    rw [if_neg c1]
    refine qE.steps 5 hd9 (s' := (if Int32.ofNat 12 ≤ i1 then 22 else 13, [(0, .ref 33), (1, .int i1)], [], (σ, y))) rfl ?_
    by_cases c2 : Int32.ofNat 12 ≤ i1
    · rw [if_pos c2] at h
      rw [if_pos c2]
      refine qE.steps 1 hd9 (s' := (23, [(0, .ref 33), (1, .int i1)], [.int (Int32.ofInt (-1))], (σ, y))) rfl ?_
      subst h
      exact qE.ret hd9 rfl rfl
    · rw [if_neg c2] at h
      rw [if_neg c2]
      refine qE.steps 3 hd9 (s' := (18, [(0, .ref 33), (1, .int i1)], [.int i1, .ref 34], (σ, y))) rfl ?_
      refine qE.iald hd9 (aget_of c1 c2 (by decide)) rfl rfl ?_
      refine qE.steps 1 hd9 (s' := (23, [(0, .ref 33), (1, .int i1)], [.int (σ.2 34 i1.toNatClampNeg)], (σ, y))) rfl ?_
      subst h
      exact qE.ret hd9 rfl rfl
def c_freePage_25 (σ : qC) : Int32 := c_page_26 (σ.1 3302) σ
theorem t_c_freePage_25 {S : Nat × (Nat → Int32)} {d : Nat} {y : qC × Int64 × Nat} {σ : qC} {p : Int32} (hd : 10 ≤ d) (h : c_freePage_25 σ = p) : qE S d jm_2_freePage_25 (0, [(0, .ref 33)], [], (σ, y)) ((.inl (some (.int p)), (σ, y))) := by
  have hd9 : 9 ≤ d := by omega
  unfold c_freePage_25 at h
  refine qE.steps 3 hd9 (s' := (5, [(0, .ref 33)], [.int (σ.1 3302), .ref 33], (σ, y))) rfl ?_
  refine qE.call hd9 rfl rfl rfl rfl (t_c_page_26 (by omega) rfl) ?_
  refine qE.steps 0 hd9 (s' := (8, [(0, .ref 33)], [.int (c_page_26 (σ.1 3302) σ)], (σ, y))) rfl ?_
  subst h
  exact qE.ret hd9 rfl rfl
def c_firstNode_31 (i0 : Int32) : Int32 := i0 * (Int32.ofInt 48)
theorem t_c_firstNode_31 {S : Nat × (Nat → Int32)} {d : Nat} {y : qC × Int64 × Nat} {i0 : Int32} {σ : qC} {p : Int32} (hd : 9 ≤ d) (h : c_firstNode_31 i0 = p) : qE S d jm_1_firstNode_31 (0, [(0, .int i0)], [], (σ, y)) ((.inl (some (.int p)), (σ, y))) := by
  have hd9 : 9 ≤ d := by omega
  unfold c_firstNode_31 at h
  refine qE.steps 3 hd9 (s' := (4, [(0, .int i0)], [.int (i0 * (Int32.ofInt 48))], (σ, y))) rfl ?_
  subst h
  exact qE.ret hd9 rfl rfl
def c_clearPage_29_l22 : Nat → Int32 → Int32 → qC → Option qC
  | 0, _, _, _ => none
  | n + 1, i1, i2, σ => if Int32.ofInt 48 ≤ i2 then some σ else (tputO σ 28 9 ((c_firstNode_31 i1) + i2) (Int32.ofInt 0) (Int32.ofInt 0)).bind (fun σ2 => (c_clearPage_29_l22 n) i1 (i2 + Int32.ofInt 1) σ2)
def c_clearPage_29 (i1 : Int32) (σ : qC) : Option qC := (tputO σ 30 4 i1 (Int32.ofInt 0) (Int32.ofInt 0)).bind (fun σ1 => (tputO σ1 30 4 i1 (Int32.ofInt 1) (Int32.ofInt (-1))).bind (fun σ3 => c_clearPage_29_l22 qF i1 (Int32.ofInt 0) σ3))
theorem t_c_clearPage_29_l22 {S : Nat × (Nat → Int32)} {d : Nat} {y : qC × Int64 × Nat} (hd : 10 ≤ d) : ∀ (n : Nat) {i1 : Int32} {i2 : Int32} {σ : qC} {p : qC}, c_clearPage_29_l22 n i1 i2 σ = some p → qE S d jm_1_clearPage_29 (22, [(0, .ref 27), (1, .int i1), (2, .int i2)], [], (σ, y)) ((.inl none, (p, y))) := by
  have hd9 : 9 ≤ d := by omega
  intro n
  induction n with
  | zero =>
    intros
    rename_i h
    unfold c_clearPage_29_l22 at h
    cases h
  | succ n ih =>
    intro i1 i2 σ p h
    unfold c_clearPage_29_l22 at h
    refine qE.steps 3 hd9 (s' := (if Int32.ofInt 48 ≤ i2 then 49 else 28, [(0, .ref 27), (1, .int i1), (2, .int i2)], [], (σ, y))) rfl ?_
    by_cases c1 : Int32.ofInt 48 ≤ i2
    · rw [if_pos c1] at h
      rw [if_pos c1]
      obtain rfl := Option.some.inj h
      exact qE.ret hd9 rfl rfl
    · rw [if_neg c1] at h
      rw [if_neg c1]
      refine qE.steps 3 hd9 (s' := (33, [(0, .ref 27), (1, .int i1), (2, .int i2)], [.int i1, .ref 28], (σ, y))) rfl ?_
      refine qE.call hd9 rfl rfl rfl rfl (t_c_firstNode_31 (by omega) rfl) ?_
      refine qE.steps 0 hd9 (s' := (36, [(0, .ref 27), (1, .int i1), (2, .int i2)], [.int (c_firstNode_31 i1), .ref 28], (σ, y))) rfl ?_
      refine qE.steps 4 hd9 (s' := (40, [(0, .ref 27), (1, .int i1), (2, .int i2)], [.int (Int32.ofInt 0), .int (Int32.ofInt 0), .int ((c_firstNode_31 i1) + i2), .ref 28], (σ, y))) rfl ?_
      obtain ⟨σ2, e3, h⟩ := obind h
      refine qE.tab hd9 (qtab_put e3 rfl) rfl rfl rfl ?_
      refine qE.steps 2 hd9 (s' := (22, [(2, .int (i2 + Int32.ofInt 1)), (0, .ref 27), (1, .int i1)], [], (σ2, y))) rfl ?_
      exact qE.wk (ih h) ⟨rfl, rfl, rfl, trivial⟩ rfl
theorem t_c_clearPage_29 {S : Nat × (Nat → Int32)} {d : Nat} {y : qC × Int64 × Nat} {i1 : Int32} {σ : qC} {p : qC} (hd : 10 ≤ d) (h : c_clearPage_29 i1 σ = some p) : qE S d jm_1_clearPage_29 (0, [(0, .ref 27), (1, .int i1)], [], (σ, y)) ((.inl none, (p, y))) := by
  have hd9 : 9 ≤ d := by omega
  unfold c_clearPage_29 at h
  refine qE.steps 5 hd9 (s' := (7, [(0, .ref 27), (1, .int i1)], [.int (Int32.ofInt 0), .int (Int32.ofInt 0), .int i1, .ref 30], (σ, y))) rfl ?_
  obtain ⟨σ1, e2, h⟩ := obind h
  refine qE.tab hd9 (qtab_put e2 rfl) rfl rfl rfl ?_
  refine qE.steps 5 hd9 (s' := (17, [(0, .ref 27), (1, .int i1)], [.int (Int32.ofInt (-1)), .int (Int32.ofInt 1), .int i1, .ref 30], (σ1, y))) rfl ?_
  obtain ⟨σ3, e4, h⟩ := obind h
  refine qE.tab hd9 (qtab_put e4 rfl) rfl rfl rfl ?_
  refine qE.steps 2 hd9 (s' := (22, [(2, .int (Int32.ofInt 0)), (0, .ref 27), (1, .int i1)], [], (σ3, y))) rfl ?_
  exact qE.wk (t_c_clearPage_29_l22 hd qF h) ⟨rfl, rfl, rfl, trivial⟩ rfl
def c_begin_28 (i1 : Int32) (σ : qC) : Option qC := qlet (upS σ 3202 i1) (fun σ1 => qlet (upS σ1 3203 (Int32.ofInt 0)) (fun σ3 => (c_clearPage_29 (σ3.1 3202) σ3).bind (fun p5 => some p5)))
theorem t_c_begin_28 {S : Nat × (Nat → Int32)} {d : Nat} {y : qC × Int64 × Nat} {i1 : Int32} {σ : qC} {p : qC} (hd : 11 ≤ d) (h : c_begin_28 i1 σ = some p) : qE S d jm_5_begin_28 (0, [(0, .ref 32), (1, .int i1)], [], (σ, y)) ((.inl none, (p, y))) := by
  have hd9 : 9 ≤ d := by omega
  unfold c_begin_28 at h
  obtain ⟨σ1, e2, h⟩ := qlet_ex h
  refine qE.steps 3 hd9 (s' := (5, [(0, .ref 32), (1, .int i1)], [], (σ1, y))) (by subst e2; rfl) ?_
  obtain ⟨σ3, e4, h⟩ := qlet_ex h
  refine qE.steps 3 hd9 (s' := (10, [(0, .ref 32), (1, .int i1)], [], (σ3, y))) (by subst e4; rfl) ?_
  refine qE.steps 4 hd9 (s' := (18, [(0, .ref 32), (1, .int i1)], [.int (σ3.1 3202), .ref 27], (σ3, y))) rfl ?_
  obtain ⟨p5, e6, h⟩ := obind h
  refine qE.call hd9 rfl rfl rfl rfl (t_c_clearPage_29 (by omega) e6) ?_
  refine qE.steps 0 hd9 (s' := (21, [(0, .ref 32), (1, .int i1)], [], (p5, y))) rfl ?_
  obtain rfl := Option.some.inj h
  exact qE.ret hd9 rfl rfl
def c_at_32 (i1 : Int32) (σ : qC) : Int32 := if i1 < 0 then Int32.ofInt 0 else if σ.1 2501 ≤ i1 then Int32.ofInt 0 else if Int32.ofNat 48 ≤ i1 then Int32.ofInt 0 else σ.2 26 i1.toNatClampNeg
theorem t_c_at_32 {S : Nat × (Nat → Int32)} {d : Nat} {y : qC × Int64 × Nat} {i1 : Int32} {σ : qC} {p : Int32} (hd : 9 ≤ d) (h : c_at_32 i1 σ = p) : qE S d jm_9_at_32 (0, [(0, .ref 25), (1, .int i1)], [], (σ, y)) ((.inl (some (.int p)), (σ, y))) := by
  have hd9 : 9 ≤ d := by omega
  unfold c_at_32 at h
  refine qE.steps 2 hd9 (s' := (if i1 < 0 then 30 else 4, [(0, .ref 25), (1, .int i1)], [], (σ, y))) rfl ?_
  by_cases c1 : i1 < 0
  · rw [if_pos c1] at h
    rw [if_pos c1]
    refine qE.steps 1 hd9 (s' := (31, [(0, .ref 25), (1, .int i1)], [.int (Int32.ofInt 0)], (σ, y))) rfl ?_
    subst h
    exact qE.ret hd9 rfl rfl
  · rw [if_neg c1] at h
    rw [if_neg c1]
    refine qE.steps 4 hd9 (s' := (if σ.1 2501 ≤ i1 then 30 else 12, [(0, .ref 25), (1, .int i1)], [], (σ, y))) rfl ?_
    by_cases c2 : σ.1 2501 ≤ i1
    · rw [if_pos c2] at h
      rw [if_pos c2]
      refine qE.steps 1 hd9 (s' := (31, [(0, .ref 25), (1, .int i1)], [.int (Int32.ofInt 0)], (σ, y))) rfl ?_
      subst h
      exact qE.ret hd9 rfl rfl
    · rw [if_neg c2] at h
      rw [if_neg c2]
      refine qE.steps 5 hd9 (s' := (if Int32.ofNat 48 ≤ i1 then 30 else 21, [(0, .ref 25), (1, .int i1)], [], (σ, y))) rfl ?_
      by_cases c3 : Int32.ofNat 48 ≤ i1
      · rw [if_pos c3] at h
        rw [if_pos c3]
        refine qE.steps 1 hd9 (s' := (31, [(0, .ref 25), (1, .int i1)], [.int (Int32.ofInt 0)], (σ, y))) rfl ?_
        subst h
        exact qE.ret hd9 rfl rfl
      · rw [if_neg c3] at h
        rw [if_neg c3]
        refine qE.steps 3 hd9 (s' := (26, [(0, .ref 25), (1, .int i1)], [.int i1, .ref 26], (σ, y))) rfl ?_
        refine qE.cald hd9 (aget_of c1 c3 (by decide)) rfl rfl ?_
        refine qE.steps 1 hd9 (s' := (31, [(0, .ref 25), (1, .int i1)], [.int (σ.2 26 i1.toNatClampNeg)], (σ, y))) rfl ?_
        subst h
        exact qE.ret hd9 rfl rfl
def c_isSmall_33 (i0 : Int32) : Int32 := if i0 < Int32.ofInt 97 then Int32.ofInt 0 else if Int32.ofInt 122 < i0 then Int32.ofInt 0 else Int32.ofInt 1
theorem t_c_isSmall_33 {S : Nat × (Nat → Int32)} {d : Nat} {y : qC × Int64 × Nat} {i0 : Int32} {σ : qC} {p : Int32} (hd : 9 ≤ d) (h : c_isSmall_33 i0 = p) : qE S d jm_1_isSmall_33 (0, [(0, .int i0)], [], (σ, y)) ((.inl (some (.int p)), (σ, y))) := by
  have hd9 : 9 ≤ d := by omega
  unfold c_isSmall_33 at h
  refine qE.steps 3 hd9 (s' := (if i0 < Int32.ofInt 97 then 16 else 6, [(0, .int i0)], [], (σ, y))) rfl ?_
  by_cases c1 : i0 < Int32.ofInt 97
  · rw [if_pos c1] at h
    rw [if_pos c1]
    refine qE.steps 1 hd9 (s' := (17, [(0, .int i0)], [.int (Int32.ofInt 0)], (σ, y))) rfl ?_
    subst h
    exact qE.ret hd9 rfl rfl
  · rw [if_neg c1] at h
    rw [if_neg c1]
    refine qE.steps 3 hd9 (s' := (if Int32.ofInt 122 < i0 then 16 else 12, [(0, .int i0)], [], (σ, y))) rfl ?_
    by_cases c2 : Int32.ofInt 122 < i0
    · rw [if_pos c2] at h
      rw [if_pos c2]
      refine qE.steps 1 hd9 (s' := (17, [(0, .int i0)], [.int (Int32.ofInt 0)], (σ, y))) rfl ?_
      subst h
      exact qE.ret hd9 rfl rfl
    · rw [if_neg c2] at h
      rw [if_neg c2]
      refine qE.steps 2 hd9 (s' := (17, [(0, .int i0)], [.int (Int32.ofInt 1)], (σ, y))) rfl ?_
      subst h
      exact qE.ret hd9 rfl rfl
def c_sign_48 (i1 : Int32) (σ : qC) : Int32 := tat σ 28 9 i1 (Int32.ofInt 0)
theorem t_c_sign_48 {S : Nat × (Nat → Int32)} {d : Nat} {y : qC × Int64 × Nat} {i1 : Int32} {σ : qC} {p : Int32} (hd : 9 ≤ d) (h : c_sign_48 i1 σ = p) : qE S d jm_1_sign_48 (0, [(0, .ref 27), (1, .int i1)], [], (σ, y)) ((.inl (some (.int p)), (σ, y))) := by
  have hd9 : 9 ≤ d := by omega
  unfold c_sign_48 at h
  refine qE.steps 5 hd9 (s' := (9, [(0, .ref 27), (1, .int i1)], [.int (tat σ 28 9 i1 (Int32.ofInt 0))], (σ, y))) rfl ?_
  subst h
  exact qE.ret hd9 rfl rfl
def c_isCapital_35 (i0 : Int32) : Int32 := if i0 < Int32.ofInt 65 then Int32.ofInt 0 else if Int32.ofInt 90 < i0 then Int32.ofInt 0 else Int32.ofInt 1
theorem t_c_isCapital_35 {S : Nat × (Nat → Int32)} {d : Nat} {y : qC × Int64 × Nat} {i0 : Int32} {σ : qC} {p : Int32} (hd : 9 ≤ d) (h : c_isCapital_35 i0 = p) : qE S d jm_1_isCapital_35 (0, [(0, .int i0)], [], (σ, y)) ((.inl (some (.int p)), (σ, y))) := by
  have hd9 : 9 ≤ d := by omega
  unfold c_isCapital_35 at h
  refine qE.steps 3 hd9 (s' := (if i0 < Int32.ofInt 65 then 16 else 6, [(0, .int i0)], [], (σ, y))) rfl ?_
  by_cases c1 : i0 < Int32.ofInt 65
  · rw [if_pos c1] at h
    rw [if_pos c1]
    refine qE.steps 1 hd9 (s' := (17, [(0, .int i0)], [.int (Int32.ofInt 0)], (σ, y))) rfl ?_
    subst h
    exact qE.ret hd9 rfl rfl
  · rw [if_neg c1] at h
    rw [if_neg c1]
    refine qE.steps 3 hd9 (s' := (if Int32.ofInt 90 < i0 then 16 else 12, [(0, .int i0)], [], (σ, y))) rfl ?_
    by_cases c2 : Int32.ofInt 90 < i0
    · rw [if_pos c2] at h
      rw [if_pos c2]
      refine qE.steps 1 hd9 (s' := (17, [(0, .int i0)], [.int (Int32.ofInt 0)], (σ, y))) rfl ?_
      subst h
      exact qE.ret hd9 rfl rfl
    · rw [if_neg c2] at h
      rw [if_neg c2]
      refine qE.steps 2 hd9 (s' := (17, [(0, .int i0)], [.int (Int32.ofInt 1)], (σ, y))) rfl ?_
      subst h
      exact qE.ret hd9 rfl rfl
def c_bitCount_183 (i0 : Int32) : Int32 := (((((((i0 - (((i0.toUInt32 >>> ((Int32.ofInt 1).toUInt32 &&& Int32.toUInt32 31)).toInt32) &&& (Int32.ofInt 1431655765))) &&& (Int32.ofInt 858993459)) + ((((i0 - (((i0.toUInt32 >>> ((Int32.ofInt 1).toUInt32 &&& Int32.toUInt32 31)).toInt32) &&& (Int32.ofInt 1431655765))).toUInt32 >>> ((Int32.ofInt 2).toUInt32 &&& Int32.toUInt32 31)).toInt32) &&& (Int32.ofInt 858993459))) + (((((i0 - (((i0.toUInt32 >>> ((Int32.ofInt 1).toUInt32 &&& Int32.toUInt32 31)).toInt32) &&& (Int32.ofInt 1431655765))) &&& (Int32.ofInt 858993459)) + ((((i0 - (((i0.toUInt32 >>> ((Int32.ofInt 1).toUInt32 &&& Int32.toUInt32 31)).toInt32) &&& (Int32.ofInt 1431655765))).toUInt32 >>> ((Int32.ofInt 2).toUInt32 &&& Int32.toUInt32 31)).toInt32) &&& (Int32.ofInt 858993459))).toUInt32 >>> ((Int32.ofInt 4).toUInt32 &&& Int32.toUInt32 31)).toInt32)) &&& (Int32.ofInt 252645135)) + (((((((i0 - (((i0.toUInt32 >>> ((Int32.ofInt 1).toUInt32 &&& Int32.toUInt32 31)).toInt32) &&& (Int32.ofInt 1431655765))) &&& (Int32.ofInt 858993459)) + ((((i0 - (((i0.toUInt32 >>> ((Int32.ofInt 1).toUInt32 &&& Int32.toUInt32 31)).toInt32) &&& (Int32.ofInt 1431655765))).toUInt32 >>> ((Int32.ofInt 2).toUInt32 &&& Int32.toUInt32 31)).toInt32) &&& (Int32.ofInt 858993459))) + (((((i0 - (((i0.toUInt32 >>> ((Int32.ofInt 1).toUInt32 &&& Int32.toUInt32 31)).toInt32) &&& (Int32.ofInt 1431655765))) &&& (Int32.ofInt 858993459)) + ((((i0 - (((i0.toUInt32 >>> ((Int32.ofInt 1).toUInt32 &&& Int32.toUInt32 31)).toInt32) &&& (Int32.ofInt 1431655765))).toUInt32 >>> ((Int32.ofInt 2).toUInt32 &&& Int32.toUInt32 31)).toInt32) &&& (Int32.ofInt 858993459))).toUInt32 >>> ((Int32.ofInt 4).toUInt32 &&& Int32.toUInt32 31)).toInt32)) &&& (Int32.ofInt 252645135)).toUInt32 >>> ((Int32.ofInt 8).toUInt32 &&& Int32.toUInt32 31)).toInt32)) + ((((((((i0 - (((i0.toUInt32 >>> ((Int32.ofInt 1).toUInt32 &&& Int32.toUInt32 31)).toInt32) &&& (Int32.ofInt 1431655765))) &&& (Int32.ofInt 858993459)) + ((((i0 - (((i0.toUInt32 >>> ((Int32.ofInt 1).toUInt32 &&& Int32.toUInt32 31)).toInt32) &&& (Int32.ofInt 1431655765))).toUInt32 >>> ((Int32.ofInt 2).toUInt32 &&& Int32.toUInt32 31)).toInt32) &&& (Int32.ofInt 858993459))) + (((((i0 - (((i0.toUInt32 >>> ((Int32.ofInt 1).toUInt32 &&& Int32.toUInt32 31)).toInt32) &&& (Int32.ofInt 1431655765))) &&& (Int32.ofInt 858993459)) + ((((i0 - (((i0.toUInt32 >>> ((Int32.ofInt 1).toUInt32 &&& Int32.toUInt32 31)).toInt32) &&& (Int32.ofInt 1431655765))).toUInt32 >>> ((Int32.ofInt 2).toUInt32 &&& Int32.toUInt32 31)).toInt32) &&& (Int32.ofInt 858993459))).toUInt32 >>> ((Int32.ofInt 4).toUInt32 &&& Int32.toUInt32 31)).toInt32)) &&& (Int32.ofInt 252645135)) + (((((((i0 - (((i0.toUInt32 >>> ((Int32.ofInt 1).toUInt32 &&& Int32.toUInt32 31)).toInt32) &&& (Int32.ofInt 1431655765))) &&& (Int32.ofInt 858993459)) + ((((i0 - (((i0.toUInt32 >>> ((Int32.ofInt 1).toUInt32 &&& Int32.toUInt32 31)).toInt32) &&& (Int32.ofInt 1431655765))).toUInt32 >>> ((Int32.ofInt 2).toUInt32 &&& Int32.toUInt32 31)).toInt32) &&& (Int32.ofInt 858993459))) + (((((i0 - (((i0.toUInt32 >>> ((Int32.ofInt 1).toUInt32 &&& Int32.toUInt32 31)).toInt32) &&& (Int32.ofInt 1431655765))) &&& (Int32.ofInt 858993459)) + ((((i0 - (((i0.toUInt32 >>> ((Int32.ofInt 1).toUInt32 &&& Int32.toUInt32 31)).toInt32) &&& (Int32.ofInt 1431655765))).toUInt32 >>> ((Int32.ofInt 2).toUInt32 &&& Int32.toUInt32 31)).toInt32) &&& (Int32.ofInt 858993459))).toUInt32 >>> ((Int32.ofInt 4).toUInt32 &&& Int32.toUInt32 31)).toInt32)) &&& (Int32.ofInt 252645135)).toUInt32 >>> ((Int32.ofInt 8).toUInt32 &&& Int32.toUInt32 31)).toInt32)).toUInt32 >>> ((Int32.ofInt 16).toUInt32 &&& Int32.toUInt32 31)).toInt32)) &&& (Int32.ofInt 63)
theorem t_c_bitCount_183 {S : Nat × (Nat → Int32)} {d : Nat} {y : qG} {i0 : Int32} {p : Int32} (hd : 9 ≤ d) (h : c_bitCount_183 i0 = p) : qE S d jm_15_bitCount_183 (0, [(0, .int i0)], [], y) ((.inl (some (.int p)), y)) := by
  have hd9 : 9 ≤ d := by omega
  unfold c_bitCount_183 at h
  refine qE.steps 41 hd9 (s' := (52, [(0, .int (((((((i0 - (((i0.toUInt32 >>> ((Int32.ofInt 1).toUInt32 &&& Int32.toUInt32 31)).toInt32) &&& (Int32.ofInt 1431655765))) &&& (Int32.ofInt 858993459)) + ((((i0 - (((i0.toUInt32 >>> ((Int32.ofInt 1).toUInt32 &&& Int32.toUInt32 31)).toInt32) &&& (Int32.ofInt 1431655765))).toUInt32 >>> ((Int32.ofInt 2).toUInt32 &&& Int32.toUInt32 31)).toInt32) &&& (Int32.ofInt 858993459))) + (((((i0 - (((i0.toUInt32 >>> ((Int32.ofInt 1).toUInt32 &&& Int32.toUInt32 31)).toInt32) &&& (Int32.ofInt 1431655765))) &&& (Int32.ofInt 858993459)) + ((((i0 - (((i0.toUInt32 >>> ((Int32.ofInt 1).toUInt32 &&& Int32.toUInt32 31)).toInt32) &&& (Int32.ofInt 1431655765))).toUInt32 >>> ((Int32.ofInt 2).toUInt32 &&& Int32.toUInt32 31)).toInt32) &&& (Int32.ofInt 858993459))).toUInt32 >>> ((Int32.ofInt 4).toUInt32 &&& Int32.toUInt32 31)).toInt32)) &&& (Int32.ofInt 252645135)) + (((((((i0 - (((i0.toUInt32 >>> ((Int32.ofInt 1).toUInt32 &&& Int32.toUInt32 31)).toInt32) &&& (Int32.ofInt 1431655765))) &&& (Int32.ofInt 858993459)) + ((((i0 - (((i0.toUInt32 >>> ((Int32.ofInt 1).toUInt32 &&& Int32.toUInt32 31)).toInt32) &&& (Int32.ofInt 1431655765))).toUInt32 >>> ((Int32.ofInt 2).toUInt32 &&& Int32.toUInt32 31)).toInt32) &&& (Int32.ofInt 858993459))) + (((((i0 - (((i0.toUInt32 >>> ((Int32.ofInt 1).toUInt32 &&& Int32.toUInt32 31)).toInt32) &&& (Int32.ofInt 1431655765))) &&& (Int32.ofInt 858993459)) + ((((i0 - (((i0.toUInt32 >>> ((Int32.ofInt 1).toUInt32 &&& Int32.toUInt32 31)).toInt32) &&& (Int32.ofInt 1431655765))).toUInt32 >>> ((Int32.ofInt 2).toUInt32 &&& Int32.toUInt32 31)).toInt32) &&& (Int32.ofInt 858993459))).toUInt32 >>> ((Int32.ofInt 4).toUInt32 &&& Int32.toUInt32 31)).toInt32)) &&& (Int32.ofInt 252645135)).toUInt32 >>> ((Int32.ofInt 8).toUInt32 &&& Int32.toUInt32 31)).toInt32)) + ((((((((i0 - (((i0.toUInt32 >>> ((Int32.ofInt 1).toUInt32 &&& Int32.toUInt32 31)).toInt32) &&& (Int32.ofInt 1431655765))) &&& (Int32.ofInt 858993459)) + ((((i0 - (((i0.toUInt32 >>> ((Int32.ofInt 1).toUInt32 &&& Int32.toUInt32 31)).toInt32) &&& (Int32.ofInt 1431655765))).toUInt32 >>> ((Int32.ofInt 2).toUInt32 &&& Int32.toUInt32 31)).toInt32) &&& (Int32.ofInt 858993459))) + (((((i0 - (((i0.toUInt32 >>> ((Int32.ofInt 1).toUInt32 &&& Int32.toUInt32 31)).toInt32) &&& (Int32.ofInt 1431655765))) &&& (Int32.ofInt 858993459)) + ((((i0 - (((i0.toUInt32 >>> ((Int32.ofInt 1).toUInt32 &&& Int32.toUInt32 31)).toInt32) &&& (Int32.ofInt 1431655765))).toUInt32 >>> ((Int32.ofInt 2).toUInt32 &&& Int32.toUInt32 31)).toInt32) &&& (Int32.ofInt 858993459))).toUInt32 >>> ((Int32.ofInt 4).toUInt32 &&& Int32.toUInt32 31)).toInt32)) &&& (Int32.ofInt 252645135)) + (((((((i0 - (((i0.toUInt32 >>> ((Int32.ofInt 1).toUInt32 &&& Int32.toUInt32 31)).toInt32) &&& (Int32.ofInt 1431655765))) &&& (Int32.ofInt 858993459)) + ((((i0 - (((i0.toUInt32 >>> ((Int32.ofInt 1).toUInt32 &&& Int32.toUInt32 31)).toInt32) &&& (Int32.ofInt 1431655765))).toUInt32 >>> ((Int32.ofInt 2).toUInt32 &&& Int32.toUInt32 31)).toInt32) &&& (Int32.ofInt 858993459))) + (((((i0 - (((i0.toUInt32 >>> ((Int32.ofInt 1).toUInt32 &&& Int32.toUInt32 31)).toInt32) &&& (Int32.ofInt 1431655765))) &&& (Int32.ofInt 858993459)) + ((((i0 - (((i0.toUInt32 >>> ((Int32.ofInt 1).toUInt32 &&& Int32.toUInt32 31)).toInt32) &&& (Int32.ofInt 1431655765))).toUInt32 >>> ((Int32.ofInt 2).toUInt32 &&& Int32.toUInt32 31)).toInt32) &&& (Int32.ofInt 858993459))).toUInt32 >>> ((Int32.ofInt 4).toUInt32 &&& Int32.toUInt32 31)).toInt32)) &&& (Int32.ofInt 252645135)).toUInt32 >>> ((Int32.ofInt 8).toUInt32 &&& Int32.toUInt32 31)).toInt32)).toUInt32 >>> ((Int32.ofInt 16).toUInt32 &&& Int32.toUInt32 31)).toInt32)))], [.int ((((((((i0 - (((i0.toUInt32 >>> ((Int32.ofInt 1).toUInt32 &&& Int32.toUInt32 31)).toInt32) &&& (Int32.ofInt 1431655765))) &&& (Int32.ofInt 858993459)) + ((((i0 - (((i0.toUInt32 >>> ((Int32.ofInt 1).toUInt32 &&& Int32.toUInt32 31)).toInt32) &&& (Int32.ofInt 1431655765))).toUInt32 >>> ((Int32.ofInt 2).toUInt32 &&& Int32.toUInt32 31)).toInt32) &&& (Int32.ofInt 858993459))) + (((((i0 - (((i0.toUInt32 >>> ((Int32.ofInt 1).toUInt32 &&& Int32.toUInt32 31)).toInt32) &&& (Int32.ofInt 1431655765))) &&& (Int32.ofInt 858993459)) + ((((i0 - (((i0.toUInt32 >>> ((Int32.ofInt 1).toUInt32 &&& Int32.toUInt32 31)).toInt32) &&& (Int32.ofInt 1431655765))).toUInt32 >>> ((Int32.ofInt 2).toUInt32 &&& Int32.toUInt32 31)).toInt32) &&& (Int32.ofInt 858993459))).toUInt32 >>> ((Int32.ofInt 4).toUInt32 &&& Int32.toUInt32 31)).toInt32)) &&& (Int32.ofInt 252645135)) + (((((((i0 - (((i0.toUInt32 >>> ((Int32.ofInt 1).toUInt32 &&& Int32.toUInt32 31)).toInt32) &&& (Int32.ofInt 1431655765))) &&& (Int32.ofInt 858993459)) + ((((i0 - (((i0.toUInt32 >>> ((Int32.ofInt 1).toUInt32 &&& Int32.toUInt32 31)).toInt32) &&& (Int32.ofInt 1431655765))).toUInt32 >>> ((Int32.ofInt 2).toUInt32 &&& Int32.toUInt32 31)).toInt32) &&& (Int32.ofInt 858993459))) + (((((i0 - (((i0.toUInt32 >>> ((Int32.ofInt 1).toUInt32 &&& Int32.toUInt32 31)).toInt32) &&& (Int32.ofInt 1431655765))) &&& (Int32.ofInt 858993459)) + ((((i0 - (((i0.toUInt32 >>> ((Int32.ofInt 1).toUInt32 &&& Int32.toUInt32 31)).toInt32) &&& (Int32.ofInt 1431655765))).toUInt32 >>> ((Int32.ofInt 2).toUInt32 &&& Int32.toUInt32 31)).toInt32) &&& (Int32.ofInt 858993459))).toUInt32 >>> ((Int32.ofInt 4).toUInt32 &&& Int32.toUInt32 31)).toInt32)) &&& (Int32.ofInt 252645135)).toUInt32 >>> ((Int32.ofInt 8).toUInt32 &&& Int32.toUInt32 31)).toInt32)) + ((((((((i0 - (((i0.toUInt32 >>> ((Int32.ofInt 1).toUInt32 &&& Int32.toUInt32 31)).toInt32) &&& (Int32.ofInt 1431655765))) &&& (Int32.ofInt 858993459)) + ((((i0 - (((i0.toUInt32 >>> ((Int32.ofInt 1).toUInt32 &&& Int32.toUInt32 31)).toInt32) &&& (Int32.ofInt 1431655765))).toUInt32 >>> ((Int32.ofInt 2).toUInt32 &&& Int32.toUInt32 31)).toInt32) &&& (Int32.ofInt 858993459))) + (((((i0 - (((i0.toUInt32 >>> ((Int32.ofInt 1).toUInt32 &&& Int32.toUInt32 31)).toInt32) &&& (Int32.ofInt 1431655765))) &&& (Int32.ofInt 858993459)) + ((((i0 - (((i0.toUInt32 >>> ((Int32.ofInt 1).toUInt32 &&& Int32.toUInt32 31)).toInt32) &&& (Int32.ofInt 1431655765))).toUInt32 >>> ((Int32.ofInt 2).toUInt32 &&& Int32.toUInt32 31)).toInt32) &&& (Int32.ofInt 858993459))).toUInt32 >>> ((Int32.ofInt 4).toUInt32 &&& Int32.toUInt32 31)).toInt32)) &&& (Int32.ofInt 252645135)) + (((((((i0 - (((i0.toUInt32 >>> ((Int32.ofInt 1).toUInt32 &&& Int32.toUInt32 31)).toInt32) &&& (Int32.ofInt 1431655765))) &&& (Int32.ofInt 858993459)) + ((((i0 - (((i0.toUInt32 >>> ((Int32.ofInt 1).toUInt32 &&& Int32.toUInt32 31)).toInt32) &&& (Int32.ofInt 1431655765))).toUInt32 >>> ((Int32.ofInt 2).toUInt32 &&& Int32.toUInt32 31)).toInt32) &&& (Int32.ofInt 858993459))) + (((((i0 - (((i0.toUInt32 >>> ((Int32.ofInt 1).toUInt32 &&& Int32.toUInt32 31)).toInt32) &&& (Int32.ofInt 1431655765))) &&& (Int32.ofInt 858993459)) + ((((i0 - (((i0.toUInt32 >>> ((Int32.ofInt 1).toUInt32 &&& Int32.toUInt32 31)).toInt32) &&& (Int32.ofInt 1431655765))).toUInt32 >>> ((Int32.ofInt 2).toUInt32 &&& Int32.toUInt32 31)).toInt32) &&& (Int32.ofInt 858993459))).toUInt32 >>> ((Int32.ofInt 4).toUInt32 &&& Int32.toUInt32 31)).toInt32)) &&& (Int32.ofInt 252645135)).toUInt32 >>> ((Int32.ofInt 8).toUInt32 &&& Int32.toUInt32 31)).toInt32)).toUInt32 >>> ((Int32.ofInt 16).toUInt32 &&& Int32.toUInt32 31)).toInt32)) &&& (Int32.ofInt 63))], y)) rfl ?_
  subst h
  exact qE.ret hd9 rfl rfl
def c_rankVariables_47_l12 : Nat → Int32 → Int32 → Int32 → qC → Option qC
  | 0, _, _, _, _ => none
  | n + 1, i1, i2, i3, σ => if Int32.ofInt 48 ≤ i3 then some σ else if c_isCapital_35 (c_sign_48 ((c_firstNode_31 i1) + i3) σ) = 0 then (c_rankVariables_47_l12 n) i1 i2 (i3 + Int32.ofInt 1) σ else (tputO σ 28 9 ((c_firstNode_31 i1) + i3) (Int32.ofInt 8) (c_bitCount_183 (i2 &&& (((Int32.ofInt 1) <<< (((c_sign_48 ((c_firstNode_31 i1) + i3) σ) - (Int32.ofInt 65)) &&& 31)) - (Int32.ofInt 1))))).bind (fun σ3 => (c_rankVariables_47_l12 n) i1 i2 (i3 + Int32.ofInt 1) σ3)
def c_rankVariables_47 (i1 : Int32) (σ : qC) : Option qC := c_rankVariables_47_l12 qF i1 (tat σ 30 4 i1 (Int32.ofInt 0)) (Int32.ofInt 0) σ
theorem t_c_rankVariables_47_l12 {S : Nat × (Nat → Int32)} {d : Nat} {y : qC × Int64 × Nat} (hd : 10 ≤ d) : ∀ (n : Nat) {i1 : Int32} {i2 : Int32} {i3 : Int32} {σ : qC} {p : qC}, c_rankVariables_47_l12 n i1 i2 i3 σ = some p → qE S d jm_1_rankVariables_47 (12, [(0, .ref 27), (1, .int i1), (2, .int i2), (3, .int i3)], [], (σ, y)) ((.inl none, (p, y))) := by
  have hd9 : 9 ≤ d := by omega
  intro n
  induction n with
  | zero =>
    intros
    rename_i h
    unfold c_rankVariables_47_l12 at h
    cases h
  | succ n ih =>
    intro i1 i2 i3 σ p h
    unfold c_rankVariables_47_l12 at h
    refine qE.steps 3 hd9 (s' := (if Int32.ofInt 48 ≤ i3 then 73 else 18, [(0, .ref 27), (1, .int i1), (2, .int i2), (3, .int i3)], [], (σ, y))) rfl ?_
    by_cases c1 : Int32.ofInt 48 ≤ i3
    · rw [if_pos c1] at h
      rw [if_pos c1]
      obtain rfl := Option.some.inj h
      exact qE.ret hd9 rfl rfl
    · rw [if_neg c1] at h
      rw [if_neg c1]
      refine qE.steps 1 hd9 (s' := (19, [(0, .ref 27), (1, .int i1), (2, .int i2), (3, .int i3)], [.int i1], (σ, y))) rfl ?_
      refine qE.call hd9 rfl rfl rfl rfl (t_c_firstNode_31 (by omega) rfl) ?_
      refine qE.steps 0 hd9 (s' := (22, [(0, .ref 27), (1, .int i1), (2, .int i2), (3, .int i3)], [.int (c_firstNode_31 i1)], (σ, y))) rfl ?_
      refine qE.steps 5 hd9 (s' := (29, [(4, .int ((c_firstNode_31 i1) + i3)), (0, .ref 27), (1, .int i1), (2, .int i2), (3, .int i3)], [.int ((c_firstNode_31 i1) + i3), .ref 27], (σ, y))) rfl ?_
      refine qE.call hd9 rfl rfl rfl rfl (t_c_sign_48 (by omega) rfl) ?_
      refine qE.steps 0 hd9 (s' := (32, [(4, .int ((c_firstNode_31 i1) + i3)), (0, .ref 27), (1, .int i1), (2, .int i2), (3, .int i3)], [.int (c_sign_48 ((c_firstNode_31 i1) + i3) σ)], (σ, y))) rfl ?_
      refine qE.steps 2 hd9 (s' := (36, [(5, .int (c_sign_48 ((c_firstNode_31 i1) + i3) σ)), (4, .int ((c_firstNode_31 i1) + i3)), (0, .ref 27), (1, .int i1), (2, .int i2), (3, .int i3)], [.int (c_sign_48 ((c_firstNode_31 i1) + i3) σ)], (σ, y))) rfl ?_
      refine qE.call hd9 rfl rfl rfl rfl (t_c_isCapital_35 (by omega) rfl) ?_
      refine qE.steps 0 hd9 (s' := (39, [(5, .int (c_sign_48 ((c_firstNode_31 i1) + i3) σ)), (4, .int ((c_firstNode_31 i1) + i3)), (0, .ref 27), (1, .int i1), (2, .int i2), (3, .int i3)], [.int (c_isCapital_35 (c_sign_48 ((c_firstNode_31 i1) + i3) σ))], (σ, y))) rfl ?_
      refine qE.steps 1 hd9 (s' := (if c_isCapital_35 (c_sign_48 ((c_firstNode_31 i1) + i3) σ) = 0 then 67 else 42, [(5, .int (c_sign_48 ((c_firstNode_31 i1) + i3) σ)), (4, .int ((c_firstNode_31 i1) + i3)), (0, .ref 27), (1, .int i1), (2, .int i2), (3, .int i3)], [], (σ, y))) rfl ?_
      by_cases c2 : c_isCapital_35 (c_sign_48 ((c_firstNode_31 i1) + i3) σ) = 0
      · rw [if_pos c2] at h
        rw [if_pos c2]
        refine qE.steps 2 hd9 (s' := (12, [(3, .int (i3 + Int32.ofInt 1)), (5, .int (c_sign_48 ((c_firstNode_31 i1) + i3) σ)), (4, .int ((c_firstNode_31 i1) + i3)), (0, .ref 27), (1, .int i1), (2, .int i2)], [], (σ, y))) rfl ?_
        exact qE.wk (ih h) ⟨rfl, rfl, rfl, rfl, trivial⟩ rfl
      · rw [if_neg c2] at h
        rw [if_neg c2]
        refine qE.steps 13 hd9 (s' := (61, [(5, .int (c_sign_48 ((c_firstNode_31 i1) + i3) σ)), (4, .int ((c_firstNode_31 i1) + i3)), (0, .ref 27), (1, .int i1), (2, .int i2), (3, .int i3)], [.int (i2 &&& (((Int32.ofInt 1) <<< (((c_sign_48 ((c_firstNode_31 i1) + i3) σ) - (Int32.ofInt 65)) &&& 31)) - (Int32.ofInt 1))), .int (Int32.ofInt 8), .int ((c_firstNode_31 i1) + i3), .ref 28], (σ, y))) rfl ?_
        refine qE.call hd9 rfl rfl rfl rfl (t_c_bitCount_183 (by omega) rfl) ?_
        refine qE.steps 0 hd9 (s' := (64, [(5, .int (c_sign_48 ((c_firstNode_31 i1) + i3) σ)), (4, .int ((c_firstNode_31 i1) + i3)), (0, .ref 27), (1, .int i1), (2, .int i2), (3, .int i3)], [.int (c_bitCount_183 (i2 &&& (((Int32.ofInt 1) <<< (((c_sign_48 ((c_firstNode_31 i1) + i3) σ) - (Int32.ofInt 65)) &&& 31)) - (Int32.ofInt 1)))), .int (Int32.ofInt 8), .int ((c_firstNode_31 i1) + i3), .ref 28], (σ, y))) rfl ?_
        obtain ⟨σ3, e4, h⟩ := obind h
        refine qE.tab hd9 (qtab_put e4 rfl) rfl rfl rfl ?_
        refine qE.steps 2 hd9 (s' := (12, [(3, .int (i3 + Int32.ofInt 1)), (5, .int (c_sign_48 ((c_firstNode_31 i1) + i3) σ)), (4, .int ((c_firstNode_31 i1) + i3)), (0, .ref 27), (1, .int i1), (2, .int i2)], [], (σ3, y))) rfl ?_
        exact qE.wk (ih h) ⟨rfl, rfl, rfl, rfl, trivial⟩ rfl
theorem t_c_rankVariables_47 {S : Nat × (Nat → Int32)} {d : Nat} {y : qC × Int64 × Nat} {i1 : Int32} {σ : qC} {p : qC} (hd : 10 ≤ d) (h : c_rankVariables_47 i1 σ = some p) : qE S d jm_1_rankVariables_47 (0, [(0, .ref 27), (1, .int i1)], [], (σ, y)) ((.inl none, (p, y))) := by
  have hd9 : 9 ≤ d := by omega
  unfold c_rankVariables_47 at h
  refine qE.steps 8 hd9 (s' := (12, [(3, .int (Int32.ofInt 0)), (2, .int (tat σ 30 4 i1 (Int32.ofInt 0))), (0, .ref 27), (1, .int i1)], [], (σ, y))) rfl ?_
  exact qE.wk (t_c_rankVariables_47_l12 hd qF h) ⟨rfl, rfl, rfl, rfl, trivial⟩ rfl
def c_node_37 (σ : qC) : Int32 := (c_firstNode_31 (σ.1 3202)) + (σ.1 3203)
theorem t_c_node_37 {S : Nat × (Nat → Int32)} {d : Nat} {y : qC × Int64 × Nat} {σ : qC} {p : Int32} (hd : 10 ≤ d) (h : c_node_37 σ = p) : qE S d jm_5_node_37 (0, [(0, .ref 32)], [], (σ, y)) ((.inl (some (.int p)), (σ, y))) := by
  have hd9 : 9 ≤ d := by omega
  unfold c_node_37 at h
  refine qE.steps 2 hd9 (s' := (4, [(0, .ref 32)], [.int (σ.1 3202)], (σ, y))) rfl ?_
  refine qE.call hd9 rfl rfl rfl rfl (t_c_firstNode_31 (by omega) rfl) ?_
  refine qE.steps 0 hd9 (s' := (7, [(0, .ref 32)], [.int (c_firstNode_31 (σ.1 3202))], (σ, y))) rfl ?_
  refine qE.steps 3 hd9 (s' := (12, [(0, .ref 32)], [.int ((c_firstNode_31 (σ.1 3202)) + (σ.1 3203))], (σ, y))) rfl ?_
  subst h
  exact qE.ret hd9 rfl rfl
def c_noteArgument_40 (i1 : Int32) (i2 : Int32) (i3 : Int32) (σ : qC) : Option qC := (tputO σ 28 9 i1 ((Int32.ofInt 2) + i2) i3).bind (fun σ1 => (tputO σ1 28 9 i1 (Int32.ofInt 1) (i2 + (Int32.ofInt 1))).bind (fun σ3 => some σ3))
theorem t_c_noteArgument_40 {S : Nat × (Nat → Int32)} {d : Nat} {y : qC × Int64 × Nat} {i1 : Int32} {i2 : Int32} {i3 : Int32} {σ : qC} {p : qC} (hd : 9 ≤ d) (h : c_noteArgument_40 i1 i2 i3 σ = some p) : qE S d jm_1_noteArgument_40 (0, [(0, .ref 27), (1, .int i1), (2, .int i2), (3, .int i3)], [], (σ, y)) ((.inl none, (p, y))) := by
  have hd9 : 9 ≤ d := by omega
  unfold c_noteArgument_40 at h
  refine qE.steps 7 hd9 (s' := (9, [(0, .ref 27), (1, .int i1), (2, .int i2), (3, .int i3)], [.int i3, .int ((Int32.ofInt 2) + i2), .int i1, .ref 28], (σ, y))) rfl ?_
  obtain ⟨σ1, e2, h⟩ := obind h
  refine qE.tab hd9 (qtab_put e2 rfl) rfl rfl rfl ?_
  refine qE.steps 7 hd9 (s' := (21, [(0, .ref 27), (1, .int i1), (2, .int i2), (3, .int i3)], [.int (i2 + (Int32.ofInt 1)), .int (Int32.ofInt 1), .int i1, .ref 28], (σ1, y))) rfl ?_
  obtain ⟨σ3, e4, h⟩ := obind h
  refine qE.tab hd9 (qtab_put e4 rfl) rfl rfl rfl ?_
  obtain rfl := Option.some.inj h
  exact qE.ret hd9 rfl rfl
def c_readSign_39 (i1 : Int32) (σ : qC) : Option (Int32 × qC) := if c_at_32 (σ.1 3203) σ = i1 then qlet (upS σ 3203 ((σ.1 3203) + (Int32.ofInt 1))) (fun σ2 => some (Int32.ofInt 1, σ2)) else some (Int32.ofInt 0, σ)
theorem t_c_readSign_39 {S : Nat × (Nat → Int32)} {d : Nat} {y : qC × Int64 × Nat} {i1 : Int32} {σ : qC} {p : (Int32 × qC)} (hd : 10 ≤ d) (h : c_readSign_39 i1 σ = some p) : qE S d jm_5_readSign_39 (0, [(0, .ref 32), (1, .int i1)], [], (σ, y)) ((.inl (some (.int p.1)), (p.2, y))) := by
  have hd9 : 9 ≤ d := by omega
  unfold c_readSign_39 at h
  refine qE.steps 4 hd9 (s' := (8, [(0, .ref 32), (1, .int i1)], [.int (σ.1 3203), .ref 25], (σ, y))) rfl ?_
  refine qE.call hd9 rfl rfl rfl rfl (t_c_at_32 (by omega) rfl) ?_
  refine qE.steps 0 hd9 (s' := (11, [(0, .ref 32), (1, .int i1)], [.int (c_at_32 (σ.1 3203) σ)], (σ, y))) rfl ?_
  refine qE.steps 2 hd9 (s' := (if c_at_32 (σ.1 3203) σ = i1 then 17 else 15, [(0, .ref 32), (1, .int i1)], [], (σ, y))) rfl ?_
  by_cases c1 : c_at_32 (σ.1 3203) σ = i1
  · rw [if_pos c1] at h
    rw [if_pos c1]
    obtain ⟨σ2, e3, h⟩ := qlet_ex h
    refine qE.steps 6 hd9 (s' := (27, [(0, .ref 32), (1, .int i1)], [], (σ2, y))) (by subst e3; rfl) ?_
    refine qE.steps 1 hd9 (s' := (28, [(0, .ref 32), (1, .int i1)], [.int (Int32.ofInt 1)], (σ2, y))) rfl ?_
    obtain rfl := Option.some.inj h
    exact qE.ret hd9 rfl rfl
  · rw [if_neg c1] at h
    rw [if_neg c1]
    refine qE.steps 1 hd9 (s' := (16, [(0, .ref 32), (1, .int i1)], [.int (Int32.ofInt 0)], (σ, y))) rfl ?_
    obtain rfl := Option.some.inj h
    exact qE.ret hd9 rfl rfl
