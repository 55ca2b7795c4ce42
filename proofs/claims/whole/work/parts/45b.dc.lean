/-! BY PROGRAM (wip/whole/gendc.py): each method as a function over the numbers -/
def c_isDigit_36 (i0 : Int32) : Int32 := if i0 < Int32.ofInt 48 then Int32.ofInt 0 else if Int32.ofInt 57 < i0 then Int32.ofInt 0 else Int32.ofInt 1
theorem t_c_isDigit_36 {S : Nat × (Nat → Int32)} {d : Nat} {y : qC × Int64 × Nat} {i0 : Int32} {σ : qC} {p : Int32} (hd : 9 ≤ d) (h : c_isDigit_36 i0 = p) : qE S d jm_1_isDigit_36 (0, [(0, .int i0)], [], (σ, y)) ((.inl (some (.int p)), (σ, y))) := by
  have hd9 : 9 ≤ d := by omega
  unfold c_isDigit_36 at h
  refine qE.steps 3 hd9 (s' := (if i0 < Int32.ofInt 48 then 16 else 6, [(0, .int i0)], [], (σ, y))) rfl ?_
  by_cases c1 : i0 < Int32.ofInt 48
  · rw [if_pos c1] at h
    rw [if_pos c1]
    refine qE.steps 1 hd9 (s' := (17, [(0, .int i0)], [.int (Int32.ofInt 0)], (σ, y))) rfl ?_
    subst h
    exact qE.ret hd9 rfl rfl
  · rw [if_neg c1] at h
    rw [if_neg c1]
    refine qE.steps 3 hd9 (s' := (if Int32.ofInt 57 < i0 then 16 else 12, [(0, .int i0)], [], (σ, y))) rfl ?_
    by_cases c2 : Int32.ofInt 57 < i0
    · rw [if_pos c2] at h
      rw [if_pos c2]
      refine qE.steps 1 hd9 (s' := (17, [(0, .int i0)], [.int (Int32.ofInt 0)], (σ, y))) rfl ?_
      subst h
      exact qE.ret hd9 rfl rfl
    · rw [if_neg c2] at h
      rw [if_neg c2]
      refine qE.steps 2 hd9 (s' := (17, [(0, .int i0)], [.int (Int32.ofInt 1)], (σ, y))) rfl ?_
      subst h
      exact qE.ret hd9 rfl rfl
def c_noteTerm_38 (i1 : Int32) (i2 : Int32) (i3 : Int32) (σ : qC) : Option qC := (tputO σ 28 9 i2 (Int32.ofInt 0) i3).bind (fun σ1 => (tputO σ1 28 9 i2 (Int32.ofInt 1) (Int32.ofInt 0)).bind (fun σ3 => (tputO σ3 28 9 i2 (Int32.ofInt 8) (Int32.ofInt (-1))).bind (fun σ5 => if c_isCapital_35 i3 = 0 then some σ5 else (tputO σ5 30 4 i1 (Int32.ofInt 0) ((tat σ5 30 4 i1 (Int32.ofInt 0)) ||| ((Int32.ofInt 1) <<< ((i3 - (Int32.ofInt 65)) &&& 31)))).bind (fun σ8 => some σ8))))
theorem t_c_noteTerm_38 {S : Nat × (Nat → Int32)} {d : Nat} {y : qC × Int64 × Nat} {i1 : Int32} {i2 : Int32} {i3 : Int32} {σ : qC} {p : qC} (hd : 10 ≤ d) (h : c_noteTerm_38 i1 i2 i3 σ = some p) : qE S d jm_1_noteTerm_38 (0, [(0, .ref 27), (1, .int i1), (2, .int i2), (3, .int i3)], [], (σ, y)) ((.inl none, (p, y))) := by
  have hd9 : 9 ≤ d := by omega
  unfold c_noteTerm_38 at h
  refine qE.steps 5 hd9 (s' := (7, [(0, .ref 27), (1, .int i1), (2, .int i2), (3, .int i3)], [.int i3, .int (Int32.ofInt 0), .int i2, .ref 28], (σ, y))) rfl ?_
  obtain ⟨σ1, e2, h⟩ := obind h
  refine qE.tab hd9 (qtab_put e2 rfl) rfl rfl rfl ?_
  refine qE.steps 5 hd9 (s' := (17, [(0, .ref 27), (1, .int i1), (2, .int i2), (3, .int i3)], [.int (Int32.ofInt 0), .int (Int32.ofInt 1), .int i2, .ref 28], (σ1, y))) rfl ?_
  obtain ⟨σ3, e4, h⟩ := obind h
  refine qE.tab hd9 (qtab_put e4 rfl) rfl rfl rfl ?_
  refine qE.steps 5 hd9 (s' := (28, [(0, .ref 27), (1, .int i1), (2, .int i2), (3, .int i3)], [.int (Int32.ofInt (-1)), .int (Int32.ofInt 8), .int i2, .ref 28], (σ3, y))) rfl ?_
  obtain ⟨σ5, e6, h⟩ := obind h
  refine qE.tab hd9 (qtab_put e6 rfl) rfl rfl rfl ?_
  refine qE.steps 1 hd9 (s' := (32, [(0, .ref 27), (1, .int i1), (2, .int i2), (3, .int i3)], [.int i3], (σ5, y))) rfl ?_
  refine qE.call hd9 rfl rfl rfl rfl (t_c_isCapital_35 (by omega) rfl) ?_
  refine qE.steps 0 hd9 (s' := (35, [(0, .ref 27), (1, .int i1), (2, .int i2), (3, .int i3)], [.int (c_isCapital_35 i3)], (σ5, y))) rfl ?_
  refine qE.steps 1 hd9 (s' := (if c_isCapital_35 i3 = 0 then 63 else 38, [(0, .ref 27), (1, .int i1), (2, .int i2), (3, .int i3)], [], (σ5, y))) rfl ?_
  by_cases c7 : c_isCapital_35 i3 = 0
  · rw [if_pos c7] at h
    rw [if_pos c7]
    obtain rfl := Option.some.inj h
    exact qE.ret hd9 rfl rfl
  · rw [if_neg c7] at h
    rw [if_neg c7]
    refine qE.steps 15 hd9 (s' := (60, [(0, .ref 27), (1, .int i1), (2, .int i2), (3, .int i3)], [.int ((tat σ5 30 4 i1 (Int32.ofInt 0)) ||| ((Int32.ofInt 1) <<< ((i3 - (Int32.ofInt 65)) &&& 31))), .int (Int32.ofInt 0), .int i1, .ref 30], (σ5, y))) rfl ?_
    obtain ⟨σ8, e9, h⟩ := obind h
    refine qE.tab hd9 (qtab_put e9 rfl) rfl rfl rfl ?_
    obtain rfl := Option.some.inj h
    exact qE.ret hd9 rfl rfl
def c_readTerm_34_l97 (Rec : Int32 → qC → Option (Int32 × qC)) : Nat → Int32 → Int32 → Int32 → qC → Option (Int32 × qC)
  | 0, _, _, _, _ => none
  | n + 1, i1, i4, i5, σ => if Int32.ofInt 3 ≤ i5 then some (Int32.ofInt 0, σ) else (c_noteArgument_40 i4 i5 (c_node_37 σ) σ).bind (fun p2 => (Rec (i1 + (Int32.ofInt 1)) p2).bind (fun p4 => if p4.1 = 0 then some (Int32.ofInt 0, p4.2) else (c_readSign_39 (Int32.ofInt 41) p4.2).bind (fun p7 => if p7.1 = 0 then if i5 = Int32.ofInt 2 then some (Int32.ofInt 0, p7.2) else (c_readSign_39 (Int32.ofInt 44) p7.2).bind (fun p11 => if p11.1 = 0 then some (Int32.ofInt 0, p11.2) else (c_readTerm_34_l97 Rec n) i1 i4 (i5 + Int32.ofInt 1) p11.2) else some (Int32.ofInt 1, p7.2))))
def c_readTerm_34 : Nat → Int32 → qC → Option (Int32 × qC)
  | 0, _, _ => none
  | n + 1, i1, σ => if Int32.ofInt 6 < i1 then some (Int32.ofInt 0, σ) else if c_isSmall_33 (c_at_32 (σ.1 3203) σ) = 0 then if c_isCapital_35 (c_at_32 (σ.1 3203) σ) = 0 then if c_isDigit_36 (c_at_32 (σ.1 3203) σ) = 0 then some (Int32.ofInt 0, σ) else (c_noteTerm_38 (σ.1 3202) (c_node_37 σ) (c_at_32 (σ.1 3203) σ) σ).bind (fun p5 => qlet (upS p5 3203 ((p5.1 3203) + (Int32.ofInt 1))) (fun σ7 => some (Int32.ofInt 1, σ7))) else (c_noteTerm_38 (σ.1 3202) (c_node_37 σ) (c_at_32 (σ.1 3203) σ) σ).bind (fun p10 => qlet (upS p10 3203 ((p10.1 3203) + (Int32.ofInt 1))) (fun σ12 => some (Int32.ofInt 1, σ12))) else (c_noteTerm_38 (σ.1 3202) (c_node_37 σ) (c_at_32 (σ.1 3203) σ) σ).bind (fun p15 => qlet (upS p15 3203 ((p15.1 3203) + (Int32.ofInt 1))) (fun σ17 => if i1 = Int32.ofInt 6 then some (Int32.ofInt 1, σ17) else (c_readSign_39 (Int32.ofInt 40) σ17).bind (fun p21 => if p21.1 = 0 then some (Int32.ofInt 1, p21.2) else c_readTerm_34_l97 (c_readTerm_34 n) qF i1 (c_node_37 σ) (Int32.ofInt 0) p21.2)))
theorem t_c_readTerm_34_l97 {S : Nat × (Nat → Int32)} {d : Nat} {y : qC × Int64 × Nat} (hd : 11 ≤ d) {Rec : Int32 → qC → Option (Int32 × qC)} (hRec : ∀ {i1 : Int32} {σ : qC} {p : Int32 × qC}, Rec i1 σ = some p → qE S (d - 1) jm_5_readTerm_34 (0, [(0, .ref 32), (1, .int i1)], [], (σ, y)) (.inl (some (.int p.1)), (p.2, y))) : ∀ (n : Nat) {i1 : Int32} {i4 : Int32} {i5 : Int32} {σ : qC} {p : (Int32 × qC)}, c_readTerm_34_l97 Rec n i1 i4 i5 σ = some p → qE S d jm_5_readTerm_34 (97, [(0, .ref 32), (1, .int i1), (4, .int i4), (5, .int i5)], [], (σ, y)) ((.inl (some (.int p.1)), (p.2, y))) := by
  have hd9 : 9 ≤ d := by omega
  intro n
  induction n with
  | zero =>
    intros
    rename_i h
    unfold c_readTerm_34_l97 at h
    cases h
  | succ n ih =>
    intro i1 i4 i5 σ p h
    unfold c_readTerm_34_l97 at h
    refine qE.steps 3 hd9 (s' := (if Int32.ofInt 3 ≤ i5 then 164 else 103, [(0, .ref 32), (1, .int i1), (4, .int i4), (5, .int i5)], [], (σ, y))) rfl ?_
    by_cases c1 : Int32.ofInt 3 ≤ i5
    · rw [if_pos c1] at h
      rw [if_pos c1]
      refine qE.steps 1 hd9 (s' := (165, [(0, .ref 32), (1, .int i1), (4, .int i4), (5, .int i5)], [.int (Int32.ofInt 0)], (σ, y))) rfl ?_
      obtain rfl := Option.some.inj h
      exact qE.ret hd9 rfl rfl
    · rw [if_neg c1] at h
      rw [if_neg c1]
      refine qE.steps 5 hd9 (s' := (112, [(0, .ref 32), (1, .int i1), (4, .int i4), (5, .int i5)], [.ref 32, .int i5, .int i4, .ref 27], (σ, y))) rfl ?_
      refine qE.call hd9 rfl rfl rfl rfl (t_c_node_37 (by omega) rfl) ?_
      refine qE.steps 0 hd9 (s' := (115, [(0, .ref 32), (1, .int i1), (4, .int i4), (5, .int i5)], [.int (c_node_37 σ), .int i5, .int i4, .ref 27], (σ, y))) rfl ?_
      obtain ⟨p2, e3, h⟩ := obind h
      refine qE.call hd9 rfl rfl rfl rfl (t_c_noteArgument_40 (by omega) e3) ?_
      refine qE.steps 0 hd9 (s' := (118, [(0, .ref 32), (1, .int i1), (4, .int i4), (5, .int i5)], [], (p2, y))) rfl ?_
      refine qE.steps 4 hd9 (s' := (122, [(0, .ref 32), (1, .int i1), (4, .int i4), (5, .int i5)], [.int (i1 + (Int32.ofInt 1)), .ref 32], (p2, y))) rfl ?_
      obtain ⟨p4, e5, h⟩ := obind h
      refine qE.call hd9 rfl rfl rfl rfl (hRec e5) ?_
      refine qE.steps 0 hd9 (s' := (125, [(0, .ref 32), (1, .int i1), (4, .int i4), (5, .int i5)], [.int p4.1], (p4.2, y))) rfl ?_
      refine qE.steps 1 hd9 (s' := (if ¬ (p4.1 = 0) then 130 else 128, [(0, .ref 32), (1, .int i1), (4, .int i4), (5, .int i5)], [], (p4.2, y))) rfl ?_
      by_cases c6 : p4.1 = 0
      · rw [if_pos c6] at h
        rw [if_neg (not_not_intro c6)]
        refine qE.steps 1 hd9 (s' := (129, [(0, .ref 32), (1, .int i1), (4, .int i4), (5, .int i5)], [.int (Int32.ofInt 0)], (p4.2, y))) rfl ?_
        obtain rfl := Option.some.inj h
        exact qE.ret hd9 rfl rfl
      · rw [if_neg c6] at h
        rw [if_pos c6]
        refine qE.steps 2 hd9 (s' := (133, [(0, .ref 32), (1, .int i1), (4, .int i4), (5, .int i5)], [.int (Int32.ofInt 41), .ref 32], (p4.2, y))) rfl ?_
        obtain ⟨p7, e8, h⟩ := obind h
        refine qE.call hd9 rfl rfl rfl rfl (t_c_readSign_39 (by omega) e8) ?_
        refine qE.steps 0 hd9 (s' := (136, [(0, .ref 32), (1, .int i1), (4, .int i4), (5, .int i5)], [.int p7.1], (p7.2, y))) rfl ?_
        refine qE.steps 1 hd9 (s' := (if p7.1 = 0 then 141 else 139, [(0, .ref 32), (1, .int i1), (4, .int i4), (5, .int i5)], [], (p7.2, y))) rfl ?_
        by_cases c9 : p7.1 = 0
        · rw [if_pos c9] at h
          rw [if_pos c9]
          refine qE.steps 3 hd9 (s' := (if i5 = Int32.ofInt 2 then 156 else 147, [(0, .ref 32), (1, .int i1), (4, .int i4), (5, .int i5)], [], (p7.2, y))) rfl ?_
          by_cases c10 : i5 = Int32.ofInt 2
          · rw [if_pos c10] at h
            rw [if_pos c10]
            refine qE.steps 1 hd9 (s' := (157, [(0, .ref 32), (1, .int i1), (4, .int i4), (5, .int i5)], [.int (Int32.ofInt 0)], (p7.2, y))) rfl ?_
            obtain rfl := Option.some.inj h
            exact qE.ret hd9 rfl rfl
          · rw [if_neg c10] at h
            rw [if_neg c10]
            refine qE.steps 2 hd9 (s' := (150, [(0, .ref 32), (1, .int i1), (4, .int i4), (5, .int i5)], [.int (Int32.ofInt 44), .ref 32], (p7.2, y))) rfl ?_
            obtain ⟨p11, e12, h⟩ := obind h
            refine qE.call hd9 rfl rfl rfl rfl (t_c_readSign_39 (by omega) e12) ?_
            refine qE.steps 0 hd9 (s' := (153, [(0, .ref 32), (1, .int i1), (4, .int i4), (5, .int i5)], [.int p11.1], (p11.2, y))) rfl ?_
            refine qE.steps 1 hd9 (s' := (if ¬ (p11.1 = 0) then 158 else 156, [(0, .ref 32), (1, .int i1), (4, .int i4), (5, .int i5)], [], (p11.2, y))) rfl ?_
            by_cases c13 : p11.1 = 0
            · rw [if_pos c13] at h
              rw [if_neg (not_not_intro c13)]
              refine qE.steps 1 hd9 (s' := (157, [(0, .ref 32), (1, .int i1), (4, .int i4), (5, .int i5)], [.int (Int32.ofInt 0)], (p11.2, y))) rfl ?_
              obtain rfl := Option.some.inj h
              exact qE.ret hd9 rfl rfl
            · rw [if_neg c13] at h
              rw [if_pos c13]
              refine qE.steps 2 hd9 (s' := (97, [(5, .int (i5 + Int32.ofInt 1)), (0, .ref 32), (1, .int i1), (4, .int i4)], [], (p11.2, y))) rfl ?_
              exact qE.wk (ih h) ⟨rfl, rfl, rfl, rfl, trivial⟩ rfl
        · rw [if_neg c9] at h
          rw [if_neg c9]
          refine qE.steps 1 hd9 (s' := (140, [(0, .ref 32), (1, .int i1), (4, .int i4), (5, .int i5)], [.int (Int32.ofInt 1)], (p7.2, y))) rfl ?_
          obtain rfl := Option.some.inj h
          exact qE.ret hd9 rfl rfl
theorem t_c_readTerm_34 {S : Nat × (Nat → Int32)} {y : qC × Int64 × Nat} : ∀ (n : Nat) {d : Nat} {i1 : Int32} {σ : qC} {p : (Int32 × qC)}, 11 + n ≤ d → c_readTerm_34 n i1 σ = some p → qE S d jm_5_readTerm_34 (0, [(0, .ref 32), (1, .int i1)], [], (σ, y)) ((.inl (some (.int p.1)), (p.2, y))) := by
  intro n
  induction n with
  | zero =>
    intro d i1 σ p hd h
    unfold c_readTerm_34 at h
    cases h
  | succ n ih =>
    intro d i1 σ p hd h
    have hd9 : 9 ≤ d := by omega
    have ih : ∀ {i1 : Int32} {σ : qC} {p : (Int32 × qC)}, 11 + n ≤ d - 1 → c_readTerm_34 n i1 σ = some p → qE S (d - 1) jm_5_readTerm_34 (0, [(0, .ref 32), (1, .int i1)], [], (σ, y)) (.inl (some (.int p.1)), (p.2, y)) := fun a b => ih a b
    unfold c_readTerm_34 at h
    refine qE.steps 4 hd9 (s' := (8, [(0, .ref 32), (1, .int i1)], [.int (σ.1 3203), .ref 25], (σ, y))) rfl ?_
    refine qE.call hd9 rfl rfl rfl rfl (t_c_at_32 (by omega) rfl) ?_
    refine qE.steps 0 hd9 (s' := (11, [(0, .ref 32), (1, .int i1)], [.int (c_at_32 (σ.1 3203) σ)], (σ, y))) rfl ?_
    refine qE.steps 2 hd9 (s' := (13, [(2, .int (c_at_32 (σ.1 3203) σ)), (0, .ref 32), (1, .int i1)], [.int (c_at_32 (σ.1 3203) σ)], (σ, y))) rfl ?_
    refine qE.call hd9 rfl rfl rfl rfl (t_c_isSmall_33 (by omega) rfl) ?_
    refine qE.steps 0 hd9 (s' := (16, [(2, .int (c_at_32 (σ.1 3203) σ)), (0, .ref 32), (1, .int i1)], [.int (c_isSmall_33 (c_at_32 (σ.1 3203) σ))], (σ, y))) rfl ?_
    refine qE.steps 4 hd9 (s' := (if Int32.ofInt 6 < i1 then 41 else 23, [(3, .int (c_isSmall_33 (c_at_32 (σ.1 3203) σ))), (2, .int (c_at_32 (σ.1 3203) σ)), (0, .ref 32), (1, .int i1)], [], (σ, y))) rfl ?_
    by_cases c1 : Int32.ofInt 6 < i1
    · rw [if_pos c1] at h
      rw [if_pos c1]
      refine qE.steps 1 hd9 (s' := (42, [(3, .int (c_isSmall_33 (c_at_32 (σ.1 3203) σ))), (2, .int (c_at_32 (σ.1 3203) σ)), (0, .ref 32), (1, .int i1)], [.int (Int32.ofInt 0)], (σ, y))) rfl ?_
      obtain rfl := Option.some.inj h
      exact qE.ret hd9 rfl rfl
    · rw [if_neg c1] at h
      rw [if_neg c1]
      refine qE.steps 2 hd9 (s' := (if ¬ (c_isSmall_33 (c_at_32 (σ.1 3203) σ) = 0) then 43 else 27, [(3, .int (c_isSmall_33 (c_at_32 (σ.1 3203) σ))), (2, .int (c_at_32 (σ.1 3203) σ)), (0, .ref 32), (1, .int i1)], [], (σ, y))) rfl ?_
      by_cases c2 : c_isSmall_33 (c_at_32 (σ.1 3203) σ) = 0
      · rw [if_pos c2] at h
        rw [if_neg (not_not_intro c2)]
        refine qE.steps 1 hd9 (s' := (28, [(3, .int (c_isSmall_33 (c_at_32 (σ.1 3203) σ))), (2, .int (c_at_32 (σ.1 3203) σ)), (0, .ref 32), (1, .int i1)], [.int (c_at_32 (σ.1 3203) σ)], (σ, y))) rfl ?_
        refine qE.call hd9 rfl rfl rfl rfl (t_c_isCapital_35 (by omega) rfl) ?_
        refine qE.steps 0 hd9 (s' := (31, [(3, .int (c_isSmall_33 (c_at_32 (σ.1 3203) σ))), (2, .int (c_at_32 (σ.1 3203) σ)), (0, .ref 32), (1, .int i1)], [.int (c_isCapital_35 (c_at_32 (σ.1 3203) σ))], (σ, y))) rfl ?_
        refine qE.steps 1 hd9 (s' := (if ¬ (c_isCapital_35 (c_at_32 (σ.1 3203) σ) = 0) then 43 else 34, [(3, .int (c_isSmall_33 (c_at_32 (σ.1 3203) σ))), (2, .int (c_at_32 (σ.1 3203) σ)), (0, .ref 32), (1, .int i1)], [], (σ, y))) rfl ?_
        by_cases c3 : c_isCapital_35 (c_at_32 (σ.1 3203) σ) = 0
        · rw [if_pos c3] at h
          rw [if_neg (not_not_intro c3)]
          refine qE.steps 1 hd9 (s' := (35, [(3, .int (c_isSmall_33 (c_at_32 (σ.1 3203) σ))), (2, .int (c_at_32 (σ.1 3203) σ)), (0, .ref 32), (1, .int i1)], [.int (c_at_32 (σ.1 3203) σ)], (σ, y))) rfl ?_
          refine qE.call hd9 rfl rfl rfl rfl (t_c_isDigit_36 (by omega) rfl) ?_
          refine qE.steps 0 hd9 (s' := (38, [(3, .int (c_isSmall_33 (c_at_32 (σ.1 3203) σ))), (2, .int (c_at_32 (σ.1 3203) σ)), (0, .ref 32), (1, .int i1)], [.int (c_isDigit_36 (c_at_32 (σ.1 3203) σ))], (σ, y))) rfl ?_
          refine qE.steps 1 hd9 (s' := (if ¬ (c_isDigit_36 (c_at_32 (σ.1 3203) σ) = 0) then 43 else 41, [(3, .int (c_isSmall_33 (c_at_32 (σ.1 3203) σ))), (2, .int (c_at_32 (σ.1 3203) σ)), (0, .ref 32), (1, .int i1)], [], (σ, y))) rfl ?_
          by_cases c4 : c_isDigit_36 (c_at_32 (σ.1 3203) σ) = 0
          · rw [if_pos c4] at h
            rw [if_neg (not_not_intro c4)]
            refine qE.steps 1 hd9 (s' := (42, [(3, .int (c_isSmall_33 (c_at_32 (σ.1 3203) σ))), (2, .int (c_at_32 (σ.1 3203) σ)), (0, .ref 32), (1, .int i1)], [.int (Int32.ofInt 0)], (σ, y))) rfl ?_
            obtain rfl := Option.some.inj h
            exact qE.ret hd9 rfl rfl
          · rw [if_neg c4] at h
            rw [if_pos c4]
            refine qE.steps 1 hd9 (s' := (44, [(3, .int (c_isSmall_33 (c_at_32 (σ.1 3203) σ))), (2, .int (c_at_32 (σ.1 3203) σ)), (0, .ref 32), (1, .int i1)], [.ref 32], (σ, y))) rfl ?_
            refine qE.call hd9 rfl rfl rfl rfl (t_c_node_37 (by omega) rfl) ?_
            refine qE.steps 0 hd9 (s' := (47, [(3, .int (c_isSmall_33 (c_at_32 (σ.1 3203) σ))), (2, .int (c_at_32 (σ.1 3203) σ)), (0, .ref 32), (1, .int i1)], [.int (c_node_37 σ)], (σ, y))) rfl ?_
            refine qE.steps 7 hd9 (s' := (60, [(4, .int (c_node_37 σ)), (3, .int (c_isSmall_33 (c_at_32 (σ.1 3203) σ))), (2, .int (c_at_32 (σ.1 3203) σ)), (0, .ref 32), (1, .int i1)], [.int (c_at_32 (σ.1 3203) σ), .int (c_node_37 σ), .int (σ.1 3202), .ref 27], (σ, y))) rfl ?_
            obtain ⟨p5, e6, h⟩ := obind h
            refine qE.call hd9 rfl rfl rfl rfl (t_c_noteTerm_38 (by omega) e6) ?_
            refine qE.steps 0 hd9 (s' := (63, [(4, .int (c_node_37 σ)), (3, .int (c_isSmall_33 (c_at_32 (σ.1 3203) σ))), (2, .int (c_at_32 (σ.1 3203) σ)), (0, .ref 32), (1, .int i1)], [], (p5, y))) rfl ?_
            obtain ⟨σ7, e8, h⟩ := qlet_ex h
            refine qE.steps 6 hd9 (s' := (73, [(4, .int (c_node_37 σ)), (3, .int (c_isSmall_33 (c_at_32 (σ.1 3203) σ))), (2, .int (c_at_32 (σ.1 3203) σ)), (0, .ref 32), (1, .int i1)], [], (σ7, y))) (by subst e8; rfl) ?_
            refine qE.steps 2 hd9 (s' := (if c_isSmall_33 (c_at_32 (σ.1 3203) σ) = 0 then 92 else 77, [(4, .int (c_node_37 σ)), (3, .int (c_isSmall_33 (c_at_32 (σ.1 3203) σ))), (2, .int (c_at_32 (σ.1 3203) σ)), (0, .ref 32), (1, .int i1)], [], (σ7, y))) rfl ?_
            rw [if_pos c2]
            refine qE.steps 1 hd9 (s' := (93, [(4, .int (c_node_37 σ)), (3, .int (c_isSmall_33 (c_at_32 (σ.1 3203) σ))), (2, .int (c_at_32 (σ.1 3203) σ)), (0, .ref 32), (1, .int i1)], [.int (Int32.ofInt 1)], (σ7, y))) rfl ?_
            obtain rfl := Option.some.inj h
            exact qE.ret hd9 rfl rfl
        · rw [if_neg c3] at h
          rw [if_pos c3]
          refine qE.steps 1 hd9 (s' := (44, [(3, .int (c_isSmall_33 (c_at_32 (σ.1 3203) σ))), (2, .int (c_at_32 (σ.1 3203) σ)), (0, .ref 32), (1, .int i1)], [.ref 32], (σ, y))) rfl ?_
          refine qE.call hd9 rfl rfl rfl rfl (t_c_node_37 (by omega) rfl) ?_
          refine qE.steps 0 hd9 (s' := (47, [(3, .int (c_isSmall_33 (c_at_32 (σ.1 3203) σ))), (2, .int (c_at_32 (σ.1 3203) σ)), (0, .ref 32), (1, .int i1)], [.int (c_node_37 σ)], (σ, y))) rfl ?_
          refine qE.steps 7 hd9 (s' := (60, [(4, .int (c_node_37 σ)), (3, .int (c_isSmall_33 (c_at_32 (σ.1 3203) σ))), (2, .int (c_at_32 (σ.1 3203) σ)), (0, .ref 32), (1, .int i1)], [.int (c_at_32 (σ.1 3203) σ), .int (c_node_37 σ), .int (σ.1 3202), .ref 27], (σ, y))) rfl ?_
          obtain ⟨p10, e11, h⟩ := obind h
          refine qE.call hd9 rfl rfl rfl rfl (t_c_noteTerm_38 (by omega) e11) ?_
          refine qE.steps 0 hd9 (s' := (63, [(4, .int (c_node_37 σ)), (3, .int (c_isSmall_33 (c_at_32 (σ.1 3203) σ))), (2, .int (c_at_32 (σ.1 3203) σ)), (0, .ref 32), (1, .int i1)], [], (p10, y))) rfl ?_
          obtain ⟨σ12, e13, h⟩ := qlet_ex h
          refine qE.steps 6 hd9 (s' := (73, [(4, .int (c_node_37 σ)), (3, .int (c_isSmall_33 (c_at_32 (σ.1 3203) σ))), (2, .int (c_at_32 (σ.1 3203) σ)), (0, .ref 32), (1, .int i1)], [], (σ12, y))) (by subst e13; rfl) ?_
          refine qE.steps 2 hd9 (s' := (if c_isSmall_33 (c_at_32 (σ.1 3203) σ) = 0 then 92 else 77, [(4, .int (c_node_37 σ)), (3, .int (c_isSmall_33 (c_at_32 (σ.1 3203) σ))), (2, .int (c_at_32 (σ.1 3203) σ)), (0, .ref 32), (1, .int i1)], [], (σ12, y))) rfl ?_
          rw [if_pos c2]
          refine qE.steps 1 hd9 (s' := (93, [(4, .int (c_node_37 σ)), (3, .int (c_isSmall_33 (c_at_32 (σ.1 3203) σ))), (2, .int (c_at_32 (σ.1 3203) σ)), (0, .ref 32), (1, .int i1)], [.int (Int32.ofInt 1)], (σ12, y))) rfl ?_
          obtain rfl := Option.some.inj h
          exact qE.ret hd9 rfl rfl
      · rw [if_neg c2] at h
        rw [if_pos c2]
        refine qE.steps 1 hd9 (s' := (44, [(3, .int (c_isSmall_33 (c_at_32 (σ.1 3203) σ))), (2, .int (c_at_32 (σ.1 3203) σ)), (0, .ref 32), (1, .int i1)], [.ref 32], (σ, y))) rfl ?_
        refine qE.call hd9 rfl rfl rfl rfl (t_c_node_37 (by omega) rfl) ?_
        refine qE.steps 0 hd9 (s' := (47, [(3, .int (c_isSmall_33 (c_at_32 (σ.1 3203) σ))), (2, .int (c_at_32 (σ.1 3203) σ)), (0, .ref 32), (1, .int i1)], [.int (c_node_37 σ)], (σ, y))) rfl ?_
        refine qE.steps 7 hd9 (s' := (60, [(4, .int (c_node_37 σ)), (3, .int (c_isSmall_33 (c_at_32 (σ.1 3203) σ))), (2, .int (c_at_32 (σ.1 3203) σ)), (0, .ref 32), (1, .int i1)], [.int (c_at_32 (σ.1 3203) σ), .int (c_node_37 σ), .int (σ.1 3202), .ref 27], (σ, y))) rfl ?_
        obtain ⟨p15, e16, h⟩ := obind h
        refine qE.call hd9 rfl rfl rfl rfl (t_c_noteTerm_38 (by omega) e16) ?_
        refine qE.steps 0 hd9 (s' := (63, [(4, .int (c_node_37 σ)), (3, .int (c_isSmall_33 (c_at_32 (σ.1 3203) σ))), (2, .int (c_at_32 (σ.1 3203) σ)), (0, .ref 32), (1, .int i1)], [], (p15, y))) rfl ?_
        obtain ⟨σ17, e18, h⟩ := qlet_ex h
        refine qE.steps 6 hd9 (s' := (73, [(4, .int (c_node_37 σ)), (3, .int (c_isSmall_33 (c_at_32 (σ.1 3203) σ))), (2, .int (c_at_32 (σ.1 3203) σ)), (0, .ref 32), (1, .int i1)], [], (σ17, y))) (by subst e18; rfl) ?_
        refine qE.steps 2 hd9 (s' := (if c_isSmall_33 (c_at_32 (σ.1 3203) σ) = 0 then 92 else 77, [(4, .int (c_node_37 σ)), (3, .int (c_isSmall_33 (c_at_32 (σ.1 3203) σ))), (2, .int (c_at_32 (σ.1 3203) σ)), (0, .ref 32), (1, .int i1)], [], (σ17, y))) rfl ?_
        rw [if_neg c2]
        refine qE.steps 3 hd9 (s' := (if i1 = Int32.ofInt 6 then 92 else 83, [(4, .int (c_node_37 σ)), (3, .int (c_isSmall_33 (c_at_32 (σ.1 3203) σ))), (2, .int (c_at_32 (σ.1 3203) σ)), (0, .ref 32), (1, .int i1)], [], (σ17, y))) rfl ?_
        by_cases c20 : i1 = Int32.ofInt 6
        · rw [if_pos c20] at h
          rw [if_pos c20]
          refine qE.steps 1 hd9 (s' := (93, [(4, .int (c_node_37 σ)), (3, .int (c_isSmall_33 (c_at_32 (σ.1 3203) σ))), (2, .int (c_at_32 (σ.1 3203) σ)), (0, .ref 32), (1, .int i1)], [.int (Int32.ofInt 1)], (σ17, y))) rfl ?_
          obtain rfl := Option.some.inj h
          exact qE.ret hd9 rfl rfl
        · rw [if_neg c20] at h
          rw [if_neg c20]
          refine qE.steps 2 hd9 (s' := (86, [(4, .int (c_node_37 σ)), (3, .int (c_isSmall_33 (c_at_32 (σ.1 3203) σ))), (2, .int (c_at_32 (σ.1 3203) σ)), (0, .ref 32), (1, .int i1)], [.int (Int32.ofInt 40), .ref 32], (σ17, y))) rfl ?_
          obtain ⟨p21, e22, h⟩ := obind h
          refine qE.call hd9 rfl rfl rfl rfl (t_c_readSign_39 (by omega) e22) ?_
          refine qE.steps 0 hd9 (s' := (89, [(4, .int (c_node_37 σ)), (3, .int (c_isSmall_33 (c_at_32 (σ.1 3203) σ))), (2, .int (c_at_32 (σ.1 3203) σ)), (0, .ref 32), (1, .int i1)], [.int p21.1], (p21.2, y))) rfl ?_
          refine qE.steps 1 hd9 (s' := (if ¬ (p21.1 = 0) then 94 else 92, [(4, .int (c_node_37 σ)), (3, .int (c_isSmall_33 (c_at_32 (σ.1 3203) σ))), (2, .int (c_at_32 (σ.1 3203) σ)), (0, .ref 32), (1, .int i1)], [], (p21.2, y))) rfl ?_
          by_cases c23 : p21.1 = 0
          · rw [if_pos c23] at h
            rw [if_neg (not_not_intro c23)]
            refine qE.steps 1 hd9 (s' := (93, [(4, .int (c_node_37 σ)), (3, .int (c_isSmall_33 (c_at_32 (σ.1 3203) σ))), (2, .int (c_at_32 (σ.1 3203) σ)), (0, .ref 32), (1, .int i1)], [.int (Int32.ofInt 1)], (p21.2, y))) rfl ?_
            obtain rfl := Option.some.inj h
            exact qE.ret hd9 rfl rfl
          · rw [if_neg c23] at h
            rw [if_pos c23]
            refine qE.steps 2 hd9 (s' := (97, [(5, .int (Int32.ofInt 0)), (4, .int (c_node_37 σ)), (3, .int (c_isSmall_33 (c_at_32 (σ.1 3203) σ))), (2, .int (c_at_32 (σ.1 3203) σ)), (0, .ref 32), (1, .int i1)], [], (p21.2, y))) rfl ?_
            exact qE.wk (t_c_readTerm_34_l97 (by omega) (fun h => ih (by omega) h) qF h) ⟨rfl, rfl, rfl, rfl, trivial⟩ rfl
def c_atEnd_41 (σ : qC) : Int32 := if σ.1 3203 < c_length_12 σ then Int32.ofInt 0 else Int32.ofInt 1
theorem t_c_atEnd_41 {S : Nat × (Nat → Int32)} {d : Nat} {y : qC × Int64 × Nat} {σ : qC} {p : Int32} (hd : 10 ≤ d) (h : c_atEnd_41 σ = p) : qE S d jm_5_atEnd_41 (0, [(0, .ref 32)], [], (σ, y)) ((.inl (some (.int p)), (σ, y))) := by
  have hd9 : 9 ≤ d := by omega
  unfold c_atEnd_41 at h
  refine qE.steps 4 hd9 (s' := (8, [(0, .ref 32)], [.ref 25, .int (σ.1 3203)], (σ, y))) rfl ?_
  refine qE.call hd9 rfl rfl rfl rfl (t_c_length_12 (by omega) rfl) ?_
  refine qE.steps 0 hd9 (s' := (11, [(0, .ref 32)], [.int (c_length_12 σ), .int (σ.1 3203)], (σ, y))) rfl ?_
  refine qE.steps 1 hd9 (s' := (if σ.1 3203 < c_length_12 σ then 18 else 14, [(0, .ref 32)], [], (σ, y))) rfl ?_
  by_cases c1 : σ.1 3203 < c_length_12 σ
  · rw [if_pos c1] at h
    rw [if_pos c1]
    refine qE.steps 1 hd9 (s' := (19, [(0, .ref 32)], [.int (Int32.ofInt 0)], (σ, y))) rfl ?_
    subst h
    exact qE.ret hd9 rfl rfl
  · rw [if_neg c1] at h
    rw [if_neg c1]
    refine qE.steps 2 hd9 (s' := (19, [(0, .ref 32)], [.int (Int32.ofInt 1)], (σ, y))) rfl ?_
    subst h
    exact qE.ret hd9 rfl rfl
def c_noteGoal_45 (i1 : Int32) (i2 : Int32) (i3 : Int32) (σ : qC) : Option qC := (tputO σ 28 9 i1 (Int32.ofInt 5) i2).bind (fun σ1 => (tputO σ1 28 9 i1 (Int32.ofInt 6) i3).bind (fun σ3 => (tputO σ3 28 9 i1 (Int32.ofInt 7) (Int32.ofInt (-1))).bind (fun σ5 => some σ5)))
theorem t_c_noteGoal_45 {S : Nat × (Nat → Int32)} {d : Nat} {y : qC × Int64 × Nat} {i1 : Int32} {i2 : Int32} {i3 : Int32} {σ : qC} {p : qC} (hd : 9 ≤ d) (h : c_noteGoal_45 i1 i2 i3 σ = some p) : qE S d jm_1_noteGoal_45 (0, [(0, .ref 27), (1, .int i1), (2, .int i2), (3, .int i3)], [], (σ, y)) ((.inl none, (p, y))) := by
  have hd9 : 9 ≤ d := by omega
  unfold c_noteGoal_45 at h
  refine qE.steps 5 hd9 (s' := (7, [(0, .ref 27), (1, .int i1), (2, .int i2), (3, .int i3)], [.int i2, .int (Int32.ofInt 5), .int i1, .ref 28], (σ, y))) rfl ?_
  obtain ⟨σ1, e2, h⟩ := obind h
  refine qE.tab hd9 (qtab_put e2 rfl) rfl rfl rfl ?_
  refine qE.steps 5 hd9 (s' := (18, [(0, .ref 27), (1, .int i1), (2, .int i2), (3, .int i3)], [.int i3, .int (Int32.ofInt 6), .int i1, .ref 28], (σ1, y))) rfl ?_
  obtain ⟨σ3, e4, h⟩ := obind h
  refine qE.tab hd9 (qtab_put e4 rfl) rfl rfl rfl ?_
  refine qE.steps 5 hd9 (s' := (29, [(0, .ref 27), (1, .int i1), (2, .int i2), (3, .int i3)], [.int (Int32.ofInt (-1)), .int (Int32.ofInt 7), .int i1, .ref 28], (σ3, y))) rfl ?_
  obtain ⟨σ5, e6, h⟩ := obind h
  refine qE.tab hd9 (qtab_put e6 rfl) rfl rfl rfl ?_
  obtain rfl := Option.some.inj h
  exact qE.ret hd9 rfl rfl
