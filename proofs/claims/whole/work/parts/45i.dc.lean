/-! BY PROGRAM (wip/whole/gendc.py): each method as a function over the numbers -/
def c_conclude_111 (o1 : Nat) (σ : qC) : Option ((Int32 ⊕ Nat) × qC) := if 1 ≤ o1 ∧ o1 < 11 then (if o1 = 2 then qlet (upS σ 2410 (Int32.ofInt 1)) (fun σ3 => if σ3.1 2410 = 0 then if o1 = 3 then some (.inr 13, σ3) else if o1 = 6 then some (.inr 14, σ3) else some (.inr 15, σ3) else qlet (upS σ3 2411 ((σ3.1 2411) + (Int32.ofInt 1))) (fun σ8 => some (.inl (c_stepsTaken_112 σ8), σ8))) else qlet (upS σ 2410 (Int32.ofInt 0)) (fun σ10 => if σ10.1 2410 = 0 then if o1 = 3 then some (.inr 13, σ10) else if o1 = 6 then some (.inr 14, σ10) else some (.inr 15, σ10) else qlet (upS σ10 2411 ((σ10.1 2411) + (Int32.ofInt 1))) (fun σ15 => some (.inl (c_stepsTaken_112 σ15), σ15)))) else none
set_option maxRecDepth 20000 in
theorem t_c_conclude_111 {S : Nat × (Nat → Int32)} {d : Nat} {y : qC × Int64 × Nat} {o1 : Nat} {σ : qC} {p : ((Int32 ⊕ Nat) × qC)} (hd : 10 ≤ d) (h : c_conclude_111 o1 σ = some p) : qE S d jm_0_conclude_111 (0, [(0, .ref 24), (1, .ref o1)], [], (σ, y)) (qres p y) := by
  have hd9 : 9 ≤ d := by omega
  unfold c_conclude_111 at h
  refine qE.steps 3 hd9 (s' := (5, [(0, .ref 24), (1, .ref o1)], [.ref 2, .ref o1, .ref 24], (σ, y))) rfl ?_
  by_cases c1 : 1 ≤ o1 ∧ o1 < 11
  case neg => rw [if_neg c1] at h; cases h
  rw [if_pos c1] at h
  refine qE.acmp hd9 ⟨c1, by decide⟩ rfl rfl ?_
  show qE S d jm_0_conclude_111 (if ¬ (o1 = 2) then 12 else 8, [(0, .ref 24), (1, .ref o1)], [.ref 24], (σ, y)) _
  by_cases c2 : o1 = 2
  · rw [if_pos c2] at h
    rw [if_neg (not_not_intro c2)]
    obtain ⟨σ3, e4, h⟩ := qlet_ex h
    refine qE.steps 3 hd9 (s' := (16, [(0, .ref 24), (1, .ref o1)], [], (σ3, y))) (by subst e4; rfl) ?_
    refine qE.steps 3 hd9 (s' := (if σ3.1 2410 = 0 then 41 else 23, [(0, .ref 24), (1, .ref o1)], [], (σ3, y))) rfl ?_
    by_cases c5 : σ3.1 2410 = 0
    · rw [if_pos c5] at h
      rw [if_pos c5]
      refine qE.steps 2 hd9 (s' := (45, [(0, .ref 24), (1, .ref o1)], [.ref 3, .ref o1], (σ3, y))) rfl ?_
      refine qE.acmp hd9 ⟨c1, by decide⟩ rfl rfl ?_
      show qE S d jm_0_conclude_111 (if ¬ (o1 = 3) then 58 else 48, [(0, .ref 24), (1, .ref o1)], [], (σ3, y)) _
      by_cases c6 : o1 = 3
      · rw [if_pos c6] at h
        rw [if_neg (not_not_intro c6)]
        obtain rfl := Option.some.inj h
        exact qE.thr hd9 rfl rfl rfl
      · rw [if_neg c6] at h
        rw [if_pos c6]
        refine qE.steps 2 hd9 (s' := (62, [(0, .ref 24), (1, .ref o1)], [.ref 6, .ref o1], (σ3, y))) rfl ?_
        refine qE.acmp hd9 ⟨c1, by decide⟩ rfl rfl ?_
        show qE S d jm_0_conclude_111 (if ¬ (o1 = 6) then 75 else 65, [(0, .ref 24), (1, .ref o1)], [], (σ3, y)) _
        by_cases c7 : o1 = 6
        · rw [if_pos c7] at h
          rw [if_neg (not_not_intro c7)]
          obtain rfl := Option.some.inj h
          exact qE.thr hd9 rfl rfl rfl
        · rw [if_neg c7] at h
          rw [if_pos c7]
          obtain rfl := Option.some.inj h
          exact qE.thr hd9 rfl rfl rfl
    · rw [if_neg c5] at h
      rw [if_neg c5]
      obtain ⟨σ8, e9, h⟩ := qlet_ex h
      refine qE.steps 6 hd9 (s' := (33, [(0, .ref 24), (1, .ref o1)], [], (σ8, y))) (by subst e9; rfl) ?_
      refine qE.steps 2 hd9 (s' := (37, [(0, .ref 24), (1, .ref o1)], [.ref 44], (σ8, y))) rfl ?_
      refine qE.call hd9 rfl rfl rfl rfl (t_c_stepsTaken_112 (by omega) rfl) ?_
      refine qE.steps 0 hd9 (s' := (40, [(0, .ref 24), (1, .ref o1)], [.int (c_stepsTaken_112 σ8)], (σ8, y))) rfl ?_
      obtain rfl := Option.some.inj h
      exact qE.ret hd9 rfl rfl
  · rw [if_neg c2] at h
    rw [if_pos c2]
    obtain ⟨σ10, e11, h⟩ := qlet_ex h
    refine qE.steps 2 hd9 (s' := (16, [(0, .ref 24), (1, .ref o1)], [], (σ10, y))) (by subst e11; rfl) ?_
    refine qE.steps 3 hd9 (s' := (if σ10.1 2410 = 0 then 41 else 23, [(0, .ref 24), (1, .ref o1)], [], (σ10, y))) rfl ?_
    by_cases c12 : σ10.1 2410 = 0
    · rw [if_pos c12] at h
      rw [if_pos c12]
      refine qE.steps 2 hd9 (s' := (45, [(0, .ref 24), (1, .ref o1)], [.ref 3, .ref o1], (σ10, y))) rfl ?_
      refine qE.acmp hd9 ⟨c1, by decide⟩ rfl rfl ?_
      show qE S d jm_0_conclude_111 (if ¬ (o1 = 3) then 58 else 48, [(0, .ref 24), (1, .ref o1)], [], (σ10, y)) _
      by_cases c13 : o1 = 3
      · rw [if_pos c13] at h
        rw [if_neg (not_not_intro c13)]
        obtain rfl := Option.some.inj h
        exact qE.thr hd9 rfl rfl rfl
      · rw [if_neg c13] at h
        rw [if_pos c13]
        refine qE.steps 2 hd9 (s' := (62, [(0, .ref 24), (1, .ref o1)], [.ref 6, .ref o1], (σ10, y))) rfl ?_
        refine qE.acmp hd9 ⟨c1, by decide⟩ rfl rfl ?_
        show qE S d jm_0_conclude_111 (if ¬ (o1 = 6) then 75 else 65, [(0, .ref 24), (1, .ref o1)], [], (σ10, y)) _
        by_cases c14 : o1 = 6
        · rw [if_pos c14] at h
          rw [if_neg (not_not_intro c14)]
          obtain rfl := Option.some.inj h
          exact qE.thr hd9 rfl rfl rfl
        · rw [if_neg c14] at h
          rw [if_pos c14]
          obtain rfl := Option.some.inj h
          exact qE.thr hd9 rfl rfl rfl
    · rw [if_neg c12] at h
      rw [if_neg c12]
      obtain ⟨σ15, e16, h⟩ := qlet_ex h
      refine qE.steps 6 hd9 (s' := (33, [(0, .ref 24), (1, .ref o1)], [], (σ15, y))) (by subst e16; rfl) ?_
      refine qE.steps 2 hd9 (s' := (37, [(0, .ref 24), (1, .ref o1)], [.ref 44], (σ15, y))) rfl ?_
      refine qE.call hd9 rfl rfl rfl rfl (t_c_stepsTaken_112 (by omega) rfl) ?_
      refine qE.steps 0 hd9 (s' := (40, [(0, .ref 24), (1, .ref o1)], [.int (c_stepsTaken_112 σ15)], (σ15, y))) rfl ?_
      obtain rfl := Option.some.inj h
      exact qE.ret hd9 rfl rfl
def c_ask_53 (σ : qC) : Option ((Int32 ⊕ Nat) × qC) := qlet (upS σ 2410 (Int32.ofInt 0)) (fun σ1 => (c_readQuestion_54 (Int32.ofInt 0) σ1).bind (fun p3 => (c_clear_24 p3.2).bind (fun p5 => if p3.1 = 0 then qlet (upS p5 2409 (c_place_49 p5)) (fun σ8 => some (.inr 12, σ8)) else qlet (upS p5 2411 (Int32.ofInt 0)) (fun σ10 => (c_begin_55 σ10).bind (fun p12 => (c_seek_63 1 p12).bind (fun p14 => (c_conclude_111 p14.1 p14.2).bind (fun p16 => match p16.1 with | .inr c19 => some (.inr c19, p16.2) | .inl v18 => some (.inl v18, p16.2))))))))
set_option maxRecDepth 20000 in
theorem t_c_ask_53 {S : Nat × (Nat → Int32)} {d : Nat} {y : qC × Int64 × Nat} {σ : qC} {p : ((Int32 ⊕ Nat) × qC)} (hd : 23 ≤ d) (h : c_ask_53 σ = some p) : qE S d jm_0_ask_53 (0, [(0, .ref 24)], [], (σ, y)) (qres p y) := by
  have hd9 : 9 ≤ d := by omega
  unfold c_ask_53 at h
  obtain ⟨σ1, e2, h⟩ := qlet_ex h
  refine qE.steps 3 hd9 (s' := (5, [(0, .ref 24)], [], (σ1, y))) (by subst e2; rfl) ?_
  refine qE.steps 3 hd9 (s' := (10, [(0, .ref 24)], [.int (Int32.ofInt 0), .ref 32], (σ1, y))) rfl ?_
  obtain ⟨p3, e4, h⟩ := obind h
  refine qE.call hd9 rfl rfl rfl rfl (t_c_readQuestion_54 (by omega) e4) ?_
  refine qE.steps 0 hd9 (s' := (13, [(0, .ref 24)], [.int p3.1], (p3.2, y))) rfl ?_
  refine qE.steps 3 hd9 (s' := (18, [(1, .int p3.1), (0, .ref 24)], [.ref 25], (p3.2, y))) rfl ?_
  obtain ⟨p5, e6, h⟩ := obind h
  refine qE.call hd9 rfl rfl rfl rfl (t_c_clear_24 (by omega) e6) ?_
  refine qE.steps 0 hd9 (s' := (21, [(1, .int p3.1), (0, .ref 24)], [], (p5, y))) rfl ?_
  refine qE.steps 2 hd9 (s' := (if ¬ (p3.1 = 0) then 46 else 25, [(1, .int p3.1), (0, .ref 24)], [], (p5, y))) rfl ?_
  by_cases c7 : p3.1 = 0
  · rw [if_pos c7] at h
    rw [if_neg (not_not_intro c7)]
    refine qE.steps 3 hd9 (s' := (30, [(1, .int p3.1), (0, .ref 24)], [.ref 32, .ref 24], (p5, y))) rfl ?_
    refine qE.call hd9 rfl rfl rfl rfl (t_c_place_49 (by omega) rfl) ?_
    refine qE.steps 0 hd9 (s' := (33, [(1, .int p3.1), (0, .ref 24)], [.int (c_place_49 p5), .ref 24], (p5, y))) rfl ?_
    obtain ⟨σ8, e9, h⟩ := qlet_ex h
    refine qE.steps 1 hd9 (s' := (36, [(1, .int p3.1), (0, .ref 24)], [], (σ8, y))) (by subst e9; rfl) ?_
    obtain rfl := Option.some.inj h
    exact qE.thr hd9 rfl rfl rfl
  · rw [if_neg c7] at h
    rw [if_pos c7]
    obtain ⟨σ10, e11, h⟩ := qlet_ex h
    refine qE.steps 3 hd9 (s' := (51, [(1, .int p3.1), (0, .ref 24)], [], (σ10, y))) (by subst e11; rfl) ?_
    refine qE.steps 2 hd9 (s' := (55, [(1, .int p3.1), (0, .ref 24)], [.ref 51], (σ10, y))) rfl ?_
    obtain ⟨p12, e13, h⟩ := obind h
    refine qE.call hd9 rfl rfl rfl rfl (t_c_begin_55 (by omega) e13) ?_
    refine qE.steps 0 hd9 (s' := (58, [(1, .int p3.1), (0, .ref 24)], [], (p12, y))) rfl ?_
    refine qE.steps 4 hd9 (s' := (66, [(1, .int p3.1), (0, .ref 24)], [.ref 1, .ref 51, .ref 24], (p12, y))) rfl ?_
    obtain ⟨p14, e15, h⟩ := obind h
    refine qE.call hd9 rfl rfl rfl rfl (t_c_seek_63 (by omega) e15) ?_
    refine qE.steps 0 hd9 (s' := (69, [(1, .int p3.1), (0, .ref 24)], [.ref p14.1, .ref 24], (p14.2, y))) rfl ?_
    obtain ⟨p16, e17, h⟩ := obind h
    obtain ⟨qp16, sp16⟩ := p16
    cases qp16 with
    | inr c19 =>
      obtain rfl := Option.some.inj h
      exact qE.callT hd9 rfl rfl rfl rfl (t_c_conclude_111 (by omega) e17) rfl
    | inl v18 =>
      refine qE.call hd9 rfl rfl rfl rfl (t_c_conclude_111 (by omega) e17) ?_
      refine qE.steps 0 hd9 (s' := (72, [(1, .int p3.1), (0, .ref 24)], [.int v18], (sp16, y))) rfl ?_
      obtain rfl := Option.some.inj h
      exact qE.ret hd9 rfl rfl
def c_next_113 (σ : qC) : Option ((Int32 ⊕ Nat) × qC) := if σ.1 2410 = 0 then some (.inr 15, σ) else (c_seek_63 7 σ).bind (fun p2 => (c_conclude_111 p2.1 p2.2).bind (fun p4 => match p4.1 with | .inr c7 => some (.inr c7, p4.2) | .inl v6 => some (.inl v6, p4.2)))
set_option maxRecDepth 20000 in
theorem t_c_next_113 {S : Nat × (Nat → Int32)} {d : Nat} {y : qC × Int64 × Nat} {σ : qC} {p : ((Int32 ⊕ Nat) × qC)} (hd : 16 ≤ d) (h : c_next_113 σ = some p) : qE S d jm_0_next_113 (0, [(0, .ref 24)], [], (σ, y)) (qres p y) := by
  have hd9 : 9 ≤ d := by omega
  unfold c_next_113 at h
  refine qE.steps 3 hd9 (s' := (if ¬ (σ.1 2410 = 0) then 17 else 7, [(0, .ref 24)], [], (σ, y))) rfl ?_
  by_cases c1 : σ.1 2410 = 0
  · rw [if_pos c1] at h
    rw [if_neg (not_not_intro c1)]
    obtain rfl := Option.some.inj h
    exact qE.thr hd9 rfl rfl rfl
  · rw [if_neg c1] at h
    rw [if_pos c1]
    refine qE.steps 4 hd9 (s' := (25, [(0, .ref 24)], [.ref 7, .ref 51, .ref 24], (σ, y))) rfl ?_
    obtain ⟨p2, e3, h⟩ := obind h
    refine qE.call hd9 rfl rfl rfl rfl (t_c_seek_63 (by omega) e3) ?_
    refine qE.steps 0 hd9 (s' := (28, [(0, .ref 24)], [.ref p2.1, .ref 24], (p2.2, y))) rfl ?_
    obtain ⟨p4, e5, h⟩ := obind h
    obtain ⟨qp4, sp4⟩ := p4
    cases qp4 with
    | inr c7 =>
      obtain rfl := Option.some.inj h
      exact qE.callT hd9 rfl rfl rfl rfl (t_c_conclude_111 (by omega) e5) rfl
    | inl v6 =>
      refine qE.call hd9 rfl rfl rfl rfl (t_c_conclude_111 (by omega) e5) ?_
      refine qE.steps 0 hd9 (s' := (31, [(0, .ref 24)], [.int v6], (sp4, y))) rfl ?_
      obtain rfl := Option.some.inj h
      exact qE.ret hd9 rfl rfl
def c_isVariableName_115 (i0 : Int32) : Int32 := if i0 < 0 then Int32.ofInt 0 else if Int32.ofInt 26 ≤ i0 then Int32.ofInt 0 else Int32.ofInt 1
set_option maxRecDepth 20000 in
theorem t_c_isVariableName_115 {S : Nat × (Nat → Int32)} {d : Nat} {y : qC × Int64 × Nat} {i0 : Int32} {σ : qC} {p : Int32} (hd : 9 ≤ d) (h : c_isVariableName_115 i0 = p) : qE S d jm_0_isVariableName_115 (0, [(0, .int i0)], [], (σ, y)) ((.inl (some (.int p)), (σ, y))) := by
  have hd9 : 9 ≤ d := by omega
  unfold c_isVariableName_115 at h
  refine qE.steps 2 hd9 (s' := (if i0 < 0 then 14 else 4, [(0, .int i0)], [], (σ, y))) rfl ?_
  by_cases c1 : i0 < 0
  · rw [if_pos c1] at h
    rw [if_pos c1]
    refine qE.steps 1 hd9 (s' := (15, [(0, .int i0)], [.int (Int32.ofInt 0)], (σ, y))) rfl ?_
    subst h
    exact qE.ret hd9 rfl rfl
  · rw [if_neg c1] at h
    rw [if_neg c1]
    refine qE.steps 3 hd9 (s' := (if Int32.ofInt 26 ≤ i0 then 14 else 10, [(0, .int i0)], [], (σ, y))) rfl ?_
    by_cases c2 : Int32.ofInt 26 ≤ i0
    · rw [if_pos c2] at h
      rw [if_pos c2]
      refine qE.steps 1 hd9 (s' := (15, [(0, .int i0)], [.int (Int32.ofInt 0)], (σ, y))) rfl ?_
      subst h
      exact qE.ret hd9 rfl rfl
    · rw [if_neg c2] at h
      rw [if_neg c2]
      refine qE.steps 2 hd9 (s' := (15, [(0, .int i0)], [.int (Int32.ofInt 1)], (σ, y))) rfl ?_
      subst h
      exact qE.ret hd9 rfl rfl
def c_nodeWithSign_117_l2 : Nat → Int32 → Int32 → Int32 → qC → Option Int32
  | 0, _, _, _, _ => none
  | n + 1, i1, i2, i3, σ => if Int32.ofInt 48 ≤ i3 then some (Int32.ofInt (-1)) else if c_sign_48 ((c_firstNode_31 i1) + i3) σ = i2 then some ((c_firstNode_31 i1) + i3) else (c_nodeWithSign_117_l2 n) i1 i2 (i3 + Int32.ofInt 1) σ
def c_nodeWithSign_117 (i1 : Int32) (i2 : Int32) (σ : qC) : Option Int32 := c_nodeWithSign_117_l2 qF i1 i2 (Int32.ofInt 0) σ
set_option maxRecDepth 20000 in
theorem t_c_nodeWithSign_117_l2 {S : Nat × (Nat → Int32)} {d : Nat} {y : qC × Int64 × Nat} (hd : 10 ≤ d) : ∀ (n : Nat) {i1 : Int32} {i2 : Int32} {i3 : Int32} {σ : qC} {p : Int32}, c_nodeWithSign_117_l2 n i1 i2 i3 σ = some p → qE S d jm_1_nodeWithSign_117 (2, [(0, .ref 27), (1, .int i1), (2, .int i2), (3, .int i3)], [], (σ, y)) ((.inl (some (.int p)), (σ, y))) := by
  have hd9 : 9 ≤ d := by omega
  intro n
  induction n with
  | zero =>
    intros
    rename_i h
    unfold c_nodeWithSign_117_l2 at h
    cases h
  | succ n ih =>
    intro i1 i2 i3 σ p h
    unfold c_nodeWithSign_117_l2 at h
    refine qE.steps 3 hd9 (s' := (if Int32.ofInt 48 ≤ i3 then 35 else 8, [(0, .ref 27), (1, .int i1), (2, .int i2), (3, .int i3)], [], (σ, y))) rfl ?_
    by_cases c1 : Int32.ofInt 48 ≤ i3
    · rw [if_pos c1] at h
      rw [if_pos c1]
      refine qE.steps 1 hd9 (s' := (36, [(0, .ref 27), (1, .int i1), (2, .int i2), (3, .int i3)], [.int (Int32.ofInt (-1))], (σ, y))) rfl ?_
      obtain rfl := Option.some.inj h
      exact qE.ret hd9 rfl rfl
    · rw [if_neg c1] at h
      rw [if_neg c1]
      refine qE.steps 2 hd9 (s' := (10, [(0, .ref 27), (1, .int i1), (2, .int i2), (3, .int i3)], [.int i1, .ref 27], (σ, y))) rfl ?_
      refine qE.call hd9 rfl rfl rfl rfl (t_c_firstNode_31 (by omega) rfl) ?_
      refine qE.steps 0 hd9 (s' := (13, [(0, .ref 27), (1, .int i1), (2, .int i2), (3, .int i3)], [.int (c_firstNode_31 i1), .ref 27], (σ, y))) rfl ?_
      refine qE.steps 2 hd9 (s' := (15, [(0, .ref 27), (1, .int i1), (2, .int i2), (3, .int i3)], [.int ((c_firstNode_31 i1) + i3), .ref 27], (σ, y))) rfl ?_
      refine qE.call hd9 rfl rfl rfl rfl (t_c_sign_48 (by omega) rfl) ?_
      refine qE.steps 0 hd9 (s' := (18, [(0, .ref 27), (1, .int i1), (2, .int i2), (3, .int i3)], [.int (c_sign_48 ((c_firstNode_31 i1) + i3) σ)], (σ, y))) rfl ?_
      refine qE.steps 2 hd9 (s' := (if ¬ (c_sign_48 ((c_firstNode_31 i1) + i3) σ = i2) then 29 else 22, [(0, .ref 27), (1, .int i1), (2, .int i2), (3, .int i3)], [], (σ, y))) rfl ?_
      by_cases c2 : c_sign_48 ((c_firstNode_31 i1) + i3) σ = i2
      · rw [if_pos c2] at h
        rw [if_neg (not_not_intro c2)]
        refine qE.steps 1 hd9 (s' := (23, [(0, .ref 27), (1, .int i1), (2, .int i2), (3, .int i3)], [.int i1], (σ, y))) rfl ?_
        refine qE.call hd9 rfl rfl rfl rfl (t_c_firstNode_31 (by omega) rfl) ?_
        refine qE.steps 0 hd9 (s' := (26, [(0, .ref 27), (1, .int i1), (2, .int i2), (3, .int i3)], [.int (c_firstNode_31 i1)], (σ, y))) rfl ?_
        refine qE.steps 2 hd9 (s' := (28, [(0, .ref 27), (1, .int i1), (2, .int i2), (3, .int i3)], [.int ((c_firstNode_31 i1) + i3)], (σ, y))) rfl ?_
        obtain rfl := Option.some.inj h
        exact qE.ret hd9 rfl rfl
      · rw [if_neg c2] at h
        rw [if_pos c2]
        refine qE.steps 2 hd9 (s' := (2, [(3, .int (i3 + Int32.ofInt 1)), (0, .ref 27), (1, .int i1), (2, .int i2)], [], (σ, y))) rfl ?_
        exact qE.wk (ih h) ⟨rfl, rfl, rfl, rfl, trivial⟩ rfl
set_option maxRecDepth 20000 in
theorem t_c_nodeWithSign_117 {S : Nat × (Nat → Int32)} {d : Nat} {y : qC × Int64 × Nat} {i1 : Int32} {i2 : Int32} {σ : qC} {p : Int32} (hd : 10 ≤ d) (h : c_nodeWithSign_117 i1 i2 σ = some p) : qE S d jm_1_nodeWithSign_117 (0, [(0, .ref 27), (1, .int i1), (2, .int i2)], [], (σ, y)) ((.inl (some (.int p)), (σ, y))) := by
  have hd9 : 9 ≤ d := by omega
  unfold c_nodeWithSign_117 at h
  refine qE.steps 2 hd9 (s' := (2, [(3, .int (Int32.ofInt 0)), (0, .ref 27), (1, .int i1), (2, .int i2)], [], (σ, y))) rfl ?_
  exact qE.wk (t_c_nodeWithSign_117_l2 hd qF h) ⟨rfl, rfl, rfl, rfl, trivial⟩ rfl
def c_questionNode_116 (i1 : Int32) (σ : qC) : Option Int32 := if σ.1 2410 = 0 then some (Int32.ofInt (-1)) else (c_nodeWithSign_117 (Int32.ofInt 0) ((Int32.ofInt 65) + i1) σ).bind (fun p2 => some p2)
set_option maxRecDepth 20000 in
theorem t_c_questionNode_116 {S : Nat × (Nat → Int32)} {d : Nat} {y : qC × Int64 × Nat} {i1 : Int32} {σ : qC} {p : Int32} (hd : 11 ≤ d) (h : c_questionNode_116 i1 σ = some p) : qE S d jm_0_questionNode_116 (0, [(0, .ref 24), (1, .int i1)], [], (σ, y)) ((.inl (some (.int p)), (σ, y))) := by
  have hd9 : 9 ≤ d := by omega
  unfold c_questionNode_116 at h
  refine qE.steps 3 hd9 (s' := (if σ.1 2410 = 0 then 22 else 7, [(0, .ref 24), (1, .int i1)], [], (σ, y))) rfl ?_
  by_cases c1 : σ.1 2410 = 0
  · rw [if_pos c1] at h
    rw [if_pos c1]
    refine qE.steps 1 hd9 (s' := (23, [(0, .ref 24), (1, .int i1)], [.int (Int32.ofInt (-1))], (σ, y))) rfl ?_
    obtain rfl := Option.some.inj h
    exact qE.ret hd9 rfl rfl
  · rw [if_neg c1] at h
    rw [if_neg c1]
    refine qE.steps 6 hd9 (s' := (16, [(0, .ref 24), (1, .int i1)], [.int ((Int32.ofInt 65) + i1), .int (Int32.ofInt 0), .ref 27], (σ, y))) rfl ?_
    obtain ⟨p2, e3, h⟩ := obind h
    refine qE.call hd9 rfl rfl rfl rfl (t_c_nodeWithSign_117 (by omega) e3) ?_
    refine qE.steps 0 hd9 (s' := (19, [(0, .ref 24), (1, .int i1)], [.int p2], (σ, y))) rfl ?_
    refine qE.steps 1 hd9 (s' := (23, [(0, .ref 24), (1, .int i1)], [.int p2], (σ, y))) rfl ?_
    obtain rfl := Option.some.inj h
    exact qE.ret hd9 rfl rfl
def c_find_72_62_l34 : Nat → Int32 → Int32 → qC → Option qC
  | 0, _, _, _ => none
  | n + 1, i4, i5, σ => if i5 < 0 then some σ else if i4 = Int32.ofInt (-1) then some σ else if tat σ 36 4 ((σ.1 6201) + i4) (Int32.ofInt 0) = Int32.ofInt (-1) then qlet (upS σ 6202 ((σ.1 6201) + i4)) (fun σ4 => some σ4) else qlet (upS σ 6200 (tat σ 36 4 ((σ.1 6201) + i4) (Int32.ofInt 0))) (fun σ6 => qlet (upS σ6 6201 (tat σ6 36 4 ((σ.1 6201) + i4) (Int32.ofInt 1))) (fun σ8 => qlet (c_rank_73 (tat σ 36 4 ((σ.1 6201) + i4) (Int32.ofInt 0)) σ8) (fun x10 => (c_find_72_62_l34 n) x10 (i5 + Int32.ofInt (-1)) σ8)))
def c_find_72_62 (i1 : Int32) (i2 : Int32) (σ : qC) : Option qC := qlet (upS σ 6200 i1) (fun σ1 => qlet (upS σ1 6201 i2) (fun σ3 => qlet (upS σ3 6202 (Int32.ofInt (-1))) (fun σ5 => c_find_72_62_l34 qF (c_rank_73 i1 σ5) (σ5.1 3602) σ5)))
set_option maxRecDepth 20000 in
theorem t_c_find_72_62_l34 {S : Nat × (Nat → Int32)} {d : Nat} {y : qC × Int64 × Nat} (hd : 10 ≤ d) : ∀ (n : Nat) {i4 : Int32} {i5 : Int32} {σ : qC} {p : qC}, c_find_72_62_l34 n i4 i5 σ = some p → qE S d jm_7_find_72 (34, [(0, .ref 35), (3, .ref 62), (4, .int i4), (5, .int i5)], [], (σ, y)) ((.inl none, (p, y))) := by
  have hd9 : 9 ≤ d := by omega
  intro n
  induction n with
  | zero =>
    intros
    rename_i h
    unfold c_find_72_62_l34 at h
    cases h
  | succ n ih =>
    intro i4 i5 σ p h
    unfold c_find_72_62_l34 at h
    refine qE.steps 2 hd9 (s' := (if i5 < 0 then 116 else 39, [(0, .ref 35), (3, .ref 62), (4, .int i4), (5, .int i5)], [], (σ, y))) rfl ?_
    by_cases c1 : i5 < 0
    · rw [if_pos c1] at h
      rw [if_pos c1]
      obtain rfl := Option.some.inj h
      exact qE.ret hd9 rfl rfl
    · rw [if_neg c1] at h
      rw [if_neg c1]
      refine qE.steps 3 hd9 (s' := (if i4 = Int32.ofInt (-1) then 116 else 45, [(0, .ref 35), (3, .ref 62), (4, .int i4), (5, .int i5)], [], (σ, y))) rfl ?_
      by_cases c2 : i4 = Int32.ofInt (-1)
      · rw [if_pos c2] at h
        rw [if_pos c2]
        obtain rfl := Option.some.inj h
        exact qE.ret hd9 rfl rfl
      · rw [if_neg c2] at h
        rw [if_neg c2]
        refine qE.steps 14 hd9 (s' := (if ¬ (tat σ 36 4 ((σ.1 6201) + i4) (Int32.ofInt 0) = Int32.ofInt (-1)) then 79 else 72, [(7, .int (tat σ 36 4 ((σ.1 6201) + i4) (Int32.ofInt 0))), (6, .int ((σ.1 6201) + i4)), (0, .ref 35), (3, .ref 62), (4, .int i4), (5, .int i5)], [], (σ, y))) rfl ?_
        by_cases c3 : tat σ 36 4 ((σ.1 6201) + i4) (Int32.ofInt 0) = Int32.ofInt (-1)
        · rw [if_pos c3] at h
          rw [if_neg (not_not_intro c3)]
          obtain ⟨σ4, e5, h⟩ := qlet_ex h
          refine qE.steps 3 hd9 (s' := (78, [(7, .int (tat σ 36 4 ((σ.1 6201) + i4) (Int32.ofInt 0))), (6, .int ((σ.1 6201) + i4)), (0, .ref 35), (3, .ref 62), (4, .int i4), (5, .int i5)], [], (σ4, y))) (by subst e5; rfl) ?_
          obtain rfl := Option.some.inj h
          exact qE.ret hd9 rfl rfl
        · rw [if_neg c3] at h
          rw [if_pos c3]
          obtain ⟨σ6, e7, h⟩ := qlet_ex h
          refine qE.steps 3 hd9 (s' := (85, [(7, .int (tat σ 36 4 ((σ.1 6201) + i4) (Int32.ofInt 0))), (6, .int ((σ.1 6201) + i4)), (0, .ref 35), (3, .ref 62), (4, .int i4), (5, .int i5)], [], (σ6, y))) (by subst e7; rfl) ?_
          obtain ⟨σ8, e9, h⟩ := qlet_ex h
          refine qE.steps 7 hd9 (s' := (99, [(7, .int (tat σ 36 4 ((σ.1 6201) + i4) (Int32.ofInt 0))), (6, .int ((σ.1 6201) + i4)), (0, .ref 35), (3, .ref 62), (4, .int i4), (5, .int i5)], [], (σ8, y))) (by subst e9; rfl) ?_
          refine qE.steps 3 hd9 (s' := (105, [(7, .int (tat σ 36 4 ((σ.1 6201) + i4) (Int32.ofInt 0))), (6, .int ((σ.1 6201) + i4)), (0, .ref 35), (3, .ref 62), (4, .int i4), (5, .int i5)], [.int (tat σ 36 4 ((σ.1 6201) + i4) (Int32.ofInt 0)), .ref 27], (σ8, y))) rfl ?_
          refine qE.call hd9 rfl rfl rfl rfl (t_c_rank_73 (by omega) rfl) ?_
          refine qE.steps 0 hd9 (s' := (108, [(7, .int (tat σ 36 4 ((σ.1 6201) + i4) (Int32.ofInt 0))), (6, .int ((σ.1 6201) + i4)), (0, .ref 35), (3, .ref 62), (4, .int i4), (5, .int i5)], [.int (c_rank_73 (tat σ 36 4 ((σ.1 6201) + i4) (Int32.ofInt 0)) σ8)], (σ8, y))) rfl ?_
          obtain ⟨x10, e11, h⟩ := qlet_ex h
          refine qE.steps 1 hd9 (s' := (110, [(4, .int x10), (7, .int (tat σ 36 4 ((σ.1 6201) + i4) (Int32.ofInt 0))), (6, .int ((σ.1 6201) + i4)), (0, .ref 35), (3, .ref 62), (5, .int i5)], [], (σ8, y))) (by subst e11; rfl) ?_
          refine qE.steps 2 hd9 (s' := (34, [(5, .int (i5 + Int32.ofInt (-1))), (4, .int x10), (7, .int (tat σ 36 4 ((σ.1 6201) + i4) (Int32.ofInt 0))), (6, .int ((σ.1 6201) + i4)), (0, .ref 35), (3, .ref 62)], [], (σ8, y))) rfl ?_
          exact qE.wk (ih h) ⟨rfl, rfl, rfl, rfl, trivial⟩ rfl
set_option maxRecDepth 20000 in
theorem t_c_find_72_62 {S : Nat × (Nat → Int32)} {d : Nat} {y : qC × Int64 × Nat} {i1 : Int32} {i2 : Int32} {σ : qC} {p : qC} (hd : 10 ≤ d) (h : c_find_72_62 i1 i2 σ = some p) : qE S d jm_7_find_72 (0, [(0, .ref 35), (1, .int i1), (2, .int i2), (3, .ref 62)], [], (σ, y)) ((.inl none, (p, y))) := by
  have hd9 : 9 ≤ d := by omega
  unfold c_find_72_62 at h
  obtain ⟨σ1, e2, h⟩ := qlet_ex h
  refine qE.steps 3 hd9 (s' := (5, [(0, .ref 35), (1, .int i1), (2, .int i2), (3, .ref 62)], [], (σ1, y))) (by subst e2; rfl) ?_
  obtain ⟨σ3, e4, h⟩ := qlet_ex h
  refine qE.steps 3 hd9 (s' := (10, [(0, .ref 35), (1, .int i1), (2, .int i2), (3, .ref 62)], [], (σ3, y))) (by subst e4; rfl) ?_
  obtain ⟨σ5, e6, h⟩ := qlet_ex h
  refine qE.steps 3 hd9 (s' := (15, [(0, .ref 35), (1, .int i1), (2, .int i2), (3, .ref 62)], [], (σ5, y))) (by subst e6; rfl) ?_
  refine qE.steps 3 hd9 (s' := (20, [(0, .ref 35), (1, .int i1), (2, .int i2), (3, .ref 62)], [.int i1, .ref 27], (σ5, y))) rfl ?_
  refine qE.call hd9 rfl rfl rfl rfl (t_c_rank_73 (by omega) rfl) ?_
  refine qE.steps 0 hd9 (s' := (23, [(0, .ref 35), (1, .int i1), (2, .int i2), (3, .ref 62)], [.int (c_rank_73 i1 σ5)], (σ5, y))) rfl ?_
  refine qE.steps 5 hd9 (s' := (34, [(5, .int (σ5.1 3602)), (4, .int (c_rank_73 i1 σ5)), (0, .ref 35), (1, .int i1), (2, .int i2), (3, .ref 62)], [], (σ5, y))) rfl ?_
  exact qE.wk (t_c_find_72_62_l34 hd qF h) ⟨rfl, rfl, rfl, rfl, trivial⟩ rfl
def c_pushTerm_119 (i1 : Int32) (i2 : Int32) (σ : qC) : Option qC := (tappO σ 60 4 (Int32.ofInt 0) i1 i2 (Int32.ofInt (-1))).bind (fun σ1 => some σ1)
set_option maxRecDepth 20000 in
theorem t_c_pushTerm_119 {S : Nat × (Nat → Int32)} {d : Nat} {y : qC × Int64 × Nat} {i1 : Int32} {i2 : Int32} {σ : qC} {p : qC} (hd : 9 ≤ d) (h : c_pushTerm_119 i1 i2 σ = some p) : qE S d jm_11_pushTerm_119 (0, [(0, .ref 58), (1, .int i1), (2, .int i2)], [], (σ, y)) ((.inl none, (p, y))) := by
  have hd9 : 9 ≤ d := by omega
  unfold c_pushTerm_119 at h
  refine qE.steps 6 hd9 (s' := (8, [(0, .ref 58), (1, .int i1), (2, .int i2)], [.int (Int32.ofInt (-1)), .int i2, .int i1, .int (Int32.ofInt 0), .ref 60], (σ, y))) rfl ?_
  obtain ⟨σ1, e2, h⟩ := obind h
  refine qE.tab hd9 (qtab_app e2 rfl) rfl rfl rfl ?_
  refine qE.steps 0 hd9 (s' := (11, [(0, .ref 58), (1, .int i1), (2, .int i2)], [.int (σ.1 6002)], (σ1, y))) rfl ?_
  refine qE.steps 1 hd9 (s' := (12, [(0, .ref 58), (1, .int i1), (2, .int i2)], [], (σ1, y))) rfl ?_
  obtain rfl := Option.some.inj h
  exact qE.ret hd9 rfl rfl
def c_pushSign_122 (i1 : Int32) (σ : qC) : Option qC := (tappO σ 60 4 i1 (Int32.ofInt (-1)) (Int32.ofInt (-1)) (Int32.ofInt (-1))).bind (fun σ1 => some σ1)
set_option maxRecDepth 20000 in
theorem t_c_pushSign_122 {S : Nat × (Nat → Int32)} {d : Nat} {y : qC × Int64 × Nat} {i1 : Int32} {σ : qC} {p : qC} (hd : 9 ≤ d) (h : c_pushSign_122 i1 σ = some p) : qE S d jm_11_pushSign_122 (0, [(0, .ref 58), (1, .int i1)], [], (σ, y)) ((.inl none, (p, y))) := by
  have hd9 : 9 ≤ d := by omega
  unfold c_pushSign_122 at h
  refine qE.steps 6 hd9 (s' := (8, [(0, .ref 58), (1, .int i1)], [.int (Int32.ofInt (-1)), .int (Int32.ofInt (-1)), .int (Int32.ofInt (-1)), .int i1, .ref 60], (σ, y))) rfl ?_
  obtain ⟨σ1, e2, h⟩ := obind h
  refine qE.tab hd9 (qtab_app e2 rfl) rfl rfl rfl ?_
  refine qE.steps 0 hd9 (s' := (11, [(0, .ref 58), (1, .int i1)], [.int (σ.1 6002)], (σ1, y))) rfl ?_
  refine qE.steps 1 hd9 (s' := (12, [(0, .ref 58), (1, .int i1)], [], (σ1, y))) rfl ?_
  obtain rfl := Option.some.inj h
  exact qE.ret hd9 rfl rfl
def c_pushArguments_121_l24 : Nat → Int32 → Int32 → Int32 → qC → Option qC
  | 0, _, _, _, _ => none
  | n + 1, i1, i2, i4, σ => if i4 < 0 then some σ else (c_pushTerm_119 (c_argument_90 i1 i4 σ) i2 σ).bind (fun p2 => if i4 = 0 then (c_pushSign_122 (Int32.ofInt 40) p2).bind (fun p5 => (c_pushArguments_121_l24 n) i1 i2 (i4 + Int32.ofInt (-1)) p5) else (c_pushSign_122 (Int32.ofInt 44) p2).bind (fun p7 => (c_pushArguments_121_l24 n) i1 i2 (i4 + Int32.ofInt (-1)) p7))
def c_pushArguments_121 (i1 : Int32) (i2 : Int32) (σ : qC) : Option qC := if c_arity_82 i1 σ ≤ 0 then c_pushArguments_121_l24 qF i1 i2 ((c_arity_82 i1 σ) - (Int32.ofInt 1)) σ else (c_pushSign_122 (Int32.ofInt 41) σ).bind (fun p2 => c_pushArguments_121_l24 qF i1 i2 ((c_arity_82 i1 σ) - (Int32.ofInt 1)) p2)
set_option maxRecDepth 20000 in
theorem t_c_pushArguments_121_l24 {S : Nat × (Nat → Int32)} {d : Nat} {y : qC × Int64 × Nat} (hd : 11 ≤ d) : ∀ (n : Nat) {i1 : Int32} {i2 : Int32} {i4 : Int32} {σ : qC} {p : qC}, c_pushArguments_121_l24 n i1 i2 i4 σ = some p → qE S d jm_11_pushArguments_121 (24, [(0, .ref 58), (1, .int i1), (2, .int i2), (4, .int i4)], [], (σ, y)) ((.inl none, (p, y))) := by
  have hd9 : 9 ≤ d := by omega
  intro n
  induction n with
  | zero =>
    intros
    rename_i h
    unfold c_pushArguments_121_l24 at h
    cases h
  | succ n ih =>
    intro i1 i2 i4 σ p h
    unfold c_pushArguments_121_l24 at h
    refine qE.steps 2 hd9 (s' := (if i4 < 0 then 66 else 29, [(0, .ref 58), (1, .int i1), (2, .int i2), (4, .int i4)], [], (σ, y))) rfl ?_
    by_cases c1 : i4 < 0
    · rw [if_pos c1] at h
      rw [if_pos c1]
      obtain rfl := Option.some.inj h
      exact qE.ret hd9 rfl rfl
    · rw [if_neg c1] at h
      rw [if_neg c1]
      refine qE.steps 5 hd9 (s' := (37, [(0, .ref 58), (1, .int i1), (2, .int i2), (4, .int i4)], [.int i4, .int i1, .ref 27, .ref 58], (σ, y))) rfl ?_
      refine qE.call hd9 rfl rfl rfl rfl (t_c_argument_90 (by omega) rfl) ?_
      refine qE.steps 0 hd9 (s' := (40, [(0, .ref 58), (1, .int i1), (2, .int i2), (4, .int i4)], [.int (c_argument_90 i1 i4 σ), .ref 58], (σ, y))) rfl ?_
      refine qE.steps 1 hd9 (s' := (41, [(0, .ref 58), (1, .int i1), (2, .int i2), (4, .int i4)], [.int i2, .int (c_argument_90 i1 i4 σ), .ref 58], (σ, y))) rfl ?_
      obtain ⟨p2, e3, h⟩ := obind h
      refine qE.call hd9 rfl rfl rfl rfl (t_c_pushTerm_119 (by omega) e3) ?_
      refine qE.steps 0 hd9 (s' := (44, [(0, .ref 58), (1, .int i1), (2, .int i2), (4, .int i4)], [], (p2, y))) rfl ?_
      refine qE.steps 3 hd9 (s' := (if ¬ (i4 = 0) then 55 else 50, [(0, .ref 58), (1, .int i1), (2, .int i2), (4, .int i4)], [.ref 58], (p2, y))) rfl ?_
      by_cases c4 : i4 = 0
      · rw [if_pos c4] at h
        rw [if_neg (not_not_intro c4)]
        refine qE.steps 2 hd9 (s' := (57, [(0, .ref 58), (1, .int i1), (2, .int i2), (4, .int i4)], [.int (Int32.ofInt 40), .ref 58], (p2, y))) rfl ?_
        obtain ⟨p5, e6, h⟩ := obind h
        refine qE.call hd9 rfl rfl rfl rfl (t_c_pushSign_122 (by omega) e6) ?_
        refine qE.steps 0 hd9 (s' := (60, [(0, .ref 58), (1, .int i1), (2, .int i2), (4, .int i4)], [], (p5, y))) rfl ?_
        refine qE.steps 2 hd9 (s' := (24, [(4, .int (i4 + Int32.ofInt (-1))), (0, .ref 58), (1, .int i1), (2, .int i2)], [], (p5, y))) rfl ?_
        exact qE.wk (ih h) ⟨rfl, rfl, rfl, rfl, trivial⟩ rfl
      · rw [if_neg c4] at h
        rw [if_pos c4]
        refine qE.steps 1 hd9 (s' := (57, [(0, .ref 58), (1, .int i1), (2, .int i2), (4, .int i4)], [.int (Int32.ofInt 44), .ref 58], (p2, y))) rfl ?_
        obtain ⟨p7, e8, h⟩ := obind h
        refine qE.call hd9 rfl rfl rfl rfl (t_c_pushSign_122 (by omega) e8) ?_
        refine qE.steps 0 hd9 (s' := (60, [(0, .ref 58), (1, .int i1), (2, .int i2), (4, .int i4)], [], (p7, y))) rfl ?_
        refine qE.steps 2 hd9 (s' := (24, [(4, .int (i4 + Int32.ofInt (-1))), (0, .ref 58), (1, .int i1), (2, .int i2)], [], (p7, y))) rfl ?_
        exact qE.wk (ih h) ⟨rfl, rfl, rfl, rfl, trivial⟩ rfl
set_option maxRecDepth 20000 in
theorem t_c_pushArguments_121 {S : Nat × (Nat → Int32)} {d : Nat} {y : qC × Int64 × Nat} {i1 : Int32} {i2 : Int32} {σ : qC} {p : qC} (hd : 11 ≤ d) (h : c_pushArguments_121 i1 i2 σ = some p) : qE S d jm_11_pushArguments_121 (0, [(0, .ref 58), (1, .int i1), (2, .int i2)], [], (σ, y)) ((.inl none, (p, y))) := by
  have hd9 : 9 ≤ d := by omega
  unfold c_pushArguments_121 at h
  refine qE.steps 3 hd9 (s' := (5, [(0, .ref 58), (1, .int i1), (2, .int i2)], [.int i1, .ref 27], (σ, y))) rfl ?_
  refine qE.call hd9 rfl rfl rfl rfl (t_c_arity_82 (by omega) rfl) ?_
  refine qE.steps 0 hd9 (s' := (8, [(0, .ref 58), (1, .int i1), (2, .int i2)], [.int (c_arity_82 i1 σ)], (σ, y))) rfl ?_
  refine qE.steps 3 hd9 (s' := (if c_arity_82 i1 σ ≤ 0 then 19 else 13, [(3, .int (c_arity_82 i1 σ)), (0, .ref 58), (1, .int i1), (2, .int i2)], [], (σ, y))) rfl ?_
  by_cases c1 : c_arity_82 i1 σ ≤ 0
  · rw [if_pos c1] at h
    rw [if_pos c1]
    refine qE.steps 4 hd9 (s' := (24, [(4, .int ((c_arity_82 i1 σ) - (Int32.ofInt 1))), (3, .int (c_arity_82 i1 σ)), (0, .ref 58), (1, .int i1), (2, .int i2)], [], (σ, y))) rfl ?_
    exact qE.wk (t_c_pushArguments_121_l24 hd qF h) ⟨rfl, rfl, rfl, rfl, trivial⟩ rfl
  · rw [if_neg c1] at h
    rw [if_neg c1]
    refine qE.steps 2 hd9 (s' := (16, [(3, .int (c_arity_82 i1 σ)), (0, .ref 58), (1, .int i1), (2, .int i2)], [.int (Int32.ofInt 41), .ref 58], (σ, y))) rfl ?_
    obtain ⟨p2, e3, h⟩ := obind h
    refine qE.call hd9 rfl rfl rfl rfl (t_c_pushSign_122 (by omega) e3) ?_
    refine qE.steps 0 hd9 (s' := (19, [(3, .int (c_arity_82 i1 σ)), (0, .ref 58), (1, .int i1), (2, .int i2)], [], (p2, y))) rfl ?_
    refine qE.steps 4 hd9 (s' := (24, [(4, .int ((c_arity_82 i1 σ) - (Int32.ofInt 1))), (3, .int (c_arity_82 i1 σ)), (0, .ref 58), (1, .int i1), (2, .int i2)], [], (p2, y))) rfl ?_
    exact qE.wk (t_c_pushArguments_121_l24 hd qF h) ⟨rfl, rfl, rfl, rfl, trivial⟩ rfl
def c_writeTop_120 (σ : qC) : Option (Int32 × qC) := qlet (tat σ 60 4 ((σ.1 6002) - (Int32.ofInt 1)) (Int32.ofInt 0)) (fun x1 => qlet (tat σ 60 4 ((σ.1 6002) - (Int32.ofInt 1)) (Int32.ofInt 1)) (fun x3 => qlet (tat σ 60 4 ((σ.1 6002) - (Int32.ofInt 1)) (Int32.ofInt 2)) (fun x5 => qlet (tshr σ 60 ((σ.1 6002) - (Int32.ofInt 1))) (fun σ7 => if x3 = Int32.ofInt (-1) then some (x1, σ7) else (c_find_72_62 x3 x5 σ7).bind (fun p10 => if p10.1 6202 = Int32.ofInt (-1) then (c_pushArguments_121 (p10.1 6200) (p10.1 6201) p10).bind (fun p13 => some (c_sign_48 (p13.1 6200) p13, p13)) else some (Int32.ofInt 95, p10))))))
set_option maxRecDepth 20000 in
theorem t_c_writeTop_120 {S : Nat × (Nat → Int32)} {d : Nat} {y : qC × Int64 × Nat} {σ : qC} {p : (Int32 × qC)} (hd : 12 ≤ d) (h : c_writeTop_120 σ = some p) : qE S d jm_11_writeTop_120 (0, [(0, .ref 58)], [], (σ, y)) ((.inl (some (.int p.1)), (p.2, y))) := by
  have hd9 : 9 ≤ d := by omega
  unfold c_writeTop_120 at h
  obtain ⟨x1, e2, h⟩ := qlet_ex h
  refine qE.steps 12 hd9 (s' := (20, [(2, .int x1), (1, .int ((σ.1 6002) - (Int32.ofInt 1))), (0, .ref 58)], [], (σ, y))) (by subst e2; rfl) ?_
  obtain ⟨x3, e4, h⟩ := qlet_ex h
  refine qE.steps 6 hd9 (s' := (30, [(3, .int x3), (2, .int x1), (1, .int ((σ.1 6002) - (Int32.ofInt 1))), (0, .ref 58)], [], (σ, y))) (by subst e4; rfl) ?_
  obtain ⟨x5, e6, h⟩ := qlet_ex h
  refine qE.steps 6 hd9 (s' := (41, [(4, .int x5), (3, .int x3), (2, .int x1), (1, .int ((σ.1 6002) - (Int32.ofInt 1))), (0, .ref 58)], [], (σ, y))) (by subst e6; rfl) ?_
  obtain ⟨σ7, e8, h⟩ := qlet_ex h
  refine qE.steps 4 hd9 (s' := (49, [(4, .int x5), (3, .int x3), (2, .int x1), (1, .int ((σ.1 6002) - (Int32.ofInt 1))), (0, .ref 58)], [], (σ7, y))) (by subst e8; rfl) ?_
  refine qE.steps 3 hd9 (s' := (if ¬ (x3 = Int32.ofInt (-1)) then 56 else 54, [(4, .int x5), (3, .int x3), (2, .int x1), (1, .int ((σ.1 6002) - (Int32.ofInt 1))), (0, .ref 58)], [], (σ7, y))) rfl ?_
  by_cases c9 : x3 = Int32.ofInt (-1)
  · rw [if_pos c9] at h
    rw [if_neg (not_not_intro c9)]
    refine qE.steps 1 hd9 (s' := (55, [(4, .int x5), (3, .int x3), (2, .int x1), (1, .int ((σ.1 6002) - (Int32.ofInt 1))), (0, .ref 58)], [.int x1], (σ7, y))) rfl ?_
    obtain rfl := Option.some.inj h
    exact qE.ret hd9 rfl rfl
  · rw [if_neg c9] at h
    rw [if_pos c9]
    refine qE.steps 6 hd9 (s' := (67, [(4, .int x5), (3, .int x3), (2, .int x1), (1, .int ((σ.1 6002) - (Int32.ofInt 1))), (0, .ref 58)], [.ref 62, .int x5, .int x3, .ref 35], (σ7, y))) rfl ?_
    obtain ⟨p10, e11, h⟩ := obind h
    refine qE.call hd9 rfl rfl rfl rfl (t_c_find_72_62 (by omega) e11) ?_
    refine qE.steps 0 hd9 (s' := (70, [(4, .int x5), (3, .int x3), (2, .int x1), (1, .int ((σ.1 6002) - (Int32.ofInt 1))), (0, .ref 58)], [], (p10, y))) rfl ?_
    refine qE.steps 5 hd9 (s' := (if p10.1 6202 = Int32.ofInt (-1) then 84 else 81, [(4, .int x5), (3, .int x3), (2, .int x1), (1, .int ((σ.1 6002) - (Int32.ofInt 1))), (0, .ref 58)], [], (p10, y))) rfl ?_
    by_cases c12 : p10.1 6202 = Int32.ofInt (-1)
    · rw [if_pos c12] at h
      rw [if_pos c12]
      refine qE.steps 7 hd9 (s' := (99, [(4, .int x5), (3, .int x3), (2, .int x1), (1, .int ((σ.1 6002) - (Int32.ofInt 1))), (0, .ref 58)], [.int (p10.1 6201), .int (p10.1 6200), .ref 58], (p10, y))) rfl ?_
      obtain ⟨p13, e14, h⟩ := obind h
      refine qE.call hd9 rfl rfl rfl rfl (t_c_pushArguments_121 (by omega) e14) ?_
      refine qE.steps 0 hd9 (s' := (102, [(4, .int x5), (3, .int x3), (2, .int x1), (1, .int ((σ.1 6002) - (Int32.ofInt 1))), (0, .ref 58)], [], (p13, y))) rfl ?_
      refine qE.steps 5 hd9 (s' := (113, [(4, .int x5), (3, .int x3), (2, .int x1), (1, .int ((σ.1 6002) - (Int32.ofInt 1))), (0, .ref 58)], [.int (p13.1 6200), .ref 27], (p13, y))) rfl ?_
      refine qE.call hd9 rfl rfl rfl rfl (t_c_sign_48 (by omega) rfl) ?_
      refine qE.steps 0 hd9 (s' := (116, [(4, .int x5), (3, .int x3), (2, .int x1), (1, .int ((σ.1 6002) - (Int32.ofInt 1))), (0, .ref 58)], [.int (c_sign_48 (p13.1 6200) p13)], (p13, y))) rfl ?_
      obtain rfl := Option.some.inj h
      exact qE.ret hd9 rfl rfl
    · rw [if_neg c12] at h
      rw [if_neg c12]
      refine qE.steps 1 hd9 (s' := (83, [(4, .int x5), (3, .int x3), (2, .int x1), (1, .int ((σ.1 6002) - (Int32.ofInt 1))), (0, .ref 58)], [.int (Int32.ofInt 95)], (p10, y))) rfl ?_
      obtain rfl := Option.some.inj h
      exact qE.ret hd9 rfl rfl
def c_write_118_l16 : Nat → Int32 → qC → Option (Int32 × qC)
  | 0, _, _ => none
  | n + 1, i2, σ => if Int32.ofNat 80 ≤ i2 then some (i2, σ) else if σ.1 6002 ≤ 0 then some (i2, σ) else (c_writeTop_120 σ).bind (fun p3 => (aput p3.2 59 80 i2 ((p3.1.toUInt32 % 65536).toInt32).toUInt32.toUInt16.toUInt32.toInt32).bind (fun σ5 => (c_write_118_l16 n) (i2 + Int32.ofInt 1) σ5))
def c_write_118 (i1 : Int32) (σ : qC) : Option (Int32 × qC) := qlet (tshr σ 60 (Int32.ofInt 0)) (fun σ1 => (c_pushTerm_119 i1 (Int32.ofInt 0) σ1).bind (fun p3 => c_write_118_l16 qF (Int32.ofInt 0) p3))
set_option maxRecDepth 20000 in
theorem t_c_write_118_l16 {S : Nat × (Nat → Int32)} {d : Nat} {y : qC × Int64 × Nat} (hd : 13 ≤ d) : ∀ (n : Nat) {i2 : Int32} {σ : qC} {p : (Int32 × qC)}, c_write_118_l16 n i2 σ = some p → qE S d jm_11_write_118 (16, [(0, .ref 58), (2, .int i2)], [], (σ, y)) ((.inl (some (.int p.1)), (p.2, y))) := by
  have hd9 : 9 ≤ d := by omega
  intro n
  induction n with
  | zero =>
    intros
    rename_i h
    unfold c_write_118_l16 at h
    cases h
  | succ n ih =>
    intro i2 σ p h
    unfold c_write_118_l16 at h
    refine qE.steps 5 hd9 (s' := (if Int32.ofNat 80 ≤ i2 then 52 else 25, [(0, .ref 58), (2, .int i2)], [], (σ, y))) rfl ?_
    by_cases c1 : Int32.ofNat 80 ≤ i2
    · rw [if_pos c1] at h
      rw [if_pos c1]
      refine qE.steps 1 hd9 (s' := (53, [(0, .ref 58), (2, .int i2)], [.int i2], (σ, y))) rfl ?_
      obtain rfl := Option.some.inj h
      exact qE.ret hd9 rfl rfl
    · rw [if_neg c1] at h
      rw [if_neg c1]
      refine qE.steps 4 hd9 (s' := (if σ.1 6002 ≤ 0 then 52 else 35, [(0, .ref 58), (2, .int i2)], [], (σ, y))) rfl ?_
      by_cases c2 : σ.1 6002 ≤ 0
      · rw [if_pos c2] at h
        rw [if_pos c2]
        refine qE.steps 1 hd9 (s' := (53, [(0, .ref 58), (2, .int i2)], [.int i2], (σ, y))) rfl ?_
        obtain rfl := Option.some.inj h
        exact qE.ret hd9 rfl rfl
      · rw [if_neg c2] at h
        rw [if_neg c2]
        refine qE.steps 4 hd9 (s' := (41, [(0, .ref 58), (2, .int i2)], [.ref 58, .int i2, .ref 59], (σ, y))) rfl ?_
        obtain ⟨p3, e4, h⟩ := obind h
        refine qE.call hd9 rfl rfl rfl rfl (t_c_writeTop_120 (by omega) e4) ?_
        refine qE.steps 0 hd9 (s' := (44, [(0, .ref 58), (2, .int i2)], [.int p3.1, .int i2, .ref 59], (p3.2, y))) rfl ?_
        refine qE.steps 1 hd9 (s' := (45, [(0, .ref 58), (2, .int i2)], [.int ((p3.1.toUInt32 % 65536).toInt32), .int i2, .ref 59], (p3.2, y))) rfl ?_
        obtain ⟨σ5, e6, h⟩ := obind h
        refine qE.castC hd9 e6 rfl rfl ?_
        refine qE.steps 2 hd9 (s' := (16, [(2, .int (i2 + Int32.ofInt 1)), (0, .ref 58)], [], (σ5, y))) rfl ?_
        exact qE.wk (ih h) ⟨rfl, rfl, trivial⟩ rfl
set_option maxRecDepth 20000 in
theorem t_c_write_118 {S : Nat × (Nat → Int32)} {d : Nat} {y : qC × Int64 × Nat} {i1 : Int32} {σ : qC} {p : (Int32 × qC)} (hd : 13 ≤ d) (h : c_write_118 i1 σ = some p) : qE S d jm_11_write_118 (0, [(0, .ref 58), (1, .int i1)], [], (σ, y)) ((.inl (some (.int p.1)), (p.2, y))) := by
  have hd9 : 9 ≤ d := by omega
  unfold c_write_118 at h
  obtain ⟨σ1, e2, h⟩ := qlet_ex h
  refine qE.steps 4 hd9 (s' := (8, [(0, .ref 58), (1, .int i1)], [], (σ1, y))) (by subst e2; rfl) ?_
  refine qE.steps 3 hd9 (s' := (11, [(0, .ref 58), (1, .int i1)], [.int (Int32.ofInt 0), .int i1, .ref 58], (σ1, y))) rfl ?_
  obtain ⟨p3, e4, h⟩ := obind h
  refine qE.call hd9 rfl rfl rfl rfl (t_c_pushTerm_119 (by omega) e4) ?_
  refine qE.steps 0 hd9 (s' := (14, [(0, .ref 58), (1, .int i1)], [], (p3, y))) rfl ?_
  refine qE.steps 2 hd9 (s' := (16, [(2, .int (Int32.ofInt 0)), (0, .ref 58), (1, .int i1)], [], (p3, y))) rfl ?_
  exact qE.wk (t_c_write_118_l16 hd qF h) ⟨rfl, rfl, trivial⟩ rfl
def c_characterAt_123 (i1 : Int32) (σ : qC) : Int32 := if i1 < 0 then Int32.ofInt 0 else if Int32.ofNat 80 ≤ i1 then Int32.ofInt 0 else σ.2 59 i1.toNatClampNeg
set_option maxRecDepth 20000 in
theorem t_c_characterAt_123 {S : Nat × (Nat → Int32)} {d : Nat} {y : qC × Int64 × Nat} {i1 : Int32} {σ : qC} {p : Int32} (hd : 9 ≤ d) (h : c_characterAt_123 i1 σ = p) : qE S d jm_11_characterAt_123 (0, [(0, .ref 58), (1, .int i1)], [], (σ, y)) ((.inl (some (.int p)), (σ, y))) := by
  have hd9 : 9 ≤ d := by omega
  unfold c_characterAt_123 at h
  refine qE.steps 2 hd9 (s' := (if i1 < 0 then 22 else 4, [(0, .ref 58), (1, .int i1)], [], (σ, y))) rfl ?_
  by_cases c1 : i1 < 0
  · rw [if_pos c1] at h
    rw [if_pos c1]
    refine qE.steps 1 hd9 (s' := (23, [(0, .ref 58), (1, .int i1)], [.int (Int32.ofInt 0)], (σ, y))) rfl ?_
    subst h
    exact qE.ret hd9 rfl rfl
  · rw [if_neg c1] at h
    rw [if_neg c1]
    refine qE.steps 5 hd9 (s' := (if Int32.ofNat 80 ≤ i1 then 22 else 13, [(0, .ref 58), (1, .int i1)], [], (σ, y))) rfl ?_
    by_cases c2 : Int32.ofNat 80 ≤ i1
    · rw [if_pos c2] at h
      rw [if_pos c2]
      refine qE.steps 1 hd9 (s' := (23, [(0, .ref 58), (1, .int i1)], [.int (Int32.ofInt 0)], (σ, y))) rfl ?_
      subst h
      exact qE.ret hd9 rfl rfl
    · rw [if_neg c2] at h
      rw [if_neg c2]
      refine qE.steps 3 hd9 (s' := (18, [(0, .ref 58), (1, .int i1)], [.int i1, .ref 59], (σ, y))) rfl ?_
      refine qE.cald hd9 (aget_of c1 c2 (by decide)) rfl rfl ?_
      refine qE.steps 1 hd9 (s' := (23, [(0, .ref 58), (1, .int i1)], [.int (σ.2 59 i1.toNatClampNeg)], (σ, y))) rfl ?_
      subst h
      exact qE.ret hd9 rfl rfl
