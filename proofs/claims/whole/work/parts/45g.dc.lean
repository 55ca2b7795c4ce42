/-! BY PROGRAM (wip/whole/gendc.py): each method as a function over the numbers -/
def c_wake_95_l11 : Nat → Int32 → Int32 → qC → Option qC
  | 0, _, _, _ => none
  | n + 1, i2, i3, σ => if c_sleepers_86 σ ≤ i3 then some σ else if i2 = Int32.ofInt (-1) then some σ else (tappO σ 47 4 i2 (Int32.ofInt (-1)) (Int32.ofInt (-1)) (Int32.ofInt (-1))).bind (fun σ3 => (c_wake_95_l11 n) (c_sleeperBehind_96 i2 σ3) (i3 + Int32.ofInt 1) σ3)
def c_wake_95 (i1 : Int32) (σ : qC) : Option qC := c_wake_95_l11 qF (c_firstSleeper_94 i1 σ) (Int32.ofInt 0) σ
set_option maxRecDepth 20000 in
theorem t_c_wake_95_l11 {S : Nat × (Nat → Int32)} {d : Nat} {y : qC × Int64 × Nat} (hd : 10 ≤ d) : ∀ (n : Nat) {i2 : Int32} {i3 : Int32} {σ : qC} {p : qC}, c_wake_95_l11 n i2 i3 σ = some p → qE S d jm_3_wake_95 (11, [(0, .ref 44), (2, .int i2), (3, .int i3)], [], (σ, y)) ((.inl none, (p, y))) := by
  have hd9 : 9 ≤ d := by omega
  intro n
  induction n with
  | zero =>
    intros
    rename_i h
    unfold c_wake_95_l11 at h
    cases h
  | succ n ih =>
    intro i2 i3 σ p h
    unfold c_wake_95_l11 at h
    refine qE.steps 3 hd9 (s' := (16, [(0, .ref 44), (2, .int i2), (3, .int i3)], [.ref 35, .int i3], (σ, y))) rfl ?_
    refine qE.call hd9 rfl rfl rfl rfl (t_c_sleepers_86 (by omega) rfl) ?_
    refine qE.steps 0 hd9 (s' := (19, [(0, .ref 44), (2, .int i2), (3, .int i3)], [.int (c_sleepers_86 σ), .int i3], (σ, y))) rfl ?_
    refine qE.steps 1 hd9 (s' := (if c_sleepers_86 σ ≤ i3 then 54 else 22, [(0, .ref 44), (2, .int i2), (3, .int i3)], [], (σ, y))) rfl ?_
    by_cases c1 : c_sleepers_86 σ ≤ i3
    · rw [if_pos c1] at h
      rw [if_pos c1]
      obtain rfl := Option.some.inj h
      exact qE.ret hd9 rfl rfl
    · rw [if_neg c1] at h
      rw [if_neg c1]
      refine qE.steps 3 hd9 (s' := (if i2 = Int32.ofInt (-1) then 54 else 27, [(0, .ref 44), (2, .int i2), (3, .int i3)], [], (σ, y))) rfl ?_
      by_cases c2 : i2 = Int32.ofInt (-1)
      · rw [if_pos c2] at h
        rw [if_pos c2]
        obtain rfl := Option.some.inj h
        exact qE.ret hd9 rfl rfl
      · rw [if_neg c2] at h
        rw [if_neg c2]
        refine qE.steps 6 hd9 (s' := (35, [(0, .ref 44), (2, .int i2), (3, .int i3)], [.int (Int32.ofInt (-1)), .int (Int32.ofInt (-1)), .int (Int32.ofInt (-1)), .int i2, .ref 47], (σ, y))) rfl ?_
        obtain ⟨σ3, e4, h⟩ := obind h
        refine qE.tab hd9 (qtab_app e4 rfl) rfl rfl rfl ?_
        refine qE.steps 0 hd9 (s' := (38, [(0, .ref 44), (2, .int i2), (3, .int i3)], [.int (σ.1 4702)], (σ3, y))) rfl ?_
        refine qE.steps 4 hd9 (s' := (44, [(0, .ref 44), (2, .int i2), (3, .int i3)], [.int i2, .ref 35], (σ3, y))) rfl ?_
        refine qE.call hd9 rfl rfl rfl rfl (t_c_sleeperBehind_96 (by omega) rfl) ?_
        refine qE.steps 0 hd9 (s' := (47, [(0, .ref 44), (2, .int i2), (3, .int i3)], [.int (c_sleeperBehind_96 i2 σ3)], (σ3, y))) rfl ?_
        refine qE.steps 3 hd9 (s' := (11, [(3, .int (i3 + Int32.ofInt 1)), (2, .int (c_sleeperBehind_96 i2 σ3)), (0, .ref 44)], [], (σ3, y))) rfl ?_
        exact qE.wk (ih h) ⟨rfl, rfl, rfl, trivial⟩ rfl
set_option maxRecDepth 20000 in
theorem t_c_wake_95 {S : Nat × (Nat → Int32)} {d : Nat} {y : qC × Int64 × Nat} {i1 : Int32} {σ : qC} {p : qC} (hd : 10 ≤ d) (h : c_wake_95 i1 σ = some p) : qE S d jm_3_wake_95 (0, [(0, .ref 44), (1, .int i1)], [], (σ, y)) ((.inl none, (p, y))) := by
  have hd9 : 9 ≤ d := by omega
  unfold c_wake_95 at h
  refine qE.steps 3 hd9 (s' := (5, [(0, .ref 44), (1, .int i1)], [.int i1, .ref 35], (σ, y))) rfl ?_
  refine qE.call hd9 rfl rfl rfl rfl (t_c_firstSleeper_94 (by omega) rfl) ?_
  refine qE.steps 0 hd9 (s' := (8, [(0, .ref 44), (1, .int i1)], [.int (c_firstSleeper_94 i1 σ)], (σ, y))) rfl ?_
  refine qE.steps 3 hd9 (s' := (11, [(3, .int (Int32.ofInt 0)), (2, .int (c_firstSleeper_94 i1 σ)), (0, .ref 44), (1, .int i1)], [], (σ, y))) rfl ?_
  exact qE.wk (t_c_wake_95_l11 hd qF h) ⟨rfl, rfl, rfl, trivial⟩ rfl
def c_bind_93_50 (i1 : Int32) (σ : qC) : Option qC := (tputO σ 36 4 i1 (Int32.ofInt 0) (σ.1 5000)).bind (fun σ1 => (tputO σ1 36 4 i1 (Int32.ofInt 1) (σ1.1 5001)).bind (fun σ3 => (tappO σ3 42 4 (Int32.ofInt 0) i1 (Int32.ofInt (-1)) (Int32.ofInt (-1))).bind (fun σ5 => some σ5)))
set_option maxRecDepth 20000 in
theorem t_c_bind_93_50 {S : Nat × (Nat → Int32)} {d : Nat} {y : qC × Int64 × Nat} {i1 : Int32} {σ : qC} {p : qC} (hd : 9 ≤ d) (h : c_bind_93_50 i1 σ = some p) : qE S d jm_7_bind_93 (0, [(0, .ref 35), (1, .int i1), (2, .ref 50)], [], (σ, y)) ((.inl none, (p, y))) := by
  have hd9 : 9 ≤ d := by omega
  unfold c_bind_93_50 at h
  refine qE.steps 6 hd9 (s' := (10, [(0, .ref 35), (1, .int i1), (2, .ref 50)], [.int (σ.1 5000), .int (Int32.ofInt 0), .int i1, .ref 36], (σ, y))) rfl ?_
  obtain ⟨σ1, e2, h⟩ := obind h
  refine qE.tab hd9 (qtab_put e2 rfl) rfl rfl rfl ?_
  refine qE.steps 6 hd9 (s' := (23, [(0, .ref 35), (1, .int i1), (2, .ref 50)], [.int (σ1.1 5001), .int (Int32.ofInt 1), .int i1, .ref 36], (σ1, y))) rfl ?_
  obtain ⟨σ3, e4, h⟩ := obind h
  refine qE.tab hd9 (qtab_put e4 rfl) rfl rfl rfl ?_
  refine qE.steps 6 hd9 (s' := (34, [(0, .ref 35), (1, .int i1), (2, .ref 50)], [.int (Int32.ofInt (-1)), .int (Int32.ofInt (-1)), .int i1, .int (Int32.ofInt 0), .ref 42], (σ3, y))) rfl ?_
  obtain ⟨σ5, e6, h⟩ := obind h
  refine qE.tab hd9 (qtab_app e6 rfl) rfl rfl rfl ?_
  refine qE.steps 0 hd9 (s' := (37, [(0, .ref 35), (1, .int i1), (2, .ref 50)], [.int (σ3.1 4202)], (σ5, y))) rfl ?_
  refine qE.steps 1 hd9 (s' := (38, [(0, .ref 35), (1, .int i1), (2, .ref 50)], [], (σ5, y))) rfl ?_
  obtain rfl := Option.some.inj h
  exact qE.ret hd9 rfl rfl
def c_goThroughPairs_92_j270 (K2 : Int32 → Int32 → qC → Option (Nat × qC)) (i1 : Int32) (i2 : Int32) (σ : qC) : Option (Nat × qC) := K2 i1 (i2 + Int32.ofInt 1) σ
def c_goThroughPairs_92_l2 : Nat → Int32 → Int32 → qC → Option (Nat × qC)
  | 0, _, _, _ => none
  | n + 1, i1, i2, σ => if Int32.ofInt 500 < i2 then some (1, σ) else if σ.1 4502 ≤ 0 then some (1, σ) else (c_takeStep_65 σ).bind (fun p3 => if p3.1 = 0 then qlet (tshr p3.2 45 (Int32.ofInt 0)) (fun σ6 => some (3, σ6)) else (c_find_72_49 (tat p3.2 45 4 ((p3.2.1 4502) - (Int32.ofInt 1)) (Int32.ofInt 0)) (tat p3.2 45 4 ((p3.2.1 4502) - (Int32.ofInt 1)) (Int32.ofInt 1)) p3.2).bind (fun p8 => (c_find_72_50 (tat p8 45 4 ((p3.2.1 4502) - (Int32.ofInt 1)) (Int32.ofInt 2)) (tat p8 45 4 ((p3.2.1 4502) - (Int32.ofInt 1)) (Int32.ofInt 3)) p8).bind (fun p10 => qlet (tshr p10 45 ((p3.2.1 4502) - (Int32.ofInt 1))) (fun σ12 => if σ12.1 4902 = σ12.1 5002 then if σ12.1 4902 = Int32.ofInt (-1) then if c_alike_81 (σ12.1 4900) (σ12.1 5000) σ12 = 0 then qlet (tshr σ12 45 (Int32.ofInt 0)) (fun σ17 => some (7, σ17)) else (c_pushArguments_89 (σ12.1 4900) (σ12.1 4901) (σ12.1 5000) (σ12.1 5001) σ12).bind (fun p19 => (c_goThroughPairs_92_l2 n) i1 (i2 + Int32.ofInt 1) p19) else (c_goThroughPairs_92_l2 n) i1 (i2 + Int32.ofInt 1) σ12 else if σ12.1 4902 ≤ σ12.1 5002 then (c_bind_93_49 (σ12.1 5002) σ12).bind (fun p22 => if i1 = 0 then c_goThroughPairs_92_j270 (c_goThroughPairs_92_l2 n) i1 i2 p22 else if p22.1 4902 = Int32.ofInt (-1) then (c_wake_95 (p22.1 5002) p22).bind (fun p28 => c_goThroughPairs_92_j270 (c_goThroughPairs_92_l2 n) i1 i2 p28) else (c_join_77 (p22.1 4902) (c_firstSleeper_94 (p22.1 5002) p22) (c_lastSleeper_78 (p22.1 5002) p22) p22).bind (fun p30 => c_goThroughPairs_92_j270 (c_goThroughPairs_92_l2 n) i1 i2 p30)) else (c_bind_93_50 (σ12.1 4902) σ12).bind (fun p32 => if i1 = 0 then c_goThroughPairs_92_j270 (c_goThroughPairs_92_l2 n) i1 i2 p32 else if p32.1 5002 = Int32.ofInt (-1) then (c_wake_95 (p32.1 4902) p32).bind (fun p38 => c_goThroughPairs_92_j270 (c_goThroughPairs_92_l2 n) i1 i2 p38) else (c_join_77 (p32.1 5002) (c_firstSleeper_94 (p32.1 4902) p32) (c_lastSleeper_78 (p32.1 4902) p32) p32).bind (fun p40 => c_goThroughPairs_92_j270 (c_goThroughPairs_92_l2 n) i1 i2 p40))))))
def c_goThroughPairs_92 (i1 : Int32) (σ : qC) : Option (Nat × qC) := c_goThroughPairs_92_l2 qF i1 (Int32.ofInt 0) σ
set_option maxRecDepth 20000 in
theorem t_c_goThroughPairs_92_j270 {S : Nat × (Nat → Int32)} {d : Nat} {y : qC × Int64 × Nat} (hd : 12 ≤ d) {K2 : Int32 → Int32 → qC → Option (Nat × qC)} (hK2 : ∀ {i1 : Int32} {i2 : Int32} {σ : qC} {p : (Nat × qC)}, K2 i1 i2 σ = some p → qE S d jm_3_goThroughPairs_92 (2, [(0, .ref 44), (1, .int i1), (2, .int i2)], [], (σ, y)) ((.inl (some (.ref p.1)), (p.2, y)))) {i1 : Int32} {i2 : Int32} {σ : qC} {p : (Nat × qC)} (h : c_goThroughPairs_92_j270 K2 i1 i2 σ = some p) : qE S d jm_3_goThroughPairs_92 (270, [(0, .ref 44), (1, .int i1), (2, .int i2)], [], (σ, y)) ((.inl (some (.ref p.1)), (p.2, y))) := by
  have hd9 : 9 ≤ d := by omega
  unfold c_goThroughPairs_92_j270 at h
  refine qE.steps 3 hd9 (s' := (2, [(2, .int (i2 + Int32.ofInt 1)), (0, .ref 44), (1, .int i1)], [], (σ, y))) rfl ?_
  exact qE.wk (hK2 h) ⟨rfl, rfl, rfl, trivial⟩ rfl
set_option maxRecDepth 20000 in
theorem t_c_goThroughPairs_92_l2 {S : Nat × (Nat → Int32)} {d : Nat} {y : qC × Int64 × Nat} (hd : 12 ≤ d) : ∀ (n : Nat) {i1 : Int32} {i2 : Int32} {σ : qC} {p : (Nat × qC)}, c_goThroughPairs_92_l2 n i1 i2 σ = some p → qE S d jm_3_goThroughPairs_92 (2, [(0, .ref 44), (1, .int i1), (2, .int i2)], [], (σ, y)) ((.inl (some (.ref p.1)), (p.2, y))) := by
  have hd9 : 9 ≤ d := by omega
  intro n
  induction n with
  | zero =>
    intros
    rename_i h
    unfold c_goThroughPairs_92_l2 at h
    cases h
  | succ n ih =>
    intro i1 i2 σ p h
    unfold c_goThroughPairs_92_l2 at h
    refine qE.steps 3 hd9 (s' := (if Int32.ofInt 500 < i2 then 358 else 9, [(0, .ref 44), (1, .int i1), (2, .int i2)], [], (σ, y))) rfl ?_
    by_cases c1 : Int32.ofInt 500 < i2
    · rw [if_pos c1] at h
      rw [if_pos c1]
      refine qE.steps 1 hd9 (s' := (361, [(0, .ref 44), (1, .int i1), (2, .int i2)], [.ref 1], (σ, y))) rfl ?_
      obtain rfl := Option.some.inj h
      exact qE.ret hd9 rfl rfl
    · rw [if_neg c1] at h
      rw [if_neg c1]
      refine qE.steps 4 hd9 (s' := (if σ.1 4502 ≤ 0 then 358 else 19, [(0, .ref 44), (1, .int i1), (2, .int i2)], [], (σ, y))) rfl ?_
      by_cases c2 : σ.1 4502 ≤ 0
      · rw [if_pos c2] at h
        rw [if_pos c2]
        refine qE.steps 1 hd9 (s' := (361, [(0, .ref 44), (1, .int i1), (2, .int i2)], [.ref 1], (σ, y))) rfl ?_
        obtain rfl := Option.some.inj h
        exact qE.ret hd9 rfl rfl
      · rw [if_neg c2] at h
        rw [if_neg c2]
        refine qE.steps 1 hd9 (s' := (20, [(0, .ref 44), (1, .int i1), (2, .int i2)], [.ref 44], (σ, y))) rfl ?_
        obtain ⟨p3, e4, h⟩ := obind h
        refine qE.call hd9 rfl rfl rfl rfl (t_c_takeStep_65 (by omega) e4) ?_
        refine qE.steps 0 hd9 (s' := (23, [(0, .ref 44), (1, .int i1), (2, .int i2)], [.int p3.1], (p3.2, y))) rfl ?_
        refine qE.steps 1 hd9 (s' := (if ¬ (p3.1 = 0) then 38 else 26, [(0, .ref 44), (1, .int i1), (2, .int i2)], [], (p3.2, y))) rfl ?_
        by_cases c5 : p3.1 = 0
        · rw [if_pos c5] at h
          rw [if_neg (not_not_intro c5)]
          obtain ⟨σ6, e7, h⟩ := qlet_ex h
          refine qE.steps 4 hd9 (s' := (34, [(0, .ref 44), (1, .int i1), (2, .int i2)], [], (σ6, y))) (by subst e7; rfl) ?_
          refine qE.steps 1 hd9 (s' := (37, [(0, .ref 44), (1, .int i1), (2, .int i2)], [.ref 3], (σ6, y))) rfl ?_
          obtain rfl := Option.some.inj h
          exact qE.ret hd9 rfl rfl
        · rw [if_neg c5] at h
          rw [if_pos c5]
          refine qE.steps 20 hd9 (s' := (74, [(3, .int ((p3.2.1 4502) - (Int32.ofInt 1))), (0, .ref 44), (1, .int i1), (2, .int i2)], [.ref 49, .int (tat p3.2 45 4 ((p3.2.1 4502) - (Int32.ofInt 1)) (Int32.ofInt 1)), .int (tat p3.2 45 4 ((p3.2.1 4502) - (Int32.ofInt 1)) (Int32.ofInt 0)), .ref 35], (p3.2, y))) rfl ?_
          obtain ⟨p8, e9, h⟩ := obind h
          refine qE.call hd9 rfl rfl rfl rfl (t_c_find_72_49 (by omega) e9) ?_
          refine qE.steps 0 hd9 (s' := (77, [(3, .int ((p3.2.1 4502) - (Int32.ofInt 1))), (0, .ref 44), (1, .int i1), (2, .int i2)], [], (p8, y))) rfl ?_
          refine qE.steps 14 hd9 (s' := (103, [(3, .int ((p3.2.1 4502) - (Int32.ofInt 1))), (0, .ref 44), (1, .int i1), (2, .int i2)], [.ref 50, .int (tat p8 45 4 ((p3.2.1 4502) - (Int32.ofInt 1)) (Int32.ofInt 3)), .int (tat p8 45 4 ((p3.2.1 4502) - (Int32.ofInt 1)) (Int32.ofInt 2)), .ref 35], (p8, y))) rfl ?_
          obtain ⟨p10, e11, h⟩ := obind h
          refine qE.call hd9 rfl rfl rfl rfl (t_c_find_72_50 (by omega) e11) ?_
          refine qE.steps 0 hd9 (s' := (106, [(3, .int ((p3.2.1 4502) - (Int32.ofInt 1))), (0, .ref 44), (1, .int i1), (2, .int i2)], [], (p10, y))) rfl ?_
          obtain ⟨σ12, e13, h⟩ := qlet_ex h
          refine qE.steps 4 hd9 (s' := (114, [(3, .int ((p3.2.1 4502) - (Int32.ofInt 1))), (0, .ref 44), (1, .int i1), (2, .int i2)], [], (σ12, y))) (by subst e13; rfl) ?_
          refine qE.steps 7 hd9 (s' := (if σ12.1 4902 = σ12.1 5002 then 273 else 131, [(3, .int ((p3.2.1 4502) - (Int32.ofInt 1))), (0, .ref 44), (1, .int i1), (2, .int i2)], [], (σ12, y))) rfl ?_
          by_cases c14 : σ12.1 4902 = σ12.1 5002
          · rw [if_pos c14] at h
            rw [if_pos c14]
            refine qE.steps 5 hd9 (s' := (if ¬ (σ12.1 4902 = Int32.ofInt (-1)) then 352 else 284, [(3, .int ((p3.2.1 4502) - (Int32.ofInt 1))), (0, .ref 44), (1, .int i1), (2, .int i2)], [], (σ12, y))) rfl ?_
            by_cases c15 : σ12.1 4902 = Int32.ofInt (-1)
            · rw [if_pos c15] at h
              rw [if_neg (not_not_intro c15)]
              refine qE.steps 8 hd9 (s' := (302, [(3, .int ((p3.2.1 4502) - (Int32.ofInt 1))), (0, .ref 44), (1, .int i1), (2, .int i2)], [.int (σ12.1 5000), .int (σ12.1 4900), .ref 27], (σ12, y))) rfl ?_
              refine qE.call hd9 rfl rfl rfl rfl (t_c_alike_81 (by omega) rfl) ?_
              refine qE.steps 0 hd9 (s' := (305, [(3, .int ((p3.2.1 4502) - (Int32.ofInt 1))), (0, .ref 44), (1, .int i1), (2, .int i2)], [.int (c_alike_81 (σ12.1 4900) (σ12.1 5000) σ12)], (σ12, y))) rfl ?_
              refine qE.steps 1 hd9 (s' := (if ¬ (c_alike_81 (σ12.1 4900) (σ12.1 5000) σ12 = 0) then 320 else 308, [(3, .int ((p3.2.1 4502) - (Int32.ofInt 1))), (0, .ref 44), (1, .int i1), (2, .int i2)], [], (σ12, y))) rfl ?_
              by_cases c16 : c_alike_81 (σ12.1 4900) (σ12.1 5000) σ12 = 0
              · rw [if_pos c16] at h
                rw [if_neg (not_not_intro c16)]
                obtain ⟨σ17, e18, h⟩ := qlet_ex h
                refine qE.steps 4 hd9 (s' := (316, [(3, .int ((p3.2.1 4502) - (Int32.ofInt 1))), (0, .ref 44), (1, .int i1), (2, .int i2)], [], (σ17, y))) (by subst e18; rfl) ?_
                refine qE.steps 1 hd9 (s' := (319, [(3, .int ((p3.2.1 4502) - (Int32.ofInt 1))), (0, .ref 44), (1, .int i1), (2, .int i2)], [.ref 7], (σ17, y))) rfl ?_
                obtain rfl := Option.some.inj h
                exact qE.ret hd9 rfl rfl
              · rw [if_neg c16] at h
                rw [if_pos c16]
                refine qE.steps 13 hd9 (s' := (349, [(3, .int ((p3.2.1 4502) - (Int32.ofInt 1))), (0, .ref 44), (1, .int i1), (2, .int i2)], [.int (σ12.1 5001), .int (σ12.1 5000), .int (σ12.1 4901), .int (σ12.1 4900), .ref 44], (σ12, y))) rfl ?_
                obtain ⟨p19, e20, h⟩ := obind h
                refine qE.call hd9 rfl rfl rfl rfl (t_c_pushArguments_89 (by omega) e20) ?_
                refine qE.steps 0 hd9 (s' := (352, [(3, .int ((p3.2.1 4502) - (Int32.ofInt 1))), (0, .ref 44), (1, .int i1), (2, .int i2)], [], (p19, y))) rfl ?_
                refine qE.steps 2 hd9 (s' := (2, [(2, .int (i2 + Int32.ofInt 1)), (3, .int ((p3.2.1 4502) - (Int32.ofInt 1))), (0, .ref 44), (1, .int i1)], [], (p19, y))) rfl ?_
                exact qE.wk (ih h) ⟨rfl, rfl, rfl, trivial⟩ rfl
            · rw [if_neg c15] at h
              rw [if_pos c15]
              refine qE.steps 2 hd9 (s' := (2, [(2, .int (i2 + Int32.ofInt 1)), (3, .int ((p3.2.1 4502) - (Int32.ofInt 1))), (0, .ref 44), (1, .int i1)], [], (σ12, y))) rfl ?_
              exact qE.wk (ih h) ⟨rfl, rfl, rfl, trivial⟩ rfl
          · rw [if_neg c14] at h
            rw [if_neg c14]
            refine qE.steps 7 hd9 (s' := (if σ12.1 4902 ≤ σ12.1 5002 then 152 else 148, [(3, .int ((p3.2.1 4502) - (Int32.ofInt 1))), (0, .ref 44), (1, .int i1), (2, .int i2)], [], (σ12, y))) rfl ?_
            by_cases c21 : σ12.1 4902 ≤ σ12.1 5002
            · rw [if_pos c21] at h
              rw [if_pos c21]
              refine qE.steps 17 hd9 (s' := (202, [(6, .ref 49), (5, .ref 50), (4, .int (Int32.ofInt 0)), (3, .int ((p3.2.1 4502) - (Int32.ofInt 1))), (0, .ref 44), (1, .int i1), (2, .int i2)], [.ref 49, .int (σ12.1 5002), .ref 35], (σ12, y))) rfl ?_
              obtain ⟨p22, e23, h⟩ := obind h
              refine qE.call hd9 rfl rfl rfl rfl (t_c_bind_93_49 (by omega) e23) ?_
              refine qE.steps 0 hd9 (s' := (205, [(6, .ref 49), (5, .ref 50), (4, .int (Int32.ofInt 0)), (3, .int ((p3.2.1 4502) - (Int32.ofInt 1))), (0, .ref 44), (1, .int i1), (2, .int i2)], [], (p22, y))) rfl ?_
              refine qE.steps 2 hd9 (s' := (if i1 = 0 then 257 else 209, [(6, .ref 49), (5, .ref 50), (4, .int (Int32.ofInt 0)), (3, .int ((p3.2.1 4502) - (Int32.ofInt 1))), (0, .ref 44), (1, .int i1), (2, .int i2)], [], (p22, y))) rfl ?_
              by_cases c24 : i1 = 0
              · rw [if_pos c24] at h
                rw [if_pos c24]
                refine qE.steps 2 hd9 (s' := (if i1 = 0 then 270 else 261, [(6, .ref 49), (5, .ref 50), (4, .int (Int32.ofInt 0)), (3, .int ((p3.2.1 4502) - (Int32.ofInt 1))), (0, .ref 44), (1, .int i1), (2, .int i2)], [], (p22, y))) rfl ?_
                rw [if_pos c24]
                exact qE.wk (t_c_goThroughPairs_92_j270 hd ih h) ⟨rfl, rfl, rfl, trivial⟩ rfl
              · rw [if_neg c24] at h
                rw [if_neg c24]
                refine qE.steps 4 hd9 (s' := (if p22.1 4902 = Int32.ofInt (-1) then 257 else 218, [(6, .ref 49), (5, .ref 50), (4, .int (Int32.ofInt 0)), (3, .int ((p3.2.1 4502) - (Int32.ofInt 1))), (0, .ref 44), (1, .int i1), (2, .int i2)], [], (p22, y))) rfl ?_
                by_cases c26 : p22.1 4902 = Int32.ofInt (-1)
                · rw [if_pos c26] at h
                  rw [if_pos c26]
                  refine qE.steps 2 hd9 (s' := (if i1 = 0 then 270 else 261, [(6, .ref 49), (5, .ref 50), (4, .int (Int32.ofInt 0)), (3, .int ((p3.2.1 4502) - (Int32.ofInt 1))), (0, .ref 44), (1, .int i1), (2, .int i2)], [], (p22, y))) rfl ?_
                  rw [if_neg c24]
                  refine qE.steps 3 hd9 (s' := (267, [(6, .ref 49), (5, .ref 50), (4, .int (Int32.ofInt 0)), (3, .int ((p3.2.1 4502) - (Int32.ofInt 1))), (0, .ref 44), (1, .int i1), (2, .int i2)], [.int (p22.1 5002), .ref 44], (p22, y))) rfl ?_
                  obtain ⟨p28, e29, h⟩ := obind h
                  refine qE.call hd9 rfl rfl rfl rfl (t_c_wake_95 (by omega) e29) ?_
                  refine qE.steps 0 hd9 (s' := (270, [(6, .ref 49), (5, .ref 50), (4, .int (Int32.ofInt 0)), (3, .int ((p3.2.1 4502) - (Int32.ofInt 1))), (0, .ref 44), (1, .int i1), (2, .int i2)], [], (p28, y))) rfl ?_
                  exact qE.wk (t_c_goThroughPairs_92_j270 hd ih h) ⟨rfl, rfl, rfl, trivial⟩ rfl
                · rw [if_neg c26] at h
                  rw [if_neg c26]
                  refine qE.steps 8 hd9 (s' := (236, [(6, .ref 49), (5, .ref 50), (4, .int (Int32.ofInt 0)), (3, .int ((p3.2.1 4502) - (Int32.ofInt 1))), (0, .ref 44), (1, .int i1), (2, .int i2)], [.int (p22.1 5002), .ref 35, .int (p22.1 4902), .ref 35], (p22, y))) rfl ?_
                  refine qE.call hd9 rfl rfl rfl rfl (t_c_firstSleeper_94 (by omega) rfl) ?_
                  refine qE.steps 0 hd9 (s' := (239, [(6, .ref 49), (5, .ref 50), (4, .int (Int32.ofInt 0)), (3, .int ((p3.2.1 4502) - (Int32.ofInt 1))), (0, .ref 44), (1, .int i1), (2, .int i2)], [.int (c_firstSleeper_94 (p22.1 5002) p22), .int (p22.1 4902), .ref 35], (p22, y))) rfl ?_
                  refine qE.steps 4 hd9 (s' := (248, [(6, .ref 49), (5, .ref 50), (4, .int (Int32.ofInt 0)), (3, .int ((p3.2.1 4502) - (Int32.ofInt 1))), (0, .ref 44), (1, .int i1), (2, .int i2)], [.int (p22.1 5002), .ref 35, .int (c_firstSleeper_94 (p22.1 5002) p22), .int (p22.1 4902), .ref 35], (p22, y))) rfl ?_
                  refine qE.call hd9 rfl rfl rfl rfl (t_c_lastSleeper_78 (by omega) rfl) ?_
                  refine qE.steps 0 hd9 (s' := (251, [(6, .ref 49), (5, .ref 50), (4, .int (Int32.ofInt 0)), (3, .int ((p3.2.1 4502) - (Int32.ofInt 1))), (0, .ref 44), (1, .int i1), (2, .int i2)], [.int (c_lastSleeper_78 (p22.1 5002) p22), .int (c_firstSleeper_94 (p22.1 5002) p22), .int (p22.1 4902), .ref 35], (p22, y))) rfl ?_
                  obtain ⟨p30, e31, h⟩ := obind h
                  refine qE.call hd9 rfl rfl rfl rfl (t_c_join_77 (by omega) e31) ?_
                  refine qE.steps 0 hd9 (s' := (254, [(6, .ref 49), (5, .ref 50), (4, .int (Int32.ofInt 0)), (3, .int ((p3.2.1 4502) - (Int32.ofInt 1))), (0, .ref 44), (1, .int i1), (2, .int i2)], [], (p30, y))) rfl ?_
                  refine qE.steps 1 hd9 (s' := (270, [(6, .ref 49), (5, .ref 50), (4, .int (Int32.ofInt 0)), (3, .int ((p3.2.1 4502) - (Int32.ofInt 1))), (0, .ref 44), (1, .int i1), (2, .int i2)], [], (p30, y))) rfl ?_
                  exact qE.wk (t_c_goThroughPairs_92_j270 hd ih h) ⟨rfl, rfl, rfl, trivial⟩ rfl
            · rw [if_neg c21] at h
              rw [if_neg c21]
              refine qE.steps 20 hd9 (s' := (202, [(6, .ref 50), (5, .ref 49), (4, .int (Int32.ofInt 1)), (3, .int ((p3.2.1 4502) - (Int32.ofInt 1))), (0, .ref 44), (1, .int i1), (2, .int i2)], [.ref 50, .int (σ12.1 4902), .ref 35], (σ12, y))) rfl ?_
              obtain ⟨p32, e33, h⟩ := obind h
              refine qE.call hd9 rfl rfl rfl rfl (t_c_bind_93_50 (by omega) e33) ?_
              refine qE.steps 0 hd9 (s' := (205, [(6, .ref 50), (5, .ref 49), (4, .int (Int32.ofInt 1)), (3, .int ((p3.2.1 4502) - (Int32.ofInt 1))), (0, .ref 44), (1, .int i1), (2, .int i2)], [], (p32, y))) rfl ?_
              refine qE.steps 2 hd9 (s' := (if i1 = 0 then 257 else 209, [(6, .ref 50), (5, .ref 49), (4, .int (Int32.ofInt 1)), (3, .int ((p3.2.1 4502) - (Int32.ofInt 1))), (0, .ref 44), (1, .int i1), (2, .int i2)], [], (p32, y))) rfl ?_
              by_cases c34 : i1 = 0
              · rw [if_pos c34] at h
                rw [if_pos c34]
                refine qE.steps 2 hd9 (s' := (if i1 = 0 then 270 else 261, [(6, .ref 50), (5, .ref 49), (4, .int (Int32.ofInt 1)), (3, .int ((p3.2.1 4502) - (Int32.ofInt 1))), (0, .ref 44), (1, .int i1), (2, .int i2)], [], (p32, y))) rfl ?_
                rw [if_pos c34]
                exact qE.wk (t_c_goThroughPairs_92_j270 hd ih h) ⟨rfl, rfl, rfl, trivial⟩ rfl
              · rw [if_neg c34] at h
                rw [if_neg c34]
                refine qE.steps 4 hd9 (s' := (if p32.1 5002 = Int32.ofInt (-1) then 257 else 218, [(6, .ref 50), (5, .ref 49), (4, .int (Int32.ofInt 1)), (3, .int ((p3.2.1 4502) - (Int32.ofInt 1))), (0, .ref 44), (1, .int i1), (2, .int i2)], [], (p32, y))) rfl ?_
                by_cases c36 : p32.1 5002 = Int32.ofInt (-1)
                · rw [if_pos c36] at h
                  rw [if_pos c36]
                  refine qE.steps 2 hd9 (s' := (if i1 = 0 then 270 else 261, [(6, .ref 50), (5, .ref 49), (4, .int (Int32.ofInt 1)), (3, .int ((p3.2.1 4502) - (Int32.ofInt 1))), (0, .ref 44), (1, .int i1), (2, .int i2)], [], (p32, y))) rfl ?_
                  rw [if_neg c34]
                  refine qE.steps 3 hd9 (s' := (267, [(6, .ref 50), (5, .ref 49), (4, .int (Int32.ofInt 1)), (3, .int ((p3.2.1 4502) - (Int32.ofInt 1))), (0, .ref 44), (1, .int i1), (2, .int i2)], [.int (p32.1 4902), .ref 44], (p32, y))) rfl ?_
                  obtain ⟨p38, e39, h⟩ := obind h
                  refine qE.call hd9 rfl rfl rfl rfl (t_c_wake_95 (by omega) e39) ?_
                  refine qE.steps 0 hd9 (s' := (270, [(6, .ref 50), (5, .ref 49), (4, .int (Int32.ofInt 1)), (3, .int ((p3.2.1 4502) - (Int32.ofInt 1))), (0, .ref 44), (1, .int i1), (2, .int i2)], [], (p38, y))) rfl ?_
                  exact qE.wk (t_c_goThroughPairs_92_j270 hd ih h) ⟨rfl, rfl, rfl, trivial⟩ rfl
                · rw [if_neg c36] at h
                  rw [if_neg c36]
                  refine qE.steps 8 hd9 (s' := (236, [(6, .ref 50), (5, .ref 49), (4, .int (Int32.ofInt 1)), (3, .int ((p3.2.1 4502) - (Int32.ofInt 1))), (0, .ref 44), (1, .int i1), (2, .int i2)], [.int (p32.1 4902), .ref 35, .int (p32.1 5002), .ref 35], (p32, y))) rfl ?_
                  refine qE.call hd9 rfl rfl rfl rfl (t_c_firstSleeper_94 (by omega) rfl) ?_
                  refine qE.steps 0 hd9 (s' := (239, [(6, .ref 50), (5, .ref 49), (4, .int (Int32.ofInt 1)), (3, .int ((p3.2.1 4502) - (Int32.ofInt 1))), (0, .ref 44), (1, .int i1), (2, .int i2)], [.int (c_firstSleeper_94 (p32.1 4902) p32), .int (p32.1 5002), .ref 35], (p32, y))) rfl ?_
                  refine qE.steps 4 hd9 (s' := (248, [(6, .ref 50), (5, .ref 49), (4, .int (Int32.ofInt 1)), (3, .int ((p3.2.1 4502) - (Int32.ofInt 1))), (0, .ref 44), (1, .int i1), (2, .int i2)], [.int (p32.1 4902), .ref 35, .int (c_firstSleeper_94 (p32.1 4902) p32), .int (p32.1 5002), .ref 35], (p32, y))) rfl ?_
                  refine qE.call hd9 rfl rfl rfl rfl (t_c_lastSleeper_78 (by omega) rfl) ?_
                  refine qE.steps 0 hd9 (s' := (251, [(6, .ref 50), (5, .ref 49), (4, .int (Int32.ofInt 1)), (3, .int ((p3.2.1 4502) - (Int32.ofInt 1))), (0, .ref 44), (1, .int i1), (2, .int i2)], [.int (c_lastSleeper_78 (p32.1 4902) p32), .int (c_firstSleeper_94 (p32.1 4902) p32), .int (p32.1 5002), .ref 35], (p32, y))) rfl ?_
                  obtain ⟨p40, e41, h⟩ := obind h
                  refine qE.call hd9 rfl rfl rfl rfl (t_c_join_77 (by omega) e41) ?_
                  refine qE.steps 0 hd9 (s' := (254, [(6, .ref 50), (5, .ref 49), (4, .int (Int32.ofInt 1)), (3, .int ((p3.2.1 4502) - (Int32.ofInt 1))), (0, .ref 44), (1, .int i1), (2, .int i2)], [], (p40, y))) rfl ?_
                  refine qE.steps 1 hd9 (s' := (270, [(6, .ref 50), (5, .ref 49), (4, .int (Int32.ofInt 1)), (3, .int ((p3.2.1 4502) - (Int32.ofInt 1))), (0, .ref 44), (1, .int i1), (2, .int i2)], [], (p40, y))) rfl ?_
                  exact qE.wk (t_c_goThroughPairs_92_j270 hd ih h) ⟨rfl, rfl, rfl, trivial⟩ rfl
set_option maxRecDepth 20000 in
theorem t_c_goThroughPairs_92 {S : Nat × (Nat → Int32)} {d : Nat} {y : qC × Int64 × Nat} {i1 : Int32} {σ : qC} {p : (Nat × qC)} (hd : 12 ≤ d) (h : c_goThroughPairs_92 i1 σ = some p) : qE S d jm_3_goThroughPairs_92 (0, [(0, .ref 44), (1, .int i1)], [], (σ, y)) ((.inl (some (.ref p.1)), (p.2, y))) := by
  have hd9 : 9 ≤ d := by omega
  unfold c_goThroughPairs_92 at h
  refine qE.steps 2 hd9 (s' := (2, [(2, .int (Int32.ofInt 0)), (0, .ref 44), (1, .int i1)], [], (σ, y))) rfl ?_
  exact qE.wk (t_c_goThroughPairs_92_l2 hd qF h) ⟨rfl, rfl, rfl, trivial⟩ rfl
def c_makeSame_91 (σ : qC) : Option (Nat × qC) := qlet (tshr σ 47 (Int32.ofInt 0)) (fun σ1 => (c_goThroughPairs_92 (Int32.ofInt 1) σ1).bind (fun p3 => if 1 ≤ p3.1 ∧ p3.1 < 11 then (if p3.1 = 1 then if c_changes_84 p3.2 ≤ c_changes_84 σ then some (p3.1, p3.2) else some (8, p3.2) else some (p3.1, p3.2)) else none))
set_option maxRecDepth 20000 in
theorem t_c_makeSame_91 {S : Nat × (Nat → Int32)} {d : Nat} {y : qC × Int64 × Nat} {σ : qC} {p : (Nat × qC)} (hd : 13 ≤ d) (h : c_makeSame_91 σ = some p) : qE S d jm_3_makeSame_91 (0, [(0, .ref 44)], [], (σ, y)) ((.inl (some (.ref p.1)), (p.2, y))) := by
  have hd9 : 9 ≤ d := by omega
  unfold c_makeSame_91 at h
  refine qE.steps 2 hd9 (s' := (4, [(0, .ref 44)], [.ref 35], (σ, y))) rfl ?_
  refine qE.call hd9 rfl rfl rfl rfl (t_c_changes_84 (by omega) rfl) ?_
  refine qE.steps 0 hd9 (s' := (7, [(0, .ref 44)], [.int (c_changes_84 σ)], (σ, y))) rfl ?_
  obtain ⟨σ1, e2, h⟩ := qlet_ex h
  refine qE.steps 5 hd9 (s' := (16, [(1, .int (c_changes_84 σ)), (0, .ref 44)], [], (σ1, y))) (by subst e2; rfl) ?_
  refine qE.steps 2 hd9 (s' := (18, [(1, .int (c_changes_84 σ)), (0, .ref 44)], [.int (Int32.ofInt 1), .ref 44], (σ1, y))) rfl ?_
  obtain ⟨p3, e4, h⟩ := obind h
  refine qE.call hd9 rfl rfl rfl rfl (t_c_goThroughPairs_92 (by omega) e4) ?_
  refine qE.steps 0 hd9 (s' := (21, [(1, .int (c_changes_84 σ)), (0, .ref 44)], [.ref p3.1], (p3.2, y))) rfl ?_
  refine qE.steps 3 hd9 (s' := (26, [(2, .ref p3.1), (1, .int (c_changes_84 σ)), (0, .ref 44)], [.ref 1, .ref p3.1], (p3.2, y))) rfl ?_
  by_cases c5 : 1 ≤ p3.1 ∧ p3.1 < 11
  case neg => rw [if_neg c5] at h; cases h
  rw [if_pos c5] at h
  refine qE.acmp hd9 ⟨c5, by decide⟩ rfl rfl ?_
  show qE S d jm_3_makeSame_91 (if ¬ (p3.1 = 1) then 44 else 29, [(2, .ref p3.1), (1, .int (c_changes_84 σ)), (0, .ref 44)], [], (p3.2, y)) _
  by_cases c6 : p3.1 = 1
  · rw [if_pos c6] at h
    rw [if_neg (not_not_intro c6)]
    refine qE.steps 2 hd9 (s' := (33, [(2, .ref p3.1), (1, .int (c_changes_84 σ)), (0, .ref 44)], [.ref 35], (p3.2, y))) rfl ?_
    refine qE.call hd9 rfl rfl rfl rfl (t_c_changes_84 (by omega) rfl) ?_
    refine qE.steps 0 hd9 (s' := (36, [(2, .ref p3.1), (1, .int (c_changes_84 σ)), (0, .ref 44)], [.int (c_changes_84 p3.2)], (p3.2, y))) rfl ?_
    refine qE.steps 2 hd9 (s' := (if c_changes_84 p3.2 ≤ c_changes_84 σ then 44 else 40, [(2, .ref p3.1), (1, .int (c_changes_84 σ)), (0, .ref 44)], [], (p3.2, y))) rfl ?_
    by_cases c7 : c_changes_84 p3.2 ≤ c_changes_84 σ
    · rw [if_pos c7] at h
      rw [if_pos c7]
      refine qE.steps 1 hd9 (s' := (45, [(2, .ref p3.1), (1, .int (c_changes_84 σ)), (0, .ref 44)], [.ref p3.1], (p3.2, y))) rfl ?_
      obtain rfl := Option.some.inj h
      exact qE.ret hd9 rfl rfl
    · rw [if_neg c7] at h
      rw [if_neg c7]
      refine qE.steps 1 hd9 (s' := (43, [(2, .ref p3.1), (1, .int (c_changes_84 σ)), (0, .ref 44)], [.ref 8], (p3.2, y))) rfl ?_
      obtain rfl := Option.some.inj h
      exact qE.ret hd9 rfl rfl
  · rw [if_neg c6] at h
    rw [if_pos c6]
    refine qE.steps 1 hd9 (s' := (45, [(2, .ref p3.1), (1, .int (c_changes_84 σ)), (0, .ref 44)], [.ref p3.1], (p3.2, y))) rfl ?_
    obtain rfl := Option.some.inj h
    exact qE.ret hd9 rfl rfl
def c_isWaiting_17 (i1 : Int32) (σ : qC) : Int32 := if tat σ 40 4 i1 (Int32.ofInt 2) = Int32.ofInt 1 then Int32.ofInt 1 else Int32.ofInt 0
set_option maxRecDepth 20000 in
theorem t_c_isWaiting_17 {S : Nat × (Nat → Int32)} {d : Nat} {y : qC × Int64 × Nat} {i1 : Int32} {σ : qC} {p : Int32} (hd : 9 ≤ d) (h : c_isWaiting_17 i1 σ = p) : qE S d jm_7_isWaiting_17 (0, [(0, .ref 35), (1, .int i1)], [], (σ, y)) ((.inl (some (.int p)), (σ, y))) := by
  have hd9 : 9 ≤ d := by omega
  unfold c_isWaiting_17 at h
  refine qE.steps 7 hd9 (s' := (if ¬ (tat σ 40 4 i1 (Int32.ofInt 2) = Int32.ofInt 1) then 17 else 13, [(0, .ref 35), (1, .int i1)], [], (σ, y))) rfl ?_
  by_cases c1 : tat σ 40 4 i1 (Int32.ofInt 2) = Int32.ofInt 1
  · rw [if_pos c1] at h
    rw [if_neg (not_not_intro c1)]
    refine qE.steps 2 hd9 (s' := (18, [(0, .ref 35), (1, .int i1)], [.int (Int32.ofInt 1)], (σ, y))) rfl ?_
    subst h
    exact qE.ret hd9 rfl rfl
  · rw [if_neg c1] at h
    rw [if_pos c1]
    refine qE.steps 1 hd9 (s' := (18, [(0, .ref 35), (1, .int i1)], [.int (Int32.ofInt 0)], (σ, y))) rfl ?_
    subst h
    exact qE.ret hd9 rfl rfl
def c_apartGoal_99 (i1 : Int32) (σ : qC) : Int32 := tat σ 40 4 i1 (Int32.ofInt 0)
set_option maxRecDepth 20000 in
theorem t_c_apartGoal_99 {S : Nat × (Nat → Int32)} {d : Nat} {y : qC × Int64 × Nat} {i1 : Int32} {σ : qC} {p : Int32} (hd : 9 ≤ d) (h : c_apartGoal_99 i1 σ = p) : qE S d jm_7_apartGoal_99 (0, [(0, .ref 35), (1, .int i1)], [], (σ, y)) ((.inl (some (.int p)), (σ, y))) := by
  have hd9 : 9 ≤ d := by omega
  unfold c_apartGoal_99 at h
  refine qE.steps 5 hd9 (s' := (9, [(0, .ref 35), (1, .int i1)], [.int (tat σ 40 4 i1 (Int32.ofInt 0))], (σ, y))) rfl ?_
  subst h
  exact qE.ret hd9 rfl rfl
def c_apartEnv_100 (i1 : Int32) (σ : qC) : Int32 := tat σ 40 4 i1 (Int32.ofInt 1)
set_option maxRecDepth 20000 in
theorem t_c_apartEnv_100 {S : Nat × (Nat → Int32)} {d : Nat} {y : qC × Int64 × Nat} {i1 : Int32} {σ : qC} {p : Int32} (hd : 9 ≤ d) (h : c_apartEnv_100 i1 σ = p) : qE S d jm_7_apartEnv_100 (0, [(0, .ref 35), (1, .int i1)], [], (σ, y)) ((.inl (some (.int p)), (σ, y))) := by
  have hd9 : 9 ≤ d := by omega
  unfold c_apartEnv_100 at h
  refine qE.steps 5 hd9 (s' := (9, [(0, .ref 35), (1, .int i1)], [.int (tat σ 40 4 i1 (Int32.ofInt 1))], (σ, y))) rfl ?_
  subst h
  exact qE.ret hd9 rfl rfl
def c_undo_102 (i1 : Int32) (σ : qC) : Option qC := if tat σ 42 4 i1 (Int32.ofInt 0) = 0 then (tputO σ 36 4 (tat σ 42 4 i1 (Int32.ofInt 1)) (Int32.ofInt 0) (Int32.ofInt (-1))).bind (fun σ2 => some σ2) else if tat σ 42 4 i1 (Int32.ofInt 0) = Int32.ofInt 2 then (tputO σ 40 4 (tat σ 42 4 i1 (Int32.ofInt 1)) (Int32.ofInt 2) (Int32.ofInt 1)).bind (fun σ5 => some σ5) else (tputO σ 36 4 (tat σ 42 4 i1 (Int32.ofInt 1)) (Int32.ofInt 3) (tat σ 42 4 i1 (Int32.ofInt 2))).bind (fun σ7 => if tat σ 42 4 i1 (Int32.ofInt 2) = Int32.ofInt (-1) then (tputO σ7 36 4 (tat σ 42 4 i1 (Int32.ofInt 1)) (Int32.ofInt 2) (Int32.ofInt (-1))).bind (fun σ10 => some σ10) else (tputO σ7 38 4 (tat σ 42 4 i1 (Int32.ofInt 2)) (Int32.ofInt 2) (Int32.ofInt (-1))).bind (fun σ12 => some σ12))
set_option maxRecDepth 20000 in
theorem t_c_undo_102 {S : Nat × (Nat → Int32)} {d : Nat} {y : qC × Int64 × Nat} {i1 : Int32} {σ : qC} {p : qC} (hd : 9 ≤ d) (h : c_undo_102 i1 σ = some p) : qE S d jm_7_undo_102 (0, [(0, .ref 35), (1, .int i1)], [], (σ, y)) ((.inl none, (p, y))) := by
  have hd9 : 9 ≤ d := by omega
  unfold c_undo_102 at h
  refine qE.steps 14 hd9 (s' := (if ¬ (tat σ 42 4 i1 (Int32.ofInt 0) = 0) then 35 else 24, [(3, .int (tat σ 42 4 i1 (Int32.ofInt 0))), (2, .int (tat σ 42 4 i1 (Int32.ofInt 1))), (0, .ref 35), (1, .int i1)], [], (σ, y))) rfl ?_
  by_cases c1 : tat σ 42 4 i1 (Int32.ofInt 0) = 0
  · rw [if_pos c1] at h
    rw [if_neg (not_not_intro c1)]
    refine qE.steps 5 hd9 (s' := (31, [(3, .int (tat σ 42 4 i1 (Int32.ofInt 0))), (2, .int (tat σ 42 4 i1 (Int32.ofInt 1))), (0, .ref 35), (1, .int i1)], [.int (Int32.ofInt (-1)), .int (Int32.ofInt 0), .int (tat σ 42 4 i1 (Int32.ofInt 1)), .ref 36], (σ, y))) rfl ?_
    obtain ⟨σ2, e3, h⟩ := obind h
    refine qE.tab hd9 (qtab_put e3 rfl) rfl rfl rfl ?_
    obtain rfl := Option.some.inj h
    exact qE.ret hd9 rfl rfl
  · rw [if_neg c1] at h
    rw [if_pos c1]
    refine qE.steps 3 hd9 (s' := (if ¬ (tat σ 42 4 i1 (Int32.ofInt 0) = Int32.ofInt 2) then 51 else 40, [(3, .int (tat σ 42 4 i1 (Int32.ofInt 0))), (2, .int (tat σ 42 4 i1 (Int32.ofInt 1))), (0, .ref 35), (1, .int i1)], [], (σ, y))) rfl ?_
    by_cases c4 : tat σ 42 4 i1 (Int32.ofInt 0) = Int32.ofInt 2
    · rw [if_pos c4] at h
      rw [if_neg (not_not_intro c4)]
      refine qE.steps 5 hd9 (s' := (47, [(3, .int (tat σ 42 4 i1 (Int32.ofInt 0))), (2, .int (tat σ 42 4 i1 (Int32.ofInt 1))), (0, .ref 35), (1, .int i1)], [.int (Int32.ofInt 1), .int (Int32.ofInt 2), .int (tat σ 42 4 i1 (Int32.ofInt 1)), .ref 40], (σ, y))) rfl ?_
      obtain ⟨σ5, e6, h⟩ := obind h
      refine qE.tab hd9 (qtab_put e6 rfl) rfl rfl rfl ?_
      obtain rfl := Option.some.inj h
      exact qE.ret hd9 rfl rfl
    · rw [if_neg c4] at h
      rw [if_pos c4]
      refine qE.steps 11 hd9 (s' := (70, [(4, .int (tat σ 42 4 i1 (Int32.ofInt 2))), (3, .int (tat σ 42 4 i1 (Int32.ofInt 0))), (2, .int (tat σ 42 4 i1 (Int32.ofInt 1))), (0, .ref 35), (1, .int i1)], [.int (tat σ 42 4 i1 (Int32.ofInt 2)), .int (Int32.ofInt 3), .int (tat σ 42 4 i1 (Int32.ofInt 1)), .ref 36], (σ, y))) rfl ?_
      obtain ⟨σ7, e8, h⟩ := obind h
      refine qE.tab hd9 (qtab_put e8 rfl) rfl rfl rfl ?_
      refine qE.steps 3 hd9 (s' := (if ¬ (tat σ 42 4 i1 (Int32.ofInt 2) = Int32.ofInt (-1)) then 92 else 79, [(4, .int (tat σ 42 4 i1 (Int32.ofInt 2))), (3, .int (tat σ 42 4 i1 (Int32.ofInt 0))), (2, .int (tat σ 42 4 i1 (Int32.ofInt 1))), (0, .ref 35), (1, .int i1)], [], (σ7, y))) rfl ?_
      by_cases c9 : tat σ 42 4 i1 (Int32.ofInt 2) = Int32.ofInt (-1)
      · rw [if_pos c9] at h
        rw [if_neg (not_not_intro c9)]
        refine qE.steps 5 hd9 (s' := (86, [(4, .int (tat σ 42 4 i1 (Int32.ofInt 2))), (3, .int (tat σ 42 4 i1 (Int32.ofInt 0))), (2, .int (tat σ 42 4 i1 (Int32.ofInt 1))), (0, .ref 35), (1, .int i1)], [.int (Int32.ofInt (-1)), .int (Int32.ofInt 2), .int (tat σ 42 4 i1 (Int32.ofInt 1)), .ref 36], (σ7, y))) rfl ?_
        obtain ⟨σ10, e11, h⟩ := obind h
        refine qE.tab hd9 (qtab_put e11 rfl) rfl rfl rfl ?_
        refine qE.steps 1 hd9 (s' := (103, [(4, .int (tat σ 42 4 i1 (Int32.ofInt 2))), (3, .int (tat σ 42 4 i1 (Int32.ofInt 0))), (2, .int (tat σ 42 4 i1 (Int32.ofInt 1))), (0, .ref 35), (1, .int i1)], [], (σ10, y))) rfl ?_
        obtain rfl := Option.some.inj h
        exact qE.ret hd9 rfl rfl
      · rw [if_neg c9] at h
        rw [if_pos c9]
        refine qE.steps 5 hd9 (s' := (100, [(4, .int (tat σ 42 4 i1 (Int32.ofInt 2))), (3, .int (tat σ 42 4 i1 (Int32.ofInt 0))), (2, .int (tat σ 42 4 i1 (Int32.ofInt 1))), (0, .ref 35), (1, .int i1)], [.int (Int32.ofInt (-1)), .int (Int32.ofInt 2), .int (tat σ 42 4 i1 (Int32.ofInt 2)), .ref 38], (σ7, y))) rfl ?_
        obtain ⟨σ12, e13, h⟩ := obind h
        refine qE.tab hd9 (qtab_put e13 rfl) rfl rfl rfl ?_
        obtain rfl := Option.some.inj h
        exact qE.ret hd9 rfl rfl
def c_goBack_101_l10 : Nat → Int32 → Int32 → qC → Option qC
  | 0, _, _, _ => none
  | n + 1, i1, i2, σ => if i2 < i1 then qlet (tshr σ 42 i1) (fun σ2 => some σ2) else if i2 < 0 then qlet (tshr σ 42 i1) (fun σ5 => some σ5) else (c_undo_102 i2 σ).bind (fun p7 => (c_goBack_101_l10 n) i1 (i2 + Int32.ofInt (-1)) p7)
def c_goBack_101 (i1 : Int32) (σ : qC) : Option qC := c_goBack_101_l10 qF i1 ((σ.1 4202) - (Int32.ofInt 1)) σ
set_option maxRecDepth 20000 in
theorem t_c_goBack_101_l10 {S : Nat × (Nat → Int32)} {d : Nat} {y : qC × Int64 × Nat} (hd : 10 ≤ d) : ∀ (n : Nat) {i1 : Int32} {i2 : Int32} {σ : qC} {p : qC}, c_goBack_101_l10 n i1 i2 σ = some p → qE S d jm_7_goBack_101 (10, [(0, .ref 35), (1, .int i1), (2, .int i2)], [], (σ, y)) ((.inl none, (p, y))) := by
  have hd9 : 9 ≤ d := by omega
  intro n
  induction n with
  | zero =>
    intros
    rename_i h
    unfold c_goBack_101_l10 at h
    cases h
  | succ n ih =>
    intro i1 i2 σ p h
    unfold c_goBack_101_l10 at h
    refine qE.steps 3 hd9 (s' := (if i2 < i1 then 30 else 15, [(0, .ref 35), (1, .int i1), (2, .int i2)], [], (σ, y))) rfl ?_
    by_cases c1 : i2 < i1
    · rw [if_pos c1] at h
      rw [if_pos c1]
      obtain ⟨σ2, e3, h⟩ := qlet_ex h
      refine qE.steps 4 hd9 (s' := (38, [(0, .ref 35), (1, .int i1), (2, .int i2)], [], (σ2, y))) (by subst e3; rfl) ?_
      obtain rfl := Option.some.inj h
      exact qE.ret hd9 rfl rfl
    · rw [if_neg c1] at h
      rw [if_neg c1]
      refine qE.steps 2 hd9 (s' := (if i2 < 0 then 30 else 19, [(0, .ref 35), (1, .int i1), (2, .int i2)], [], (σ, y))) rfl ?_
      by_cases c4 : i2 < 0
      · rw [if_pos c4] at h
        rw [if_pos c4]
        obtain ⟨σ5, e6, h⟩ := qlet_ex h
        refine qE.steps 4 hd9 (s' := (38, [(0, .ref 35), (1, .int i1), (2, .int i2)], [], (σ5, y))) (by subst e6; rfl) ?_
        obtain rfl := Option.some.inj h
        exact qE.ret hd9 rfl rfl
      · rw [if_neg c4] at h
        rw [if_neg c4]
        refine qE.steps 2 hd9 (s' := (21, [(0, .ref 35), (1, .int i1), (2, .int i2)], [.int i2, .ref 35], (σ, y))) rfl ?_
        obtain ⟨p7, e8, h⟩ := obind h
        refine qE.call hd9 rfl rfl rfl rfl (t_c_undo_102 (by omega) e8) ?_
        refine qE.steps 0 hd9 (s' := (24, [(0, .ref 35), (1, .int i1), (2, .int i2)], [], (p7, y))) rfl ?_
        refine qE.steps 2 hd9 (s' := (10, [(2, .int (i2 + Int32.ofInt (-1))), (0, .ref 35), (1, .int i1)], [], (p7, y))) rfl ?_
        exact qE.wk (ih h) ⟨rfl, rfl, rfl, trivial⟩ rfl
set_option maxRecDepth 20000 in
theorem t_c_goBack_101 {S : Nat × (Nat → Int32)} {d : Nat} {y : qC × Int64 × Nat} {i1 : Int32} {σ : qC} {p : qC} (hd : 10 ≤ d) (h : c_goBack_101 i1 σ = some p) : qE S d jm_7_goBack_101 (0, [(0, .ref 35), (1, .int i1)], [], (σ, y)) ((.inl none, (p, y))) := by
  have hd9 : 9 ≤ d := by omega
  unfold c_goBack_101 at h
  refine qE.steps 6 hd9 (s' := (10, [(2, .int ((σ.1 4202) - (Int32.ofInt 1))), (0, .ref 35), (1, .int i1)], [], (σ, y))) rfl ?_
  exact qE.wk (t_c_goBack_101_l10 hd qF h) ⟨rfl, rfl, rfl, trivial⟩ rfl
def c_settle_103 (i1 : Int32) (σ : qC) : Option qC := (tputO σ 40 4 i1 (Int32.ofInt 2) (Int32.ofInt 0)).bind (fun σ1 => (tappO σ1 42 4 (Int32.ofInt 2) i1 (Int32.ofInt (-1)) (Int32.ofInt (-1))).bind (fun σ3 => some σ3))
set_option maxRecDepth 20000 in
theorem t_c_settle_103 {S : Nat × (Nat → Int32)} {d : Nat} {y : qC × Int64 × Nat} {i1 : Int32} {σ : qC} {p : qC} (hd : 9 ≤ d) (h : c_settle_103 i1 σ = some p) : qE S d jm_7_settle_103 (0, [(0, .ref 35), (1, .int i1)], [], (σ, y)) ((.inl none, (p, y))) := by
  have hd9 : 9 ≤ d := by omega
  unfold c_settle_103 at h
  refine qE.steps 5 hd9 (s' := (7, [(0, .ref 35), (1, .int i1)], [.int (Int32.ofInt 0), .int (Int32.ofInt 2), .int i1, .ref 40], (σ, y))) rfl ?_
  obtain ⟨σ1, e2, h⟩ := obind h
  refine qE.tab hd9 (qtab_put e2 rfl) rfl rfl rfl ?_
  refine qE.steps 6 hd9 (s' := (18, [(0, .ref 35), (1, .int i1)], [.int (Int32.ofInt (-1)), .int (Int32.ofInt (-1)), .int i1, .int (Int32.ofInt 2), .ref 42], (σ1, y))) rfl ?_
  obtain ⟨σ3, e4, h⟩ := obind h
  refine qE.tab hd9 (qtab_app e4 rfl) rfl rfl rfl ?_
  refine qE.steps 0 hd9 (s' := (21, [(0, .ref 35), (1, .int i1)], [.int (σ1.1 4202)], (σ3, y))) rfl ?_
  refine qE.steps 1 hd9 (s' := (22, [(0, .ref 35), (1, .int i1)], [], (σ3, y))) rfl ?_
  obtain rfl := Option.some.inj h
  exact qE.ret hd9 rfl rfl
