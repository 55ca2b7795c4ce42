/-! BY PROGRAM (wip/whole/gendc.py): each method as a function over the numbers -/
def c_doGoal_64 (σ : qC) : Option (Nat × qC) := (c_takeStep_65 σ).bind (fun p1 => if p1.1 = 0 then some (3, p1.2) else qlet (c_follower_66 (tat p1.2 52 4 (p1.2.1 5108) (Int32.ofInt 0)) p1.2) (fun x4 => if x4 = Int32.ofInt (-1) then qlet (upS p1.2 5108 (tat p1.2 52 4 (p1.2.1 5108) (Int32.ofInt 3))) (fun σ7 => if c_kind_67 (tat p1.2 52 4 (p1.2.1 5108) (Int32.ofInt 0)) σ7 = Int32.ofInt 33 then qlet (tshr σ7 54 (tat p1.2 52 4 (p1.2.1 5108) (Int32.ofInt 2))) (fun σ10 => some (1, σ10)) else if c_kind_67 (tat p1.2 52 4 (p1.2.1 5108) (Int32.ofInt 0)) σ7 = Int32.ofInt 60 then (c_doLess_71 (tat p1.2 52 4 (p1.2.1 5108) (Int32.ofInt 0)) (tat p1.2 52 4 (p1.2.1 5108) (Int32.ofInt 1)) σ7).bind (fun p13 => some (p13.1, p13.2)) else if c_kind_67 (tat p1.2 52 4 (p1.2.1 5108) (Int32.ofInt 0)) σ7 = Int32.ofInt 61 then (c_pushPair_69 (tat p1.2 52 4 (p1.2.1 5108) (Int32.ofInt 0)) (tat p1.2 52 4 (p1.2.1 5108) (Int32.ofInt 1)) (c_right_68 (tat p1.2 52 4 (p1.2.1 5108) (Int32.ofInt 0)) σ7) (tat p1.2 52 4 (p1.2.1 5108) (Int32.ofInt 1)) σ7).bind (fun p16 => some (4, p16)) else if c_kind_67 (tat p1.2 52 4 (p1.2.1 5108) (Int32.ofInt 0)) σ7 = Int32.ofInt 63 then (c_doSleep_74 (tat p1.2 52 4 (p1.2.1 5108) (Int32.ofInt 0)) (tat p1.2 52 4 (p1.2.1 5108) (Int32.ofInt 1)) σ7).bind (fun p19 => some (p19.1, p19.2)) else if c_kind_67 (tat p1.2 52 4 (p1.2.1 5108) (Int32.ofInt 0)) σ7 = Int32.ofInt 126 then (c_letWait_70 (tat p1.2 52 4 (p1.2.1 5108) (Int32.ofInt 0)) (tat p1.2 52 4 (p1.2.1 5108) (Int32.ofInt 1)) σ7).bind (fun p22 => some (5, p22)) else (c_doCall_79 (tat p1.2 52 4 (p1.2.1 5108) (Int32.ofInt 0)) (tat p1.2 52 4 (p1.2.1 5108) (Int32.ofInt 1)) σ7).bind (fun p24 => some (p24.1, p24.2))) else (tappO p1.2 52 4 x4 (tat p1.2 52 4 (p1.2.1 5108) (Int32.ofInt 1)) (tat p1.2 52 4 (p1.2.1 5108) (Int32.ofInt 2)) (tat p1.2 52 4 (p1.2.1 5108) (Int32.ofInt 3))).bind (fun σ26 => qlet (upS σ26 5108 (p1.2.1 5202)) (fun σ28 => if c_kind_67 (tat p1.2 52 4 (p1.2.1 5108) (Int32.ofInt 0)) σ28 = Int32.ofInt 33 then qlet (tshr σ28 54 (tat p1.2 52 4 (p1.2.1 5108) (Int32.ofInt 2))) (fun σ31 => some (1, σ31)) else if c_kind_67 (tat p1.2 52 4 (p1.2.1 5108) (Int32.ofInt 0)) σ28 = Int32.ofInt 60 then (c_doLess_71 (tat p1.2 52 4 (p1.2.1 5108) (Int32.ofInt 0)) (tat p1.2 52 4 (p1.2.1 5108) (Int32.ofInt 1)) σ28).bind (fun p34 => some (p34.1, p34.2)) else if c_kind_67 (tat p1.2 52 4 (p1.2.1 5108) (Int32.ofInt 0)) σ28 = Int32.ofInt 61 then (c_pushPair_69 (tat p1.2 52 4 (p1.2.1 5108) (Int32.ofInt 0)) (tat p1.2 52 4 (p1.2.1 5108) (Int32.ofInt 1)) (c_right_68 (tat p1.2 52 4 (p1.2.1 5108) (Int32.ofInt 0)) σ28) (tat p1.2 52 4 (p1.2.1 5108) (Int32.ofInt 1)) σ28).bind (fun p37 => some (4, p37)) else if c_kind_67 (tat p1.2 52 4 (p1.2.1 5108) (Int32.ofInt 0)) σ28 = Int32.ofInt 63 then (c_doSleep_74 (tat p1.2 52 4 (p1.2.1 5108) (Int32.ofInt 0)) (tat p1.2 52 4 (p1.2.1 5108) (Int32.ofInt 1)) σ28).bind (fun p40 => some (p40.1, p40.2)) else if c_kind_67 (tat p1.2 52 4 (p1.2.1 5108) (Int32.ofInt 0)) σ28 = Int32.ofInt 126 then (c_letWait_70 (tat p1.2 52 4 (p1.2.1 5108) (Int32.ofInt 0)) (tat p1.2 52 4 (p1.2.1 5108) (Int32.ofInt 1)) σ28).bind (fun p43 => some (5, p43)) else (c_doCall_79 (tat p1.2 52 4 (p1.2.1 5108) (Int32.ofInt 0)) (tat p1.2 52 4 (p1.2.1 5108) (Int32.ofInt 1)) σ28).bind (fun p45 => some (p45.1, p45.2))))))
theorem t_c_doGoal_64 {S : Nat × (Nat → Int32)} {d : Nat} {y : qC × Int64 × Nat} {σ : qC} {p : (Nat × qC)} (hd : 14 ≤ d) (h : c_doGoal_64 σ = some p) : qE S d jm_6_doGoal_64 (0, [(0, .ref 51)], [], (σ, y)) ((.inl (some (.ref p.1)), (p.2, y))) := by
  have hd9 : 9 ≤ d := by omega
  unfold c_doGoal_64 at h
  refine qE.steps 2 hd9 (s' := (4, [(0, .ref 51)], [.ref 44], (σ, y))) rfl ?_
  obtain ⟨p1, e2, h⟩ := obind h
  refine qE.call hd9 rfl rfl rfl rfl (t_c_takeStep_65 (by omega) e2) ?_
  refine qE.steps 0 hd9 (s' := (7, [(0, .ref 51)], [.int p1.1], (p1.2, y))) rfl ?_
  refine qE.steps 1 hd9 (s' := (if ¬ (p1.1 = 0) then 14 else 10, [(0, .ref 51)], [], (p1.2, y))) rfl ?_
  by_cases c3 : p1.1 = 0
  · rw [if_pos c3] at h
    rw [if_neg (not_not_intro c3)]
    refine qE.steps 1 hd9 (s' := (13, [(0, .ref 51)], [.ref 3], (p1.2, y))) rfl ?_
    obtain rfl := Option.some.inj h
    exact qE.ret hd9 rfl rfl
  · rw [if_neg c3] at h
    rw [if_pos c3]
    refine qE.steps 31 hd9 (s' := (72, [(4, .int (tat p1.2 52 4 (p1.2.1 5108) (Int32.ofInt 3))), (3, .int (tat p1.2 52 4 (p1.2.1 5108) (Int32.ofInt 2))), (2, .int (tat p1.2 52 4 (p1.2.1 5108) (Int32.ofInt 1))), (1, .int (tat p1.2 52 4 (p1.2.1 5108) (Int32.ofInt 0))), (0, .ref 51)], [.int (tat p1.2 52 4 (p1.2.1 5108) (Int32.ofInt 0)), .ref 27], (p1.2, y))) rfl ?_
    refine qE.call hd9 rfl rfl rfl rfl (t_c_follower_66 (by omega) rfl) ?_
    refine qE.steps 0 hd9 (s' := (75, [(4, .int (tat p1.2 52 4 (p1.2.1 5108) (Int32.ofInt 3))), (3, .int (tat p1.2 52 4 (p1.2.1 5108) (Int32.ofInt 2))), (2, .int (tat p1.2 52 4 (p1.2.1 5108) (Int32.ofInt 1))), (1, .int (tat p1.2 52 4 (p1.2.1 5108) (Int32.ofInt 0))), (0, .ref 51)], [.int (c_follower_66 (tat p1.2 52 4 (p1.2.1 5108) (Int32.ofInt 0)) p1.2)], (p1.2, y))) rfl ?_
    obtain ⟨x4, e5, h⟩ := qlet_ex h
    refine qE.steps 1 hd9 (s' := (77, [(5, .int x4), (4, .int (tat p1.2 52 4 (p1.2.1 5108) (Int32.ofInt 3))), (3, .int (tat p1.2 52 4 (p1.2.1 5108) (Int32.ofInt 2))), (2, .int (tat p1.2 52 4 (p1.2.1 5108) (Int32.ofInt 1))), (1, .int (tat p1.2 52 4 (p1.2.1 5108) (Int32.ofInt 0))), (0, .ref 51)], [], (p1.2, y))) (by subst e5; rfl) ?_
    refine qE.steps 4 hd9 (s' := (if ¬ (x4 = Int32.ofInt (-1)) then 89 else 84, [(5, .int x4), (4, .int (tat p1.2 52 4 (p1.2.1 5108) (Int32.ofInt 3))), (3, .int (tat p1.2 52 4 (p1.2.1 5108) (Int32.ofInt 2))), (2, .int (tat p1.2 52 4 (p1.2.1 5108) (Int32.ofInt 1))), (1, .int (tat p1.2 52 4 (p1.2.1 5108) (Int32.ofInt 0))), (0, .ref 51)], [.ref 51], (p1.2, y))) rfl ?_
    by_cases c6 : x4 = Int32.ofInt (-1)
    · rw [if_pos c6] at h
      rw [if_neg (not_not_intro c6)]
      obtain ⟨σ7, e8, h⟩ := qlet_ex h
      refine qE.steps 3 hd9 (s' := (105, [(5, .int x4), (4, .int (tat p1.2 52 4 (p1.2.1 5108) (Int32.ofInt 3))), (3, .int (tat p1.2 52 4 (p1.2.1 5108) (Int32.ofInt 2))), (2, .int (tat p1.2 52 4 (p1.2.1 5108) (Int32.ofInt 1))), (1, .int (tat p1.2 52 4 (p1.2.1 5108) (Int32.ofInt 0))), (0, .ref 51)], [], (σ7, y))) (by subst e8; rfl) ?_
      refine qE.steps 3 hd9 (s' := (110, [(5, .int x4), (4, .int (tat p1.2 52 4 (p1.2.1 5108) (Int32.ofInt 3))), (3, .int (tat p1.2 52 4 (p1.2.1 5108) (Int32.ofInt 2))), (2, .int (tat p1.2 52 4 (p1.2.1 5108) (Int32.ofInt 1))), (1, .int (tat p1.2 52 4 (p1.2.1 5108) (Int32.ofInt 0))), (0, .ref 51)], [.int (tat p1.2 52 4 (p1.2.1 5108) (Int32.ofInt 0)), .ref 27], (σ7, y))) rfl ?_
      refine qE.call hd9 rfl rfl rfl rfl (t_c_kind_67 (by omega) rfl) ?_
      refine qE.steps 0 hd9 (s' := (113, [(5, .int x4), (4, .int (tat p1.2 52 4 (p1.2.1 5108) (Int32.ofInt 3))), (3, .int (tat p1.2 52 4 (p1.2.1 5108) (Int32.ofInt 2))), (2, .int (tat p1.2 52 4 (p1.2.1 5108) (Int32.ofInt 1))), (1, .int (tat p1.2 52 4 (p1.2.1 5108) (Int32.ofInt 0))), (0, .ref 51)], [.int (c_kind_67 (tat p1.2 52 4 (p1.2.1 5108) (Int32.ofInt 0)) σ7)], (σ7, y))) rfl ?_
      by_cases c9 : c_kind_67 (tat p1.2 52 4 (p1.2.1 5108) (Int32.ofInt 0)) σ7 = Int32.ofInt 33
      · rw [if_pos c9] at h
        refine qE.jmp (pc' := 164) (st' := []) hd9 (by rw [c9]; rfl) rfl rfl rfl ?_
        obtain ⟨σ10, e11, h⟩ := qlet_ex h
        refine qE.steps 4 hd9 (s' := (172, [(5, .int x4), (4, .int (tat p1.2 52 4 (p1.2.1 5108) (Int32.ofInt 3))), (3, .int (tat p1.2 52 4 (p1.2.1 5108) (Int32.ofInt 2))), (2, .int (tat p1.2 52 4 (p1.2.1 5108) (Int32.ofInt 1))), (1, .int (tat p1.2 52 4 (p1.2.1 5108) (Int32.ofInt 0))), (0, .ref 51)], [], (σ10, y))) (by subst e11; rfl) ?_
        refine qE.steps 1 hd9 (s' := (175, [(5, .int x4), (4, .int (tat p1.2 52 4 (p1.2.1 5108) (Int32.ofInt 3))), (3, .int (tat p1.2 52 4 (p1.2.1 5108) (Int32.ofInt 2))), (2, .int (tat p1.2 52 4 (p1.2.1 5108) (Int32.ofInt 1))), (1, .int (tat p1.2 52 4 (p1.2.1 5108) (Int32.ofInt 0))), (0, .ref 51)], [.ref 1], (σ10, y))) rfl ?_
        obtain rfl := Option.some.inj h
        exact qE.ret hd9 rfl rfl
      rw [if_neg c9] at h
      by_cases c12 : c_kind_67 (tat p1.2 52 4 (p1.2.1 5108) (Int32.ofInt 0)) σ7 = Int32.ofInt 60
      · rw [if_pos c12] at h
        refine qE.jmp (pc' := 211) (st' := []) hd9 (by rw [c12]; rfl) rfl rfl rfl ?_
        refine qE.steps 3 hd9 (s' := (214, [(5, .int x4), (4, .int (tat p1.2 52 4 (p1.2.1 5108) (Int32.ofInt 3))), (3, .int (tat p1.2 52 4 (p1.2.1 5108) (Int32.ofInt 2))), (2, .int (tat p1.2 52 4 (p1.2.1 5108) (Int32.ofInt 1))), (1, .int (tat p1.2 52 4 (p1.2.1 5108) (Int32.ofInt 0))), (0, .ref 51)], [.int (tat p1.2 52 4 (p1.2.1 5108) (Int32.ofInt 1)), .int (tat p1.2 52 4 (p1.2.1 5108) (Int32.ofInt 0)), .ref 51], (σ7, y))) rfl ?_
        obtain ⟨p13, e14, h⟩ := obind h
        refine qE.call hd9 rfl rfl rfl rfl (t_c_doLess_71 (by omega) e14) ?_
        refine qE.steps 0 hd9 (s' := (217, [(5, .int x4), (4, .int (tat p1.2 52 4 (p1.2.1 5108) (Int32.ofInt 3))), (3, .int (tat p1.2 52 4 (p1.2.1 5108) (Int32.ofInt 2))), (2, .int (tat p1.2 52 4 (p1.2.1 5108) (Int32.ofInt 1))), (1, .int (tat p1.2 52 4 (p1.2.1 5108) (Int32.ofInt 0))), (0, .ref 51)], [.ref p13.1], (p13.2, y))) rfl ?_
        obtain rfl := Option.some.inj h
        exact qE.ret hd9 rfl rfl
      rw [if_neg c12] at h
      by_cases c15 : c_kind_67 (tat p1.2 52 4 (p1.2.1 5108) (Int32.ofInt 0)) σ7 = Int32.ofInt 61
      · rw [if_pos c15] at h
        refine qE.jmp (pc' := 176) (st' := []) hd9 (by rw [c15]; rfl) rfl rfl rfl ?_
        refine qE.steps 7 hd9 (s' := (187, [(5, .int x4), (4, .int (tat p1.2 52 4 (p1.2.1 5108) (Int32.ofInt 3))), (3, .int (tat p1.2 52 4 (p1.2.1 5108) (Int32.ofInt 2))), (2, .int (tat p1.2 52 4 (p1.2.1 5108) (Int32.ofInt 1))), (1, .int (tat p1.2 52 4 (p1.2.1 5108) (Int32.ofInt 0))), (0, .ref 51)], [.int (tat p1.2 52 4 (p1.2.1 5108) (Int32.ofInt 0)), .ref 27, .int (tat p1.2 52 4 (p1.2.1 5108) (Int32.ofInt 1)), .int (tat p1.2 52 4 (p1.2.1 5108) (Int32.ofInt 0)), .ref 44], (σ7, y))) rfl ?_
        refine qE.call hd9 rfl rfl rfl rfl (t_c_right_68 (by omega) rfl) ?_
        refine qE.steps 0 hd9 (s' := (190, [(5, .int x4), (4, .int (tat p1.2 52 4 (p1.2.1 5108) (Int32.ofInt 3))), (3, .int (tat p1.2 52 4 (p1.2.1 5108) (Int32.ofInt 2))), (2, .int (tat p1.2 52 4 (p1.2.1 5108) (Int32.ofInt 1))), (1, .int (tat p1.2 52 4 (p1.2.1 5108) (Int32.ofInt 0))), (0, .ref 51)], [.int (c_right_68 (tat p1.2 52 4 (p1.2.1 5108) (Int32.ofInt 0)) σ7), .int (tat p1.2 52 4 (p1.2.1 5108) (Int32.ofInt 1)), .int (tat p1.2 52 4 (p1.2.1 5108) (Int32.ofInt 0)), .ref 44], (σ7, y))) rfl ?_
        refine qE.steps 1 hd9 (s' := (191, [(5, .int x4), (4, .int (tat p1.2 52 4 (p1.2.1 5108) (Int32.ofInt 3))), (3, .int (tat p1.2 52 4 (p1.2.1 5108) (Int32.ofInt 2))), (2, .int (tat p1.2 52 4 (p1.2.1 5108) (Int32.ofInt 1))), (1, .int (tat p1.2 52 4 (p1.2.1 5108) (Int32.ofInt 0))), (0, .ref 51)], [.int (tat p1.2 52 4 (p1.2.1 5108) (Int32.ofInt 1)), .int (c_right_68 (tat p1.2 52 4 (p1.2.1 5108) (Int32.ofInt 0)) σ7), .int (tat p1.2 52 4 (p1.2.1 5108) (Int32.ofInt 1)), .int (tat p1.2 52 4 (p1.2.1 5108) (Int32.ofInt 0)), .ref 44], (σ7, y))) rfl ?_
        obtain ⟨p16, e17, h⟩ := obind h
        refine qE.call hd9 rfl rfl rfl rfl (t_c_pushPair_69 (by omega) e17) ?_
        refine qE.steps 0 hd9 (s' := (194, [(5, .int x4), (4, .int (tat p1.2 52 4 (p1.2.1 5108) (Int32.ofInt 3))), (3, .int (tat p1.2 52 4 (p1.2.1 5108) (Int32.ofInt 2))), (2, .int (tat p1.2 52 4 (p1.2.1 5108) (Int32.ofInt 1))), (1, .int (tat p1.2 52 4 (p1.2.1 5108) (Int32.ofInt 0))), (0, .ref 51)], [], (p16, y))) rfl ?_
        refine qE.steps 1 hd9 (s' := (197, [(5, .int x4), (4, .int (tat p1.2 52 4 (p1.2.1 5108) (Int32.ofInt 3))), (3, .int (tat p1.2 52 4 (p1.2.1 5108) (Int32.ofInt 2))), (2, .int (tat p1.2 52 4 (p1.2.1 5108) (Int32.ofInt 1))), (1, .int (tat p1.2 52 4 (p1.2.1 5108) (Int32.ofInt 0))), (0, .ref 51)], [.ref 4], (p16, y))) rfl ?_
        obtain rfl := Option.some.inj h
        exact qE.ret hd9 rfl rfl
      rw [if_neg c15] at h
      by_cases c18 : c_kind_67 (tat p1.2 52 4 (p1.2.1 5108) (Int32.ofInt 0)) σ7 = Int32.ofInt 63
      · rw [if_pos c18] at h
        refine qE.jmp (pc' := 218) (st' := []) hd9 (by rw [c18]; rfl) rfl rfl rfl ?_
        refine qE.steps 3 hd9 (s' := (221, [(5, .int x4), (4, .int (tat p1.2 52 4 (p1.2.1 5108) (Int32.ofInt 3))), (3, .int (tat p1.2 52 4 (p1.2.1 5108) (Int32.ofInt 2))), (2, .int (tat p1.2 52 4 (p1.2.1 5108) (Int32.ofInt 1))), (1, .int (tat p1.2 52 4 (p1.2.1 5108) (Int32.ofInt 0))), (0, .ref 51)], [.int (tat p1.2 52 4 (p1.2.1 5108) (Int32.ofInt 1)), .int (tat p1.2 52 4 (p1.2.1 5108) (Int32.ofInt 0)), .ref 51], (σ7, y))) rfl ?_
        obtain ⟨p19, e20, h⟩ := obind h
        refine qE.call hd9 rfl rfl rfl rfl (t_c_doSleep_74 (by omega) e20) ?_
        refine qE.steps 0 hd9 (s' := (224, [(5, .int x4), (4, .int (tat p1.2 52 4 (p1.2.1 5108) (Int32.ofInt 3))), (3, .int (tat p1.2 52 4 (p1.2.1 5108) (Int32.ofInt 2))), (2, .int (tat p1.2 52 4 (p1.2.1 5108) (Int32.ofInt 1))), (1, .int (tat p1.2 52 4 (p1.2.1 5108) (Int32.ofInt 0))), (0, .ref 51)], [.ref p19.1], (p19.2, y))) rfl ?_
        obtain rfl := Option.some.inj h
        exact qE.ret hd9 rfl rfl
      rw [if_neg c18] at h
      by_cases c21 : c_kind_67 (tat p1.2 52 4 (p1.2.1 5108) (Int32.ofInt 0)) σ7 = Int32.ofInt 126
      · rw [if_pos c21] at h
        refine qE.jmp (pc' := 198) (st' := []) hd9 (by rw [c21]; rfl) rfl rfl rfl ?_
        refine qE.steps 4 hd9 (s' := (204, [(5, .int x4), (4, .int (tat p1.2 52 4 (p1.2.1 5108) (Int32.ofInt 3))), (3, .int (tat p1.2 52 4 (p1.2.1 5108) (Int32.ofInt 2))), (2, .int (tat p1.2 52 4 (p1.2.1 5108) (Int32.ofInt 1))), (1, .int (tat p1.2 52 4 (p1.2.1 5108) (Int32.ofInt 0))), (0, .ref 51)], [.int (tat p1.2 52 4 (p1.2.1 5108) (Int32.ofInt 1)), .int (tat p1.2 52 4 (p1.2.1 5108) (Int32.ofInt 0)), .ref 35], (σ7, y))) rfl ?_
        obtain ⟨p22, e23, h⟩ := obind h
        refine qE.call hd9 rfl rfl rfl rfl (t_c_letWait_70 (by omega) e23) ?_
        refine qE.steps 0 hd9 (s' := (207, [(5, .int x4), (4, .int (tat p1.2 52 4 (p1.2.1 5108) (Int32.ofInt 3))), (3, .int (tat p1.2 52 4 (p1.2.1 5108) (Int32.ofInt 2))), (2, .int (tat p1.2 52 4 (p1.2.1 5108) (Int32.ofInt 1))), (1, .int (tat p1.2 52 4 (p1.2.1 5108) (Int32.ofInt 0))), (0, .ref 51)], [], (p22, y))) rfl ?_
        refine qE.steps 1 hd9 (s' := (210, [(5, .int x4), (4, .int (tat p1.2 52 4 (p1.2.1 5108) (Int32.ofInt 3))), (3, .int (tat p1.2 52 4 (p1.2.1 5108) (Int32.ofInt 2))), (2, .int (tat p1.2 52 4 (p1.2.1 5108) (Int32.ofInt 1))), (1, .int (tat p1.2 52 4 (p1.2.1 5108) (Int32.ofInt 0))), (0, .ref 51)], [.ref 5], (p22, y))) rfl ?_
        obtain rfl := Option.some.inj h
        exact qE.ret hd9 rfl rfl
      rw [if_neg c21] at h
      refine qE.jmp (pc' := 225) (st' := []) hd9 (jlw_def5 rfl rfl c9 c12 c15 c18 c21) rfl rfl rfl ?_
      refine qE.steps 3 hd9 (s' := (228, [(5, .int x4), (4, .int (tat p1.2 52 4 (p1.2.1 5108) (Int32.ofInt 3))), (3, .int (tat p1.2 52 4 (p1.2.1 5108) (Int32.ofInt 2))), (2, .int (tat p1.2 52 4 (p1.2.1 5108) (Int32.ofInt 1))), (1, .int (tat p1.2 52 4 (p1.2.1 5108) (Int32.ofInt 0))), (0, .ref 51)], [.int (tat p1.2 52 4 (p1.2.1 5108) (Int32.ofInt 1)), .int (tat p1.2 52 4 (p1.2.1 5108) (Int32.ofInt 0)), .ref 51], (σ7, y))) rfl ?_
      obtain ⟨p24, e25, h⟩ := obind h
      refine qE.call hd9 rfl rfl rfl rfl (t_c_doCall_79 (by omega) e25) ?_
      refine qE.steps 0 hd9 (s' := (231, [(5, .int x4), (4, .int (tat p1.2 52 4 (p1.2.1 5108) (Int32.ofInt 3))), (3, .int (tat p1.2 52 4 (p1.2.1 5108) (Int32.ofInt 2))), (2, .int (tat p1.2 52 4 (p1.2.1 5108) (Int32.ofInt 1))), (1, .int (tat p1.2 52 4 (p1.2.1 5108) (Int32.ofInt 0))), (0, .ref 51)], [.ref p24.1], (p24.2, y))) rfl ?_
      obtain rfl := Option.some.inj h
      exact qE.ret hd9 rfl rfl
    · rw [if_neg c6] at h
      rw [if_pos c6]
      refine qE.steps 6 hd9 (s' := (99, [(5, .int x4), (4, .int (tat p1.2 52 4 (p1.2.1 5108) (Int32.ofInt 3))), (3, .int (tat p1.2 52 4 (p1.2.1 5108) (Int32.ofInt 2))), (2, .int (tat p1.2 52 4 (p1.2.1 5108) (Int32.ofInt 1))), (1, .int (tat p1.2 52 4 (p1.2.1 5108) (Int32.ofInt 0))), (0, .ref 51)], [.int (tat p1.2 52 4 (p1.2.1 5108) (Int32.ofInt 3)), .int (tat p1.2 52 4 (p1.2.1 5108) (Int32.ofInt 2)), .int (tat p1.2 52 4 (p1.2.1 5108) (Int32.ofInt 1)), .int x4, .ref 52, .ref 51], (p1.2, y))) rfl ?_
      obtain ⟨σ26, e27, h⟩ := obind h
      refine qE.tab hd9 (qtab_app e27 rfl) rfl rfl rfl ?_
      refine qE.steps 0 hd9 (s' := (102, [(5, .int x4), (4, .int (tat p1.2 52 4 (p1.2.1 5108) (Int32.ofInt 3))), (3, .int (tat p1.2 52 4 (p1.2.1 5108) (Int32.ofInt 2))), (2, .int (tat p1.2 52 4 (p1.2.1 5108) (Int32.ofInt 1))), (1, .int (tat p1.2 52 4 (p1.2.1 5108) (Int32.ofInt 0))), (0, .ref 51)], [.int (p1.2.1 5202), .ref 51], (σ26, y))) rfl ?_
      obtain ⟨σ28, e29, h⟩ := qlet_ex h
      refine qE.steps 1 hd9 (s' := (105, [(5, .int x4), (4, .int (tat p1.2 52 4 (p1.2.1 5108) (Int32.ofInt 3))), (3, .int (tat p1.2 52 4 (p1.2.1 5108) (Int32.ofInt 2))), (2, .int (tat p1.2 52 4 (p1.2.1 5108) (Int32.ofInt 1))), (1, .int (tat p1.2 52 4 (p1.2.1 5108) (Int32.ofInt 0))), (0, .ref 51)], [], (σ28, y))) (by subst e29; rfl) ?_
      refine qE.steps 3 hd9 (s' := (110, [(5, .int x4), (4, .int (tat p1.2 52 4 (p1.2.1 5108) (Int32.ofInt 3))), (3, .int (tat p1.2 52 4 (p1.2.1 5108) (Int32.ofInt 2))), (2, .int (tat p1.2 52 4 (p1.2.1 5108) (Int32.ofInt 1))), (1, .int (tat p1.2 52 4 (p1.2.1 5108) (Int32.ofInt 0))), (0, .ref 51)], [.int (tat p1.2 52 4 (p1.2.1 5108) (Int32.ofInt 0)), .ref 27], (σ28, y))) rfl ?_
      refine qE.call hd9 rfl rfl rfl rfl (t_c_kind_67 (by omega) rfl) ?_
      refine qE.steps 0 hd9 (s' := (113, [(5, .int x4), (4, .int (tat p1.2 52 4 (p1.2.1 5108) (Int32.ofInt 3))), (3, .int (tat p1.2 52 4 (p1.2.1 5108) (Int32.ofInt 2))), (2, .int (tat p1.2 52 4 (p1.2.1 5108) (Int32.ofInt 1))), (1, .int (tat p1.2 52 4 (p1.2.1 5108) (Int32.ofInt 0))), (0, .ref 51)], [.int (c_kind_67 (tat p1.2 52 4 (p1.2.1 5108) (Int32.ofInt 0)) σ28)], (σ28, y))) rfl ?_
      by_cases c30 : c_kind_67 (tat p1.2 52 4 (p1.2.1 5108) (Int32.ofInt 0)) σ28 = Int32.ofInt 33
      · rw [if_pos c30] at h
        refine qE.jmp (pc' := 164) (st' := []) hd9 (by rw [c30]; rfl) rfl rfl rfl ?_
        obtain ⟨σ31, e32, h⟩ := qlet_ex h
        refine qE.steps 4 hd9 (s' := (172, [(5, .int x4), (4, .int (tat p1.2 52 4 (p1.2.1 5108) (Int32.ofInt 3))), (3, .int (tat p1.2 52 4 (p1.2.1 5108) (Int32.ofInt 2))), (2, .int (tat p1.2 52 4 (p1.2.1 5108) (Int32.ofInt 1))), (1, .int (tat p1.2 52 4 (p1.2.1 5108) (Int32.ofInt 0))), (0, .ref 51)], [], (σ31, y))) (by subst e32; rfl) ?_
        refine qE.steps 1 hd9 (s' := (175, [(5, .int x4), (4, .int (tat p1.2 52 4 (p1.2.1 5108) (Int32.ofInt 3))), (3, .int (tat p1.2 52 4 (p1.2.1 5108) (Int32.ofInt 2))), (2, .int (tat p1.2 52 4 (p1.2.1 5108) (Int32.ofInt 1))), (1, .int (tat p1.2 52 4 (p1.2.1 5108) (Int32.ofInt 0))), (0, .ref 51)], [.ref 1], (σ31, y))) rfl ?_
        obtain rfl := Option.some.inj h
        exact qE.ret hd9 rfl rfl
      rw [if_neg c30] at h
      by_cases c33 : c_kind_67 (tat p1.2 52 4 (p1.2.1 5108) (Int32.ofInt 0)) σ28 = Int32.ofInt 60
      · rw [if_pos c33] at h
        refine qE.jmp (pc' := 211) (st' := []) hd9 (by rw [c33]; rfl) rfl rfl rfl ?_
        refine qE.steps 3 hd9 (s' := (214, [(5, .int x4), (4, .int (tat p1.2 52 4 (p1.2.1 5108) (Int32.ofInt 3))), (3, .int (tat p1.2 52 4 (p1.2.1 5108) (Int32.ofInt 2))), (2, .int (tat p1.2 52 4 (p1.2.1 5108) (Int32.ofInt 1))), (1, .int (tat p1.2 52 4 (p1.2.1 5108) (Int32.ofInt 0))), (0, .ref 51)], [.int (tat p1.2 52 4 (p1.2.1 5108) (Int32.ofInt 1)), .int (tat p1.2 52 4 (p1.2.1 5108) (Int32.ofInt 0)), .ref 51], (σ28, y))) rfl ?_
        obtain ⟨p34, e35, h⟩ := obind h
        refine qE.call hd9 rfl rfl rfl rfl (t_c_doLess_71 (by omega) e35) ?_
        refine qE.steps 0 hd9 (s' := (217, [(5, .int x4), (4, .int (tat p1.2 52 4 (p1.2.1 5108) (Int32.ofInt 3))), (3, .int (tat p1.2 52 4 (p1.2.1 5108) (Int32.ofInt 2))), (2, .int (tat p1.2 52 4 (p1.2.1 5108) (Int32.ofInt 1))), (1, .int (tat p1.2 52 4 (p1.2.1 5108) (Int32.ofInt 0))), (0, .ref 51)], [.ref p34.1], (p34.2, y))) rfl ?_
        obtain rfl := Option.some.inj h
        exact qE.ret hd9 rfl rfl
      rw [if_neg c33] at h
      by_cases c36 : c_kind_67 (tat p1.2 52 4 (p1.2.1 5108) (Int32.ofInt 0)) σ28 = Int32.ofInt 61
      · rw [if_pos c36] at h
        refine qE.jmp (pc' := 176) (st' := []) hd9 (by rw [c36]; rfl) rfl rfl rfl ?_
        refine qE.steps 7 hd9 (s' := (187, [(5, .int x4), (4, .int (tat p1.2 52 4 (p1.2.1 5108) (Int32.ofInt 3))), (3, .int (tat p1.2 52 4 (p1.2.1 5108) (Int32.ofInt 2))), (2, .int (tat p1.2 52 4 (p1.2.1 5108) (Int32.ofInt 1))), (1, .int (tat p1.2 52 4 (p1.2.1 5108) (Int32.ofInt 0))), (0, .ref 51)], [.int (tat p1.2 52 4 (p1.2.1 5108) (Int32.ofInt 0)), .ref 27, .int (tat p1.2 52 4 (p1.2.1 5108) (Int32.ofInt 1)), .int (tat p1.2 52 4 (p1.2.1 5108) (Int32.ofInt 0)), .ref 44], (σ28, y))) rfl ?_
        refine qE.call hd9 rfl rfl rfl rfl (t_c_right_68 (by omega) rfl) ?_
        refine qE.steps 0 hd9 (s' := (190, [(5, .int x4), (4, .int (tat p1.2 52 4 (p1.2.1 5108) (Int32.ofInt 3))), (3, .int (tat p1.2 52 4 (p1.2.1 5108) (Int32.ofInt 2))), (2, .int (tat p1.2 52 4 (p1.2.1 5108) (Int32.ofInt 1))), (1, .int (tat p1.2 52 4 (p1.2.1 5108) (Int32.ofInt 0))), (0, .ref 51)], [.int (c_right_68 (tat p1.2 52 4 (p1.2.1 5108) (Int32.ofInt 0)) σ28), .int (tat p1.2 52 4 (p1.2.1 5108) (Int32.ofInt 1)), .int (tat p1.2 52 4 (p1.2.1 5108) (Int32.ofInt 0)), .ref 44], (σ28, y))) rfl ?_
        refine qE.steps 1 hd9 (s' := (191, [(5, .int x4), (4, .int (tat p1.2 52 4 (p1.2.1 5108) (Int32.ofInt 3))), (3, .int (tat p1.2 52 4 (p1.2.1 5108) (Int32.ofInt 2))), (2, .int (tat p1.2 52 4 (p1.2.1 5108) (Int32.ofInt 1))), (1, .int (tat p1.2 52 4 (p1.2.1 5108) (Int32.ofInt 0))), (0, .ref 51)], [.int (tat p1.2 52 4 (p1.2.1 5108) (Int32.ofInt 1)), .int (c_right_68 (tat p1.2 52 4 (p1.2.1 5108) (Int32.ofInt 0)) σ28), .int (tat p1.2 52 4 (p1.2.1 5108) (Int32.ofInt 1)), .int (tat p1.2 52 4 (p1.2.1 5108) (Int32.ofInt 0)), .ref 44], (σ28, y))) rfl ?_
        obtain ⟨p37, e38, h⟩ := obind h
        refine qE.call hd9 rfl rfl rfl rfl (t_c_pushPair_69 (by omega) e38) ?_
        refine qE.steps 0 hd9 (s' := (194, [(5, .int x4), (4, .int (tat p1.2 52 4 (p1.2.1 5108) (Int32.ofInt 3))), (3, .int (tat p1.2 52 4 (p1.2.1 5108) (Int32.ofInt 2))), (2, .int (tat p1.2 52 4 (p1.2.1 5108) (Int32.ofInt 1))), (1, .int (tat p1.2 52 4 (p1.2.1 5108) (Int32.ofInt 0))), (0, .ref 51)], [], (p37, y))) rfl ?_
        refine qE.steps 1 hd9 (s' := (197, [(5, .int x4), (4, .int (tat p1.2 52 4 (p1.2.1 5108) (Int32.ofInt 3))), (3, .int (tat p1.2 52 4 (p1.2.1 5108) (Int32.ofInt 2))), (2, .int (tat p1.2 52 4 (p1.2.1 5108) (Int32.ofInt 1))), (1, .int (tat p1.2 52 4 (p1.2.1 5108) (Int32.ofInt 0))), (0, .ref 51)], [.ref 4], (p37, y))) rfl ?_
        obtain rfl := Option.some.inj h
        exact qE.ret hd9 rfl rfl
      rw [if_neg c36] at h
      by_cases c39 : c_kind_67 (tat p1.2 52 4 (p1.2.1 5108) (Int32.ofInt 0)) σ28 = Int32.ofInt 63
      · rw [if_pos c39] at h
        refine qE.jmp (pc' := 218) (st' := []) hd9 (by rw [c39]; rfl) rfl rfl rfl ?_
        refine qE.steps 3 hd9 (s' := (221, [(5, .int x4), (4, .int (tat p1.2 52 4 (p1.2.1 5108) (Int32.ofInt 3))), (3, .int (tat p1.2 52 4 (p1.2.1 5108) (Int32.ofInt 2))), (2, .int (tat p1.2 52 4 (p1.2.1 5108) (Int32.ofInt 1))), (1, .int (tat p1.2 52 4 (p1.2.1 5108) (Int32.ofInt 0))), (0, .ref 51)], [.int (tat p1.2 52 4 (p1.2.1 5108) (Int32.ofInt 1)), .int (tat p1.2 52 4 (p1.2.1 5108) (Int32.ofInt 0)), .ref 51], (σ28, y))) rfl ?_
        obtain ⟨p40, e41, h⟩ := obind h
        refine qE.call hd9 rfl rfl rfl rfl (t_c_doSleep_74 (by omega) e41) ?_
        refine qE.steps 0 hd9 (s' := (224, [(5, .int x4), (4, .int (tat p1.2 52 4 (p1.2.1 5108) (Int32.ofInt 3))), (3, .int (tat p1.2 52 4 (p1.2.1 5108) (Int32.ofInt 2))), (2, .int (tat p1.2 52 4 (p1.2.1 5108) (Int32.ofInt 1))), (1, .int (tat p1.2 52 4 (p1.2.1 5108) (Int32.ofInt 0))), (0, .ref 51)], [.ref p40.1], (p40.2, y))) rfl ?_
        obtain rfl := Option.some.inj h
        exact qE.ret hd9 rfl rfl
      rw [if_neg c39] at h
      by_cases c42 : c_kind_67 (tat p1.2 52 4 (p1.2.1 5108) (Int32.ofInt 0)) σ28 = Int32.ofInt 126
      · rw [if_pos c42] at h
        refine qE.jmp (pc' := 198) (st' := []) hd9 (by rw [c42]; rfl) rfl rfl rfl ?_
        refine qE.steps 4 hd9 (s' := (204, [(5, .int x4), (4, .int (tat p1.2 52 4 (p1.2.1 5108) (Int32.ofInt 3))), (3, .int (tat p1.2 52 4 (p1.2.1 5108) (Int32.ofInt 2))), (2, .int (tat p1.2 52 4 (p1.2.1 5108) (Int32.ofInt 1))), (1, .int (tat p1.2 52 4 (p1.2.1 5108) (Int32.ofInt 0))), (0, .ref 51)], [.int (tat p1.2 52 4 (p1.2.1 5108) (Int32.ofInt 1)), .int (tat p1.2 52 4 (p1.2.1 5108) (Int32.ofInt 0)), .ref 35], (σ28, y))) rfl ?_
        obtain ⟨p43, e44, h⟩ := obind h
        refine qE.call hd9 rfl rfl rfl rfl (t_c_letWait_70 (by omega) e44) ?_
        refine qE.steps 0 hd9 (s' := (207, [(5, .int x4), (4, .int (tat p1.2 52 4 (p1.2.1 5108) (Int32.ofInt 3))), (3, .int (tat p1.2 52 4 (p1.2.1 5108) (Int32.ofInt 2))), (2, .int (tat p1.2 52 4 (p1.2.1 5108) (Int32.ofInt 1))), (1, .int (tat p1.2 52 4 (p1.2.1 5108) (Int32.ofInt 0))), (0, .ref 51)], [], (p43, y))) rfl ?_
        refine qE.steps 1 hd9 (s' := (210, [(5, .int x4), (4, .int (tat p1.2 52 4 (p1.2.1 5108) (Int32.ofInt 3))), (3, .int (tat p1.2 52 4 (p1.2.1 5108) (Int32.ofInt 2))), (2, .int (tat p1.2 52 4 (p1.2.1 5108) (Int32.ofInt 1))), (1, .int (tat p1.2 52 4 (p1.2.1 5108) (Int32.ofInt 0))), (0, .ref 51)], [.ref 5], (p43, y))) rfl ?_
        obtain rfl := Option.some.inj h
        exact qE.ret hd9 rfl rfl
      rw [if_neg c42] at h
      refine qE.jmp (pc' := 225) (st' := []) hd9 (jlw_def5 rfl rfl c30 c33 c36 c39 c42) rfl rfl rfl ?_
      refine qE.steps 3 hd9 (s' := (228, [(5, .int x4), (4, .int (tat p1.2 52 4 (p1.2.1 5108) (Int32.ofInt 3))), (3, .int (tat p1.2 52 4 (p1.2.1 5108) (Int32.ofInt 2))), (2, .int (tat p1.2 52 4 (p1.2.1 5108) (Int32.ofInt 1))), (1, .int (tat p1.2 52 4 (p1.2.1 5108) (Int32.ofInt 0))), (0, .ref 51)], [.int (tat p1.2 52 4 (p1.2.1 5108) (Int32.ofInt 1)), .int (tat p1.2 52 4 (p1.2.1 5108) (Int32.ofInt 0)), .ref 51], (σ28, y))) rfl ?_
      obtain ⟨p45, e46, h⟩ := obind h
      refine qE.call hd9 rfl rfl rfl rfl (t_c_doCall_79 (by omega) e46) ?_
      refine qE.steps 0 hd9 (s' := (231, [(5, .int x4), (4, .int (tat p1.2 52 4 (p1.2.1 5108) (Int32.ofInt 3))), (3, .int (tat p1.2 52 4 (p1.2.1 5108) (Int32.ofInt 2))), (2, .int (tat p1.2 52 4 (p1.2.1 5108) (Int32.ofInt 1))), (1, .int (tat p1.2 52 4 (p1.2.1 5108) (Int32.ofInt 0))), (0, .ref 51)], [.ref p45.1], (p45.2, y))) rfl ?_
      obtain rfl := Option.some.inj h
      exact qE.ret hd9 rfl rfl
def c_find_72_49_l34 : Nat → Int32 → Int32 → qC → Option qC
  | 0, _, _, _ => none
  | n + 1, i4, i5, σ => if i5 < 0 then some σ else if i4 = Int32.ofInt (-1) then some σ else if tat σ 36 4 ((σ.1 4901) + i4) (Int32.ofInt 0) = Int32.ofInt (-1) then qlet (upS σ 4902 ((σ.1 4901) + i4)) (fun σ4 => some σ4) else qlet (upS σ 4900 (tat σ 36 4 ((σ.1 4901) + i4) (Int32.ofInt 0))) (fun σ6 => qlet (upS σ6 4901 (tat σ6 36 4 ((σ.1 4901) + i4) (Int32.ofInt 1))) (fun σ8 => qlet (c_rank_73 (tat σ 36 4 ((σ.1 4901) + i4) (Int32.ofInt 0)) σ8) (fun x10 => (c_find_72_49_l34 n) x10 (i5 + Int32.ofInt (-1)) σ8)))
def c_find_72_49 (i1 : Int32) (i2 : Int32) (σ : qC) : Option qC := qlet (upS σ 4900 i1) (fun σ1 => qlet (upS σ1 4901 i2) (fun σ3 => qlet (upS σ3 4902 (Int32.ofInt (-1))) (fun σ5 => c_find_72_49_l34 qF (c_rank_73 i1 σ5) (σ5.1 3602) σ5)))
theorem t_c_find_72_49_l34 {S : Nat × (Nat → Int32)} {d : Nat} {y : qC × Int64 × Nat} (hd : 10 ≤ d) : ∀ (n : Nat) {i4 : Int32} {i5 : Int32} {σ : qC} {p : qC}, c_find_72_49_l34 n i4 i5 σ = some p → qE S d jm_7_find_72 (34, [(0, .ref 35), (3, .ref 49), (4, .int i4), (5, .int i5)], [], (σ, y)) ((.inl none, (p, y))) := by
  have hd9 : 9 ≤ d := by omega
  intro n
  induction n with
  | zero =>
    intros
    rename_i h
    unfold c_find_72_49_l34 at h
    cases h
  | succ n ih =>
    intro i4 i5 σ p h
    unfold c_find_72_49_l34 at h
    refine qE.steps 2 hd9 (s' := (if i5 < 0 then 116 else 39, [(0, .ref 35), (3, .ref 49), (4, .int i4), (5, .int i5)], [], (σ, y))) rfl ?_
    by_cases c1 : i5 < 0
    · rw [if_pos c1] at h
      rw [if_pos c1]
      obtain rfl := Option.some.inj h
      exact qE.ret hd9 rfl rfl
    · rw [if_neg c1] at h
      rw [if_neg c1]
      refine qE.steps 3 hd9 (s' := (if i4 = Int32.ofInt (-1) then 116 else 45, [(0, .ref 35), (3, .ref 49), (4, .int i4), (5, .int i5)], [], (σ, y))) rfl ?_
      by_cases c2 : i4 = Int32.ofInt (-1)
      · rw [if_pos c2] at h
        rw [if_pos c2]
        obtain rfl := Option.some.inj h
        exact qE.ret hd9 rfl rfl
      · rw [if_neg c2] at h
        rw [if_neg c2]
        refine qE.steps 14 hd9 (s' := (if ¬ (tat σ 36 4 ((σ.1 4901) + i4) (Int32.ofInt 0) = Int32.ofInt (-1)) then 79 else 72, [(7, .int (tat σ 36 4 ((σ.1 4901) + i4) (Int32.ofInt 0))), (6, .int ((σ.1 4901) + i4)), (0, .ref 35), (3, .ref 49), (4, .int i4), (5, .int i5)], [], (σ, y))) rfl ?_
        by_cases c3 : tat σ 36 4 ((σ.1 4901) + i4) (Int32.ofInt 0) = Int32.ofInt (-1)
        · rw [if_pos c3] at h
          rw [if_neg (not_not_intro c3)]
          obtain ⟨σ4, e5, h⟩ := qlet_ex h
          refine qE.steps 3 hd9 (s' := (78, [(7, .int (tat σ 36 4 ((σ.1 4901) + i4) (Int32.ofInt 0))), (6, .int ((σ.1 4901) + i4)), (0, .ref 35), (3, .ref 49), (4, .int i4), (5, .int i5)], [], (σ4, y))) (by subst e5; rfl) ?_
          obtain rfl := Option.some.inj h
          exact qE.ret hd9 rfl rfl
        · rw [if_neg c3] at h
          rw [if_pos c3]
          obtain ⟨σ6, e7, h⟩ := qlet_ex h
          refine qE.steps 3 hd9 (s' := (85, [(7, .int (tat σ 36 4 ((σ.1 4901) + i4) (Int32.ofInt 0))), (6, .int ((σ.1 4901) + i4)), (0, .ref 35), (3, .ref 49), (4, .int i4), (5, .int i5)], [], (σ6, y))) (by subst e7; rfl) ?_
          obtain ⟨σ8, e9, h⟩ := qlet_ex h
          refine qE.steps 7 hd9 (s' := (99, [(7, .int (tat σ 36 4 ((σ.1 4901) + i4) (Int32.ofInt 0))), (6, .int ((σ.1 4901) + i4)), (0, .ref 35), (3, .ref 49), (4, .int i4), (5, .int i5)], [], (σ8, y))) (by subst e9; rfl) ?_
          refine qE.steps 3 hd9 (s' := (105, [(7, .int (tat σ 36 4 ((σ.1 4901) + i4) (Int32.ofInt 0))), (6, .int ((σ.1 4901) + i4)), (0, .ref 35), (3, .ref 49), (4, .int i4), (5, .int i5)], [.int (tat σ 36 4 ((σ.1 4901) + i4) (Int32.ofInt 0)), .ref 27], (σ8, y))) rfl ?_
          refine qE.call hd9 rfl rfl rfl rfl (t_c_rank_73 (by omega) rfl) ?_
          refine qE.steps 0 hd9 (s' := (108, [(7, .int (tat σ 36 4 ((σ.1 4901) + i4) (Int32.ofInt 0))), (6, .int ((σ.1 4901) + i4)), (0, .ref 35), (3, .ref 49), (4, .int i4), (5, .int i5)], [.int (c_rank_73 (tat σ 36 4 ((σ.1 4901) + i4) (Int32.ofInt 0)) σ8)], (σ8, y))) rfl ?_
          obtain ⟨x10, e11, h⟩ := qlet_ex h
          refine qE.steps 1 hd9 (s' := (110, [(4, .int x10), (7, .int (tat σ 36 4 ((σ.1 4901) + i4) (Int32.ofInt 0))), (6, .int ((σ.1 4901) + i4)), (0, .ref 35), (3, .ref 49), (5, .int i5)], [], (σ8, y))) (by subst e11; rfl) ?_
          refine qE.steps 2 hd9 (s' := (34, [(5, .int (i5 + Int32.ofInt (-1))), (4, .int x10), (7, .int (tat σ 36 4 ((σ.1 4901) + i4) (Int32.ofInt 0))), (6, .int ((σ.1 4901) + i4)), (0, .ref 35), (3, .ref 49)], [], (σ8, y))) rfl ?_
          exact qE.wk (ih h) ⟨rfl, rfl, rfl, rfl, trivial⟩ rfl
theorem t_c_find_72_49 {S : Nat × (Nat → Int32)} {d : Nat} {y : qC × Int64 × Nat} {i1 : Int32} {i2 : Int32} {σ : qC} {p : qC} (hd : 10 ≤ d) (h : c_find_72_49 i1 i2 σ = some p) : qE S d jm_7_find_72 (0, [(0, .ref 35), (1, .int i1), (2, .int i2), (3, .ref 49)], [], (σ, y)) ((.inl none, (p, y))) := by
  have hd9 : 9 ≤ d := by omega
  unfold c_find_72_49 at h
  obtain ⟨σ1, e2, h⟩ := qlet_ex h
  refine qE.steps 3 hd9 (s' := (5, [(0, .ref 35), (1, .int i1), (2, .int i2), (3, .ref 49)], [], (σ1, y))) (by subst e2; rfl) ?_
  obtain ⟨σ3, e4, h⟩ := qlet_ex h
  refine qE.steps 3 hd9 (s' := (10, [(0, .ref 35), (1, .int i1), (2, .int i2), (3, .ref 49)], [], (σ3, y))) (by subst e4; rfl) ?_
  obtain ⟨σ5, e6, h⟩ := qlet_ex h
  refine qE.steps 3 hd9 (s' := (15, [(0, .ref 35), (1, .int i1), (2, .int i2), (3, .ref 49)], [], (σ5, y))) (by subst e6; rfl) ?_
  refine qE.steps 3 hd9 (s' := (20, [(0, .ref 35), (1, .int i1), (2, .int i2), (3, .ref 49)], [.int i1, .ref 27], (σ5, y))) rfl ?_
  refine qE.call hd9 rfl rfl rfl rfl (t_c_rank_73 (by omega) rfl) ?_
  refine qE.steps 0 hd9 (s' := (23, [(0, .ref 35), (1, .int i1), (2, .int i2), (3, .ref 49)], [.int (c_rank_73 i1 σ5)], (σ5, y))) rfl ?_
  refine qE.steps 5 hd9 (s' := (34, [(5, .int (σ5.1 3602)), (4, .int (c_rank_73 i1 σ5)), (0, .ref 35), (1, .int i1), (2, .int i2), (3, .ref 49)], [], (σ5, y))) rfl ?_
  exact qE.wk (t_c_find_72_49_l34 hd qF h) ⟨rfl, rfl, rfl, rfl, trivial⟩ rfl
def c_find_72_50_l34 : Nat → Int32 → Int32 → qC → Option qC
  | 0, _, _, _ => none
  | n + 1, i4, i5, σ => if i5 < 0 then some σ else if i4 = Int32.ofInt (-1) then some σ else if tat σ 36 4 ((σ.1 5001) + i4) (Int32.ofInt 0) = Int32.ofInt (-1) then qlet (upS σ 5002 ((σ.1 5001) + i4)) (fun σ4 => some σ4) else qlet (upS σ 5000 (tat σ 36 4 ((σ.1 5001) + i4) (Int32.ofInt 0))) (fun σ6 => qlet (upS σ6 5001 (tat σ6 36 4 ((σ.1 5001) + i4) (Int32.ofInt 1))) (fun σ8 => qlet (c_rank_73 (tat σ 36 4 ((σ.1 5001) + i4) (Int32.ofInt 0)) σ8) (fun x10 => (c_find_72_50_l34 n) x10 (i5 + Int32.ofInt (-1)) σ8)))
def c_find_72_50 (i1 : Int32) (i2 : Int32) (σ : qC) : Option qC := qlet (upS σ 5000 i1) (fun σ1 => qlet (upS σ1 5001 i2) (fun σ3 => qlet (upS σ3 5002 (Int32.ofInt (-1))) (fun σ5 => c_find_72_50_l34 qF (c_rank_73 i1 σ5) (σ5.1 3602) σ5)))
theorem t_c_find_72_50_l34 {S : Nat × (Nat → Int32)} {d : Nat} {y : qC × Int64 × Nat} (hd : 10 ≤ d) : ∀ (n : Nat) {i4 : Int32} {i5 : Int32} {σ : qC} {p : qC}, c_find_72_50_l34 n i4 i5 σ = some p → qE S d jm_7_find_72 (34, [(0, .ref 35), (3, .ref 50), (4, .int i4), (5, .int i5)], [], (σ, y)) ((.inl none, (p, y))) := by
  have hd9 : 9 ≤ d := by omega
  intro n
  induction n with
  | zero =>
    intros
    rename_i h
    unfold c_find_72_50_l34 at h
    cases h
  | succ n ih =>
    intro i4 i5 σ p h
    unfold c_find_72_50_l34 at h
    refine qE.steps 2 hd9 (s' := (if i5 < 0 then 116 else 39, [(0, .ref 35), (3, .ref 50), (4, .int i4), (5, .int i5)], [], (σ, y))) rfl ?_
    by_cases c1 : i5 < 0
    · rw [if_pos c1] at h
      rw [if_pos c1]
      obtain rfl := Option.some.inj h
      exact qE.ret hd9 rfl rfl
    · rw [if_neg c1] at h
      rw [if_neg c1]
      refine qE.steps 3 hd9 (s' := (if i4 = Int32.ofInt (-1) then 116 else 45, [(0, .ref 35), (3, .ref 50), (4, .int i4), (5, .int i5)], [], (σ, y))) rfl ?_
      by_cases c2 : i4 = Int32.ofInt (-1)
      · rw [if_pos c2] at h
        rw [if_pos c2]
        obtain rfl := Option.some.inj h
        exact qE.ret hd9 rfl rfl
      · rw [if_neg c2] at h
        rw [if_neg c2]
        refine qE.steps 14 hd9 (s' := (if ¬ (tat σ 36 4 ((σ.1 5001) + i4) (Int32.ofInt 0) = Int32.ofInt (-1)) then 79 else 72, [(7, .int (tat σ 36 4 ((σ.1 5001) + i4) (Int32.ofInt 0))), (6, .int ((σ.1 5001) + i4)), (0, .ref 35), (3, .ref 50), (4, .int i4), (5, .int i5)], [], (σ, y))) rfl ?_
        by_cases c3 : tat σ 36 4 ((σ.1 5001) + i4) (Int32.ofInt 0) = Int32.ofInt (-1)
        · rw [if_pos c3] at h
          rw [if_neg (not_not_intro c3)]
          obtain ⟨σ4, e5, h⟩ := qlet_ex h
          refine qE.steps 3 hd9 (s' := (78, [(7, .int (tat σ 36 4 ((σ.1 5001) + i4) (Int32.ofInt 0))), (6, .int ((σ.1 5001) + i4)), (0, .ref 35), (3, .ref 50), (4, .int i4), (5, .int i5)], [], (σ4, y))) (by subst e5; rfl) ?_
          obtain rfl := Option.some.inj h
          exact qE.ret hd9 rfl rfl
        · rw [if_neg c3] at h
          rw [if_pos c3]
          obtain ⟨σ6, e7, h⟩ := qlet_ex h
          refine qE.steps 3 hd9 (s' := (85, [(7, .int (tat σ 36 4 ((σ.1 5001) + i4) (Int32.ofInt 0))), (6, .int ((σ.1 5001) + i4)), (0, .ref 35), (3, .ref 50), (4, .int i4), (5, .int i5)], [], (σ6, y))) (by subst e7; rfl) ?_
          obtain ⟨σ8, e9, h⟩ := qlet_ex h
          refine qE.steps 7 hd9 (s' := (99, [(7, .int (tat σ 36 4 ((σ.1 5001) + i4) (Int32.ofInt 0))), (6, .int ((σ.1 5001) + i4)), (0, .ref 35), (3, .ref 50), (4, .int i4), (5, .int i5)], [], (σ8, y))) (by subst e9; rfl) ?_
          refine qE.steps 3 hd9 (s' := (105, [(7, .int (tat σ 36 4 ((σ.1 5001) + i4) (Int32.ofInt 0))), (6, .int ((σ.1 5001) + i4)), (0, .ref 35), (3, .ref 50), (4, .int i4), (5, .int i5)], [.int (tat σ 36 4 ((σ.1 5001) + i4) (Int32.ofInt 0)), .ref 27], (σ8, y))) rfl ?_
          refine qE.call hd9 rfl rfl rfl rfl (t_c_rank_73 (by omega) rfl) ?_
          refine qE.steps 0 hd9 (s' := (108, [(7, .int (tat σ 36 4 ((σ.1 5001) + i4) (Int32.ofInt 0))), (6, .int ((σ.1 5001) + i4)), (0, .ref 35), (3, .ref 50), (4, .int i4), (5, .int i5)], [.int (c_rank_73 (tat σ 36 4 ((σ.1 5001) + i4) (Int32.ofInt 0)) σ8)], (σ8, y))) rfl ?_
          obtain ⟨x10, e11, h⟩ := qlet_ex h
          refine qE.steps 1 hd9 (s' := (110, [(4, .int x10), (7, .int (tat σ 36 4 ((σ.1 5001) + i4) (Int32.ofInt 0))), (6, .int ((σ.1 5001) + i4)), (0, .ref 35), (3, .ref 50), (5, .int i5)], [], (σ8, y))) (by subst e11; rfl) ?_
          refine qE.steps 2 hd9 (s' := (34, [(5, .int (i5 + Int32.ofInt (-1))), (4, .int x10), (7, .int (tat σ 36 4 ((σ.1 5001) + i4) (Int32.ofInt 0))), (6, .int ((σ.1 5001) + i4)), (0, .ref 35), (3, .ref 50)], [], (σ8, y))) rfl ?_
          exact qE.wk (ih h) ⟨rfl, rfl, rfl, rfl, trivial⟩ rfl
theorem t_c_find_72_50 {S : Nat × (Nat → Int32)} {d : Nat} {y : qC × Int64 × Nat} {i1 : Int32} {i2 : Int32} {σ : qC} {p : qC} (hd : 10 ≤ d) (h : c_find_72_50 i1 i2 σ = some p) : qE S d jm_7_find_72 (0, [(0, .ref 35), (1, .int i1), (2, .int i2), (3, .ref 50)], [], (σ, y)) ((.inl none, (p, y))) := by
  have hd9 : 9 ≤ d := by omega
  unfold c_find_72_50 at h
  obtain ⟨σ1, e2, h⟩ := qlet_ex h
  refine qE.steps 3 hd9 (s' := (5, [(0, .ref 35), (1, .int i1), (2, .int i2), (3, .ref 50)], [], (σ1, y))) (by subst e2; rfl) ?_
  obtain ⟨σ3, e4, h⟩ := qlet_ex h
  refine qE.steps 3 hd9 (s' := (10, [(0, .ref 35), (1, .int i1), (2, .int i2), (3, .ref 50)], [], (σ3, y))) (by subst e4; rfl) ?_
  obtain ⟨σ5, e6, h⟩ := qlet_ex h
  refine qE.steps 3 hd9 (s' := (15, [(0, .ref 35), (1, .int i1), (2, .int i2), (3, .ref 50)], [], (σ5, y))) (by subst e6; rfl) ?_
  refine qE.steps 3 hd9 (s' := (20, [(0, .ref 35), (1, .int i1), (2, .int i2), (3, .ref 50)], [.int i1, .ref 27], (σ5, y))) rfl ?_
  refine qE.call hd9 rfl rfl rfl rfl (t_c_rank_73 (by omega) rfl) ?_
  refine qE.steps 0 hd9 (s' := (23, [(0, .ref 35), (1, .int i1), (2, .int i2), (3, .ref 50)], [.int (c_rank_73 i1 σ5)], (σ5, y))) rfl ?_
  refine qE.steps 5 hd9 (s' := (34, [(5, .int (σ5.1 3602)), (4, .int (c_rank_73 i1 σ5)), (0, .ref 35), (1, .int i1), (2, .int i2), (3, .ref 50)], [], (σ5, y))) rfl ?_
  exact qE.wk (t_c_find_72_50_l34 hd qF h) ⟨rfl, rfl, rfl, rfl, trivial⟩ rfl
def c_bind_93_49 (i1 : Int32) (σ : qC) : Option qC := (tputO σ 36 4 i1 (Int32.ofInt 0) (σ.1 4900)).bind (fun σ1 => (tputO σ1 36 4 i1 (Int32.ofInt 1) (σ1.1 4901)).bind (fun σ3 => (tappO σ3 42 4 (Int32.ofInt 0) i1 (Int32.ofInt (-1)) (Int32.ofInt (-1))).bind (fun σ5 => some σ5)))
theorem t_c_bind_93_49 {S : Nat × (Nat → Int32)} {d : Nat} {y : qC × Int64 × Nat} {i1 : Int32} {σ : qC} {p : qC} (hd : 9 ≤ d) (h : c_bind_93_49 i1 σ = some p) : qE S d jm_7_bind_93 (0, [(0, .ref 35), (1, .int i1), (2, .ref 49)], [], (σ, y)) ((.inl none, (p, y))) := by
  have hd9 : 9 ≤ d := by omega
  unfold c_bind_93_49 at h
  refine qE.steps 6 hd9 (s' := (10, [(0, .ref 35), (1, .int i1), (2, .ref 49)], [.int (σ.1 4900), .int (Int32.ofInt 0), .int i1, .ref 36], (σ, y))) rfl ?_
  obtain ⟨σ1, e2, h⟩ := obind h
  refine qE.tab hd9 (qtab_put e2 rfl) rfl rfl rfl ?_
  refine qE.steps 6 hd9 (s' := (23, [(0, .ref 35), (1, .int i1), (2, .ref 49)], [.int (σ1.1 4901), .int (Int32.ofInt 1), .int i1, .ref 36], (σ1, y))) rfl ?_
  obtain ⟨σ3, e4, h⟩ := obind h
  refine qE.tab hd9 (qtab_put e4 rfl) rfl rfl rfl ?_
  refine qE.steps 6 hd9 (s' := (34, [(0, .ref 35), (1, .int i1), (2, .ref 49)], [.int (Int32.ofInt (-1)), .int (Int32.ofInt (-1)), .int i1, .int (Int32.ofInt 0), .ref 42], (σ3, y))) rfl ?_
  obtain ⟨σ5, e6, h⟩ := obind h
  refine qE.tab hd9 (qtab_app e6 rfl) rfl rfl rfl ?_
  refine qE.steps 0 hd9 (s' := (37, [(0, .ref 35), (1, .int i1), (2, .ref 49)], [.int (σ3.1 4202)], (σ5, y))) rfl ?_
  refine qE.steps 1 hd9 (s' := (38, [(0, .ref 35), (1, .int i1), (2, .ref 49)], [], (σ5, y))) rfl ?_
  obtain rfl := Option.some.inj h
  exact qE.ret hd9 rfl rfl
def c_sleeperBehind_96 (i1 : Int32) (σ : qC) : Int32 := tat σ 38 4 i1 (Int32.ofInt 2)
theorem t_c_sleeperBehind_96 {S : Nat × (Nat → Int32)} {d : Nat} {y : qC × Int64 × Nat} {i1 : Int32} {σ : qC} {p : Int32} (hd : 9 ≤ d) (h : c_sleeperBehind_96 i1 σ = p) : qE S d jm_7_sleeperBehind_96 (0, [(0, .ref 35), (1, .int i1)], [], (σ, y)) ((.inl (some (.int p)), (σ, y))) := by
  have hd9 : 9 ≤ d := by omega
  unfold c_sleeperBehind_96 at h
  refine qE.steps 5 hd9 (s' := (9, [(0, .ref 35), (1, .int i1)], [.int (tat σ 38 4 i1 (Int32.ofInt 2))], (σ, y))) rfl ?_
  subst h
  exact qE.ret hd9 rfl rfl
def c_firstSleeper_94 (i1 : Int32) (σ : qC) : Int32 := tat σ 36 4 i1 (Int32.ofInt 2)
theorem t_c_firstSleeper_94 {S : Nat × (Nat → Int32)} {d : Nat} {y : qC × Int64 × Nat} {i1 : Int32} {σ : qC} {p : Int32} (hd : 9 ≤ d) (h : c_firstSleeper_94 i1 σ = p) : qE S d jm_7_firstSleeper_94 (0, [(0, .ref 35), (1, .int i1)], [], (σ, y)) ((.inl (some (.int p)), (σ, y))) := by
  have hd9 : 9 ≤ d := by omega
  unfold c_firstSleeper_94 at h
  refine qE.steps 5 hd9 (s' := (9, [(0, .ref 35), (1, .int i1)], [.int (tat σ 36 4 i1 (Int32.ofInt 2))], (σ, y))) rfl ?_
  subst h
  exact qE.ret hd9 rfl rfl
