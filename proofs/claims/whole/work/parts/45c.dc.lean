/-! BY PROGRAM (wip/whole/gendc.py): each method as a function over the numbers -/
def c_readGoal_44 (σ : qC) : Option (Int32 × qC) := (c_readSign_39 (Int32.ofInt 33) σ).bind (fun p1 => if p1.1 = 0 then (c_readTerm_34 8 (Int32.ofInt 1) p1.2).bind (fun p4 => if p4.1 = 0 then some (Int32.ofInt 0, p4.2) else if c_at_32 (p4.2.1 3203) p4.2 = Int32.ofInt 61 then qlet (upS p4.2 3203 ((p4.2.1 3203) + (Int32.ofInt 1))) (fun σ8 => (c_noteGoal_45 (c_node_37 σ) (c_at_32 (p4.2.1 3203) p4.2) (c_node_37 σ8) σ8).bind (fun p10 => (c_readTerm_34 8 (Int32.ofInt 1) p10).bind (fun p12 => if p12.1 = 0 ∨ p12.1 = 1 then some (p12.1, p12.2) else none))) else if c_at_32 (p4.2.1 3203) p4.2 = Int32.ofInt 126 then qlet (upS p4.2 3203 ((p4.2.1 3203) + (Int32.ofInt 1))) (fun σ16 => (c_noteGoal_45 (c_node_37 σ) (c_at_32 (p4.2.1 3203) p4.2) (c_node_37 σ16) σ16).bind (fun p18 => (c_readTerm_34 8 (Int32.ofInt 1) p18).bind (fun p20 => if p20.1 = 0 ∨ p20.1 = 1 then some (p20.1, p20.2) else none))) else if c_at_32 (p4.2.1 3203) p4.2 = Int32.ofInt 60 then qlet (upS p4.2 3203 ((p4.2.1 3203) + (Int32.ofInt 1))) (fun σ24 => (c_noteGoal_45 (c_node_37 σ) (c_at_32 (p4.2.1 3203) p4.2) (c_node_37 σ24) σ24).bind (fun p26 => (c_readTerm_34 8 (Int32.ofInt 1) p26).bind (fun p28 => if p28.1 = 0 ∨ p28.1 = 1 then some (p28.1, p28.2) else none))) else if c_at_32 (p4.2.1 3203) p4.2 = Int32.ofInt 63 then qlet (upS p4.2 3203 ((p4.2.1 3203) + (Int32.ofInt 1))) (fun σ32 => (c_noteGoal_45 (c_node_37 σ) (c_at_32 (p4.2.1 3203) p4.2) (c_node_37 σ32) σ32).bind (fun p34 => (c_noteGoal_45 (c_node_37 p34) (Int32.ofInt 40) (Int32.ofInt (-1)) p34).bind (fun p36 => if c_isSmall_33 (c_at_32 (p36.1 3203) p36) = 0 then some (Int32.ofInt 0, p36) else (c_readTerm_34 8 (Int32.ofInt 1) p36).bind (fun p39 => if p39.1 = 0 then some (Int32.ofInt 0, p39.2) else some (Int32.ofInt 1, p39.2))))) else (c_noteGoal_45 (c_node_37 σ) (Int32.ofInt 40) (Int32.ofInt (-1)) p4.2).bind (fun p42 => if c_isSmall_33 (c_at_32 (σ.1 3203) σ) = 0 ∨ c_isSmall_33 (c_at_32 (σ.1 3203) σ) = 1 then some (c_isSmall_33 (c_at_32 (σ.1 3203) σ), p42) else none)) else (c_noteGoal_45 (c_node_37 σ) (Int32.ofInt 33) (Int32.ofInt (-1)) p1.2).bind (fun p45 => some (Int32.ofInt 1, p45)))
theorem t_c_readGoal_44 {S : Nat × (Nat → Int32)} {d : Nat} {y : qC × Int64 × Nat} {σ : qC} {p : (Int32 × qC)} (hd : 20 ≤ d) (h : c_readGoal_44 σ = some p) : qE S d jm_5_readGoal_44 (0, [(0, .ref 32)], [], (σ, y)) ((.inl (some (.int p.1)), (p.2, y))) := by
  have hd9 : 9 ≤ d := by omega
  unfold c_readGoal_44 at h
  refine qE.steps 1 hd9 (s' := (1, [(0, .ref 32)], [.ref 32], (σ, y))) rfl ?_
  refine qE.call hd9 rfl rfl rfl rfl (t_c_node_37 (by omega) rfl) ?_
  refine qE.steps 0 hd9 (s' := (4, [(0, .ref 32)], [.int (c_node_37 σ)], (σ, y))) rfl ?_
  refine qE.steps 5 hd9 (s' := (13, [(1, .int (c_node_37 σ)), (0, .ref 32)], [.int (σ.1 3203), .ref 25], (σ, y))) rfl ?_
  refine qE.call hd9 rfl rfl rfl rfl (t_c_at_32 (by omega) rfl) ?_
  refine qE.steps 0 hd9 (s' := (16, [(1, .int (c_node_37 σ)), (0, .ref 32)], [.int (c_at_32 (σ.1 3203) σ)], (σ, y))) rfl ?_
  refine qE.steps 3 hd9 (s' := (20, [(2, .int (c_at_32 (σ.1 3203) σ)), (1, .int (c_node_37 σ)), (0, .ref 32)], [.int (Int32.ofInt 33), .ref 32], (σ, y))) rfl ?_
  obtain ⟨p1, e2, h⟩ := obind h
  refine qE.call hd9 rfl rfl rfl rfl (t_c_readSign_39 (by omega) e2) ?_
  refine qE.steps 0 hd9 (s' := (23, [(2, .int (c_at_32 (σ.1 3203) σ)), (1, .int (c_node_37 σ)), (0, .ref 32)], [.int p1.1], (p1.2, y))) rfl ?_
  refine qE.steps 1 hd9 (s' := (if p1.1 = 0 then 39 else 26, [(2, .int (c_at_32 (σ.1 3203) σ)), (1, .int (c_node_37 σ)), (0, .ref 32)], [], (p1.2, y))) rfl ?_
  by_cases c3 : p1.1 = 0
  · rw [if_pos c3] at h
    rw [if_pos c3]
    refine qE.steps 2 hd9 (s' := (41, [(2, .int (c_at_32 (σ.1 3203) σ)), (1, .int (c_node_37 σ)), (0, .ref 32)], [.int (Int32.ofInt 1), .ref 32], (p1.2, y))) rfl ?_
    obtain ⟨p4, e5, h⟩ := obind h
    refine qE.call hd9 rfl rfl rfl rfl (t_c_readTerm_34 8 (by omega) e5) ?_
    refine qE.steps 0 hd9 (s' := (44, [(2, .int (c_at_32 (σ.1 3203) σ)), (1, .int (c_node_37 σ)), (0, .ref 32)], [.int p4.1], (p4.2, y))) rfl ?_
    refine qE.steps 1 hd9 (s' := (if ¬ (p4.1 = 0) then 49 else 47, [(2, .int (c_at_32 (σ.1 3203) σ)), (1, .int (c_node_37 σ)), (0, .ref 32)], [], (p4.2, y))) rfl ?_
    by_cases c6 : p4.1 = 0
    · rw [if_pos c6] at h
      rw [if_neg (not_not_intro c6)]
      refine qE.steps 1 hd9 (s' := (48, [(2, .int (c_at_32 (σ.1 3203) σ)), (1, .int (c_node_37 σ)), (0, .ref 32)], [.int (Int32.ofInt 0)], (p4.2, y))) rfl ?_
      obtain rfl := Option.some.inj h
      exact qE.ret hd9 rfl rfl
    · rw [if_neg c6] at h
      rw [if_pos c6]
      refine qE.steps 4 hd9 (s' := (57, [(2, .int (c_at_32 (σ.1 3203) σ)), (1, .int (c_node_37 σ)), (0, .ref 32)], [.int (p4.2.1 3203), .ref 25], (p4.2, y))) rfl ?_
      refine qE.call hd9 rfl rfl rfl rfl (t_c_at_32 (by omega) rfl) ?_
      refine qE.steps 0 hd9 (s' := (60, [(2, .int (c_at_32 (σ.1 3203) σ)), (1, .int (c_node_37 σ)), (0, .ref 32)], [.int (c_at_32 (p4.2.1 3203) p4.2)], (p4.2, y))) rfl ?_
      refine qE.steps 4 hd9 (s' := (if c_at_32 (p4.2.1 3203) p4.2 = Int32.ofInt 61 then 79 else 67, [(3, .int (c_at_32 (p4.2.1 3203) p4.2)), (2, .int (c_at_32 (σ.1 3203) σ)), (1, .int (c_node_37 σ)), (0, .ref 32)], [], (p4.2, y))) rfl ?_
      by_cases c7 : c_at_32 (p4.2.1 3203) p4.2 = Int32.ofInt 61
      · rw [if_pos c7] at h
        rw [if_pos c7]
        obtain ⟨σ8, e9, h⟩ := qlet_ex h
        refine qE.steps 6 hd9 (s' := (89, [(3, .int (c_at_32 (p4.2.1 3203) p4.2)), (2, .int (c_at_32 (σ.1 3203) σ)), (1, .int (c_node_37 σ)), (0, .ref 32)], [], (σ8, y))) (by subst e9; rfl) ?_
        refine qE.steps 5 hd9 (s' := (96, [(3, .int (c_at_32 (p4.2.1 3203) p4.2)), (2, .int (c_at_32 (σ.1 3203) σ)), (1, .int (c_node_37 σ)), (0, .ref 32)], [.ref 32, .int (c_at_32 (p4.2.1 3203) p4.2), .int (c_node_37 σ), .ref 27], (σ8, y))) rfl ?_
        refine qE.call hd9 rfl rfl rfl rfl (t_c_node_37 (by omega) rfl) ?_
        refine qE.steps 0 hd9 (s' := (99, [(3, .int (c_at_32 (p4.2.1 3203) p4.2)), (2, .int (c_at_32 (σ.1 3203) σ)), (1, .int (c_node_37 σ)), (0, .ref 32)], [.int (c_node_37 σ8), .int (c_at_32 (p4.2.1 3203) p4.2), .int (c_node_37 σ), .ref 27], (σ8, y))) rfl ?_
        obtain ⟨p10, e11, h⟩ := obind h
        refine qE.call hd9 rfl rfl rfl rfl (t_c_noteGoal_45 (by omega) e11) ?_
        refine qE.steps 0 hd9 (s' := (102, [(3, .int (c_at_32 (p4.2.1 3203) p4.2)), (2, .int (c_at_32 (σ.1 3203) σ)), (1, .int (c_node_37 σ)), (0, .ref 32)], [], (p10, y))) rfl ?_
        refine qE.steps 2 hd9 (s' := (104, [(3, .int (c_at_32 (p4.2.1 3203) p4.2)), (2, .int (c_at_32 (σ.1 3203) σ)), (1, .int (c_node_37 σ)), (0, .ref 32)], [.int (Int32.ofInt 1), .ref 32], (p10, y))) rfl ?_
        obtain ⟨p12, e13, h⟩ := obind h
        refine qE.call hd9 rfl rfl rfl rfl (t_c_readTerm_34 8 (by omega) e13) ?_
        refine qE.steps 0 hd9 (s' := (107, [(3, .int (c_at_32 (p4.2.1 3203) p4.2)), (2, .int (c_at_32 (σ.1 3203) σ)), (1, .int (c_node_37 σ)), (0, .ref 32)], [.int p12.1], (p12.2, y))) rfl ?_
        by_cases c14 : p12.1 = 0 ∨ p12.1 = 1
        case neg => rw [if_neg c14] at h; cases h
        rw [if_pos c14] at h
        obtain rfl := Option.some.inj h
        exact qE.ret hd9 rfl (by rcases c14 with c14 | c14 <;> (show qat jT0 jm_5_readGoal_44 (107, [(3, .int (c_at_32 (p4.2.1 3203) p4.2)), (2, .int (c_at_32 (σ.1 3203) σ)), (1, .int (c_node_37 σ)), (0, .ref 32)], [.int p12.1], (p12.2, y)) = some (.inl (some (.int p12.1)))) <;> rw [c14] <;> rfl)
      · rw [if_neg c7] at h
        rw [if_neg c7]
        refine qE.steps 3 hd9 (s' := (if c_at_32 (p4.2.1 3203) p4.2 = Int32.ofInt 126 then 79 else 73, [(3, .int (c_at_32 (p4.2.1 3203) p4.2)), (2, .int (c_at_32 (σ.1 3203) σ)), (1, .int (c_node_37 σ)), (0, .ref 32)], [], (p4.2, y))) rfl ?_
        by_cases c15 : c_at_32 (p4.2.1 3203) p4.2 = Int32.ofInt 126
        · rw [if_pos c15] at h
          rw [if_pos c15]
          obtain ⟨σ16, e17, h⟩ := qlet_ex h
          refine qE.steps 6 hd9 (s' := (89, [(3, .int (c_at_32 (p4.2.1 3203) p4.2)), (2, .int (c_at_32 (σ.1 3203) σ)), (1, .int (c_node_37 σ)), (0, .ref 32)], [], (σ16, y))) (by subst e17; rfl) ?_
          refine qE.steps 5 hd9 (s' := (96, [(3, .int (c_at_32 (p4.2.1 3203) p4.2)), (2, .int (c_at_32 (σ.1 3203) σ)), (1, .int (c_node_37 σ)), (0, .ref 32)], [.ref 32, .int (c_at_32 (p4.2.1 3203) p4.2), .int (c_node_37 σ), .ref 27], (σ16, y))) rfl ?_
          refine qE.call hd9 rfl rfl rfl rfl (t_c_node_37 (by omega) rfl) ?_
          refine qE.steps 0 hd9 (s' := (99, [(3, .int (c_at_32 (p4.2.1 3203) p4.2)), (2, .int (c_at_32 (σ.1 3203) σ)), (1, .int (c_node_37 σ)), (0, .ref 32)], [.int (c_node_37 σ16), .int (c_at_32 (p4.2.1 3203) p4.2), .int (c_node_37 σ), .ref 27], (σ16, y))) rfl ?_
          obtain ⟨p18, e19, h⟩ := obind h
          refine qE.call hd9 rfl rfl rfl rfl (t_c_noteGoal_45 (by omega) e19) ?_
          refine qE.steps 0 hd9 (s' := (102, [(3, .int (c_at_32 (p4.2.1 3203) p4.2)), (2, .int (c_at_32 (σ.1 3203) σ)), (1, .int (c_node_37 σ)), (0, .ref 32)], [], (p18, y))) rfl ?_
          refine qE.steps 2 hd9 (s' := (104, [(3, .int (c_at_32 (p4.2.1 3203) p4.2)), (2, .int (c_at_32 (σ.1 3203) σ)), (1, .int (c_node_37 σ)), (0, .ref 32)], [.int (Int32.ofInt 1), .ref 32], (p18, y))) rfl ?_
          obtain ⟨p20, e21, h⟩ := obind h
          refine qE.call hd9 rfl rfl rfl rfl (t_c_readTerm_34 8 (by omega) e21) ?_
          refine qE.steps 0 hd9 (s' := (107, [(3, .int (c_at_32 (p4.2.1 3203) p4.2)), (2, .int (c_at_32 (σ.1 3203) σ)), (1, .int (c_node_37 σ)), (0, .ref 32)], [.int p20.1], (p20.2, y))) rfl ?_
          by_cases c22 : p20.1 = 0 ∨ p20.1 = 1
          case neg => rw [if_neg c22] at h; cases h
          rw [if_pos c22] at h
          obtain rfl := Option.some.inj h
          exact qE.ret hd9 rfl (by rcases c22 with c22 | c22 <;> (show qat jT0 jm_5_readGoal_44 (107, [(3, .int (c_at_32 (p4.2.1 3203) p4.2)), (2, .int (c_at_32 (σ.1 3203) σ)), (1, .int (c_node_37 σ)), (0, .ref 32)], [.int p20.1], (p20.2, y)) = some (.inl (some (.int p20.1)))) <;> rw [c22] <;> rfl)
        · rw [if_neg c15] at h
          rw [if_neg c15]
          refine qE.steps 3 hd9 (s' := (if ¬ (c_at_32 (p4.2.1 3203) p4.2 = Int32.ofInt 60) then 108 else 79, [(3, .int (c_at_32 (p4.2.1 3203) p4.2)), (2, .int (c_at_32 (σ.1 3203) σ)), (1, .int (c_node_37 σ)), (0, .ref 32)], [], (p4.2, y))) rfl ?_
          by_cases c23 : c_at_32 (p4.2.1 3203) p4.2 = Int32.ofInt 60
          · rw [if_pos c23] at h
            rw [if_neg (not_not_intro c23)]
            obtain ⟨σ24, e25, h⟩ := qlet_ex h
            refine qE.steps 6 hd9 (s' := (89, [(3, .int (c_at_32 (p4.2.1 3203) p4.2)), (2, .int (c_at_32 (σ.1 3203) σ)), (1, .int (c_node_37 σ)), (0, .ref 32)], [], (σ24, y))) (by subst e25; rfl) ?_
            refine qE.steps 5 hd9 (s' := (96, [(3, .int (c_at_32 (p4.2.1 3203) p4.2)), (2, .int (c_at_32 (σ.1 3203) σ)), (1, .int (c_node_37 σ)), (0, .ref 32)], [.ref 32, .int (c_at_32 (p4.2.1 3203) p4.2), .int (c_node_37 σ), .ref 27], (σ24, y))) rfl ?_
            refine qE.call hd9 rfl rfl rfl rfl (t_c_node_37 (by omega) rfl) ?_
            refine qE.steps 0 hd9 (s' := (99, [(3, .int (c_at_32 (p4.2.1 3203) p4.2)), (2, .int (c_at_32 (σ.1 3203) σ)), (1, .int (c_node_37 σ)), (0, .ref 32)], [.int (c_node_37 σ24), .int (c_at_32 (p4.2.1 3203) p4.2), .int (c_node_37 σ), .ref 27], (σ24, y))) rfl ?_
            obtain ⟨p26, e27, h⟩ := obind h
            refine qE.call hd9 rfl rfl rfl rfl (t_c_noteGoal_45 (by omega) e27) ?_
            refine qE.steps 0 hd9 (s' := (102, [(3, .int (c_at_32 (p4.2.1 3203) p4.2)), (2, .int (c_at_32 (σ.1 3203) σ)), (1, .int (c_node_37 σ)), (0, .ref 32)], [], (p26, y))) rfl ?_
            refine qE.steps 2 hd9 (s' := (104, [(3, .int (c_at_32 (p4.2.1 3203) p4.2)), (2, .int (c_at_32 (σ.1 3203) σ)), (1, .int (c_node_37 σ)), (0, .ref 32)], [.int (Int32.ofInt 1), .ref 32], (p26, y))) rfl ?_
            obtain ⟨p28, e29, h⟩ := obind h
            refine qE.call hd9 rfl rfl rfl rfl (t_c_readTerm_34 8 (by omega) e29) ?_
            refine qE.steps 0 hd9 (s' := (107, [(3, .int (c_at_32 (p4.2.1 3203) p4.2)), (2, .int (c_at_32 (σ.1 3203) σ)), (1, .int (c_node_37 σ)), (0, .ref 32)], [.int p28.1], (p28.2, y))) rfl ?_
            by_cases c30 : p28.1 = 0 ∨ p28.1 = 1
            case neg => rw [if_neg c30] at h; cases h
            rw [if_pos c30] at h
            obtain rfl := Option.some.inj h
            exact qE.ret hd9 rfl (by rcases c30 with c30 | c30 <;> (show qat jT0 jm_5_readGoal_44 (107, [(3, .int (c_at_32 (p4.2.1 3203) p4.2)), (2, .int (c_at_32 (σ.1 3203) σ)), (1, .int (c_node_37 σ)), (0, .ref 32)], [.int p28.1], (p28.2, y)) = some (.inl (some (.int p28.1)))) <;> rw [c30] <;> rfl)
          · rw [if_neg c23] at h
            rw [if_pos c23]
            refine qE.steps 3 hd9 (s' := (if ¬ (c_at_32 (p4.2.1 3203) p4.2 = Int32.ofInt 63) then 182 else 114, [(3, .int (c_at_32 (p4.2.1 3203) p4.2)), (2, .int (c_at_32 (σ.1 3203) σ)), (1, .int (c_node_37 σ)), (0, .ref 32)], [], (p4.2, y))) rfl ?_
            by_cases c31 : c_at_32 (p4.2.1 3203) p4.2 = Int32.ofInt 63
            · rw [if_pos c31] at h
              rw [if_neg (not_not_intro c31)]
              obtain ⟨σ32, e33, h⟩ := qlet_ex h
              refine qE.steps 6 hd9 (s' := (124, [(3, .int (c_at_32 (p4.2.1 3203) p4.2)), (2, .int (c_at_32 (σ.1 3203) σ)), (1, .int (c_node_37 σ)), (0, .ref 32)], [], (σ32, y))) (by subst e33; rfl) ?_
              refine qE.steps 5 hd9 (s' := (131, [(3, .int (c_at_32 (p4.2.1 3203) p4.2)), (2, .int (c_at_32 (σ.1 3203) σ)), (1, .int (c_node_37 σ)), (0, .ref 32)], [.ref 32, .int (c_at_32 (p4.2.1 3203) p4.2), .int (c_node_37 σ), .ref 27], (σ32, y))) rfl ?_
              refine qE.call hd9 rfl rfl rfl rfl (t_c_node_37 (by omega) rfl) ?_
              refine qE.steps 0 hd9 (s' := (134, [(3, .int (c_at_32 (p4.2.1 3203) p4.2)), (2, .int (c_at_32 (σ.1 3203) σ)), (1, .int (c_node_37 σ)), (0, .ref 32)], [.int (c_node_37 σ32), .int (c_at_32 (p4.2.1 3203) p4.2), .int (c_node_37 σ), .ref 27], (σ32, y))) rfl ?_
              obtain ⟨p34, e35, h⟩ := obind h
              refine qE.call hd9 rfl rfl rfl rfl (t_c_noteGoal_45 (by omega) e35) ?_
              refine qE.steps 0 hd9 (s' := (137, [(3, .int (c_at_32 (p4.2.1 3203) p4.2)), (2, .int (c_at_32 (σ.1 3203) σ)), (1, .int (c_node_37 σ)), (0, .ref 32)], [], (p34, y))) rfl ?_
              refine qE.steps 3 hd9 (s' := (142, [(3, .int (c_at_32 (p4.2.1 3203) p4.2)), (2, .int (c_at_32 (σ.1 3203) σ)), (1, .int (c_node_37 σ)), (0, .ref 32)], [.ref 32, .ref 27], (p34, y))) rfl ?_
              refine qE.call hd9 rfl rfl rfl rfl (t_c_node_37 (by omega) rfl) ?_
              refine qE.steps 0 hd9 (s' := (145, [(3, .int (c_at_32 (p4.2.1 3203) p4.2)), (2, .int (c_at_32 (σ.1 3203) σ)), (1, .int (c_node_37 σ)), (0, .ref 32)], [.int (c_node_37 p34), .ref 27], (p34, y))) rfl ?_
              refine qE.steps 2 hd9 (s' := (148, [(3, .int (c_at_32 (p4.2.1 3203) p4.2)), (2, .int (c_at_32 (σ.1 3203) σ)), (1, .int (c_node_37 σ)), (0, .ref 32)], [.int (Int32.ofInt (-1)), .int (Int32.ofInt 40), .int (c_node_37 p34), .ref 27], (p34, y))) rfl ?_
              obtain ⟨p36, e37, h⟩ := obind h
              refine qE.call hd9 rfl rfl rfl rfl (t_c_noteGoal_45 (by omega) e37) ?_
              refine qE.steps 0 hd9 (s' := (151, [(3, .int (c_at_32 (p4.2.1 3203) p4.2)), (2, .int (c_at_32 (σ.1 3203) σ)), (1, .int (c_node_37 σ)), (0, .ref 32)], [], (p36, y))) rfl ?_
              refine qE.steps 4 hd9 (s' := (159, [(3, .int (c_at_32 (p4.2.1 3203) p4.2)), (2, .int (c_at_32 (σ.1 3203) σ)), (1, .int (c_node_37 σ)), (0, .ref 32)], [.int (p36.1 3203), .ref 25], (p36, y))) rfl ?_
              refine qE.call hd9 rfl rfl rfl rfl (t_c_at_32 (by omega) rfl) ?_
              refine qE.steps 0 hd9 (s' := (162, [(3, .int (c_at_32 (p4.2.1 3203) p4.2)), (2, .int (c_at_32 (σ.1 3203) σ)), (1, .int (c_node_37 σ)), (0, .ref 32)], [.int (c_at_32 (p36.1 3203) p36)], (p36, y))) rfl ?_
              refine qE.call hd9 rfl rfl rfl rfl (t_c_isSmall_33 (by omega) rfl) ?_
              refine qE.steps 0 hd9 (s' := (165, [(3, .int (c_at_32 (p4.2.1 3203) p4.2)), (2, .int (c_at_32 (σ.1 3203) σ)), (1, .int (c_node_37 σ)), (0, .ref 32)], [.int (c_isSmall_33 (c_at_32 (p36.1 3203) p36))], (p36, y))) rfl ?_
              refine qE.steps 1 hd9 (s' := (if c_isSmall_33 (c_at_32 (p36.1 3203) p36) = 0 then 180 else 168, [(3, .int (c_at_32 (p4.2.1 3203) p4.2)), (2, .int (c_at_32 (σ.1 3203) σ)), (1, .int (c_node_37 σ)), (0, .ref 32)], [], (p36, y))) rfl ?_
              by_cases c38 : c_isSmall_33 (c_at_32 (p36.1 3203) p36) = 0
              · rw [if_pos c38] at h
                rw [if_pos c38]
                refine qE.steps 1 hd9 (s' := (181, [(3, .int (c_at_32 (p4.2.1 3203) p4.2)), (2, .int (c_at_32 (σ.1 3203) σ)), (1, .int (c_node_37 σ)), (0, .ref 32)], [.int (Int32.ofInt 0)], (p36, y))) rfl ?_
                obtain rfl := Option.some.inj h
                exact qE.ret hd9 rfl rfl
              · rw [if_neg c38] at h
                rw [if_neg c38]
                refine qE.steps 2 hd9 (s' := (170, [(3, .int (c_at_32 (p4.2.1 3203) p4.2)), (2, .int (c_at_32 (σ.1 3203) σ)), (1, .int (c_node_37 σ)), (0, .ref 32)], [.int (Int32.ofInt 1), .ref 32], (p36, y))) rfl ?_
                obtain ⟨p39, e40, h⟩ := obind h
                refine qE.call hd9 rfl rfl rfl rfl (t_c_readTerm_34 8 (by omega) e40) ?_
                refine qE.steps 0 hd9 (s' := (173, [(3, .int (c_at_32 (p4.2.1 3203) p4.2)), (2, .int (c_at_32 (σ.1 3203) σ)), (1, .int (c_node_37 σ)), (0, .ref 32)], [.int p39.1], (p39.2, y))) rfl ?_
                refine qE.steps 1 hd9 (s' := (if p39.1 = 0 then 180 else 176, [(3, .int (c_at_32 (p4.2.1 3203) p4.2)), (2, .int (c_at_32 (σ.1 3203) σ)), (1, .int (c_node_37 σ)), (0, .ref 32)], [], (p39.2, y))) rfl ?_
                by_cases c41 : p39.1 = 0
                · rw [if_pos c41] at h
                  rw [if_pos c41]
                  refine qE.steps 1 hd9 (s' := (181, [(3, .int (c_at_32 (p4.2.1 3203) p4.2)), (2, .int (c_at_32 (σ.1 3203) σ)), (1, .int (c_node_37 σ)), (0, .ref 32)], [.int (Int32.ofInt 0)], (p39.2, y))) rfl ?_
                  obtain rfl := Option.some.inj h
                  exact qE.ret hd9 rfl rfl
                · rw [if_neg c41] at h
                  rw [if_neg c41]
                  refine qE.steps 2 hd9 (s' := (181, [(3, .int (c_at_32 (p4.2.1 3203) p4.2)), (2, .int (c_at_32 (σ.1 3203) σ)), (1, .int (c_node_37 σ)), (0, .ref 32)], [.int (Int32.ofInt 1)], (p39.2, y))) rfl ?_
                  obtain rfl := Option.some.inj h
                  exact qE.ret hd9 rfl rfl
            · rw [if_neg c31] at h
              rw [if_pos c31]
              refine qE.steps 5 hd9 (s' := (190, [(3, .int (c_at_32 (p4.2.1 3203) p4.2)), (2, .int (c_at_32 (σ.1 3203) σ)), (1, .int (c_node_37 σ)), (0, .ref 32)], [.int (Int32.ofInt (-1)), .int (Int32.ofInt 40), .int (c_node_37 σ), .ref 27], (p4.2, y))) rfl ?_
              obtain ⟨p42, e43, h⟩ := obind h
              refine qE.call hd9 rfl rfl rfl rfl (t_c_noteGoal_45 (by omega) e43) ?_
              refine qE.steps 0 hd9 (s' := (193, [(3, .int (c_at_32 (p4.2.1 3203) p4.2)), (2, .int (c_at_32 (σ.1 3203) σ)), (1, .int (c_node_37 σ)), (0, .ref 32)], [], (p42, y))) rfl ?_
              refine qE.steps 1 hd9 (s' := (194, [(3, .int (c_at_32 (p4.2.1 3203) p4.2)), (2, .int (c_at_32 (σ.1 3203) σ)), (1, .int (c_node_37 σ)), (0, .ref 32)], [.int (c_at_32 (σ.1 3203) σ)], (p42, y))) rfl ?_
              refine qE.call hd9 rfl rfl rfl rfl (t_c_isSmall_33 (by omega) rfl) ?_
              refine qE.steps 0 hd9 (s' := (197, [(3, .int (c_at_32 (p4.2.1 3203) p4.2)), (2, .int (c_at_32 (σ.1 3203) σ)), (1, .int (c_node_37 σ)), (0, .ref 32)], [.int (c_isSmall_33 (c_at_32 (σ.1 3203) σ))], (p42, y))) rfl ?_
              by_cases c44 : c_isSmall_33 (c_at_32 (σ.1 3203) σ) = 0 ∨ c_isSmall_33 (c_at_32 (σ.1 3203) σ) = 1
              case neg => rw [if_neg c44] at h; cases h
              rw [if_pos c44] at h
              obtain rfl := Option.some.inj h
              exact qE.ret hd9 rfl (by rcases c44 with c44 | c44 <;> (show qat jT0 jm_5_readGoal_44 (197, [(3, .int (c_at_32 (p4.2.1 3203) p4.2)), (2, .int (c_at_32 (σ.1 3203) σ)), (1, .int (c_node_37 σ)), (0, .ref 32)], [.int (c_isSmall_33 (c_at_32 (σ.1 3203) σ))], (p42, y)) = some (.inl (some (.int (c_isSmall_33 (c_at_32 (σ.1 3203) σ)))))) <;> rw [c44] <;> rfl)
  · rw [if_neg c3] at h
    rw [if_neg c3]
    refine qE.steps 5 hd9 (s' := (34, [(2, .int (c_at_32 (σ.1 3203) σ)), (1, .int (c_node_37 σ)), (0, .ref 32)], [.int (Int32.ofInt (-1)), .int (Int32.ofInt 33), .int (c_node_37 σ), .ref 27], (p1.2, y))) rfl ?_
    obtain ⟨p45, e46, h⟩ := obind h
    refine qE.call hd9 rfl rfl rfl rfl (t_c_noteGoal_45 (by omega) e46) ?_
    refine qE.steps 0 hd9 (s' := (37, [(2, .int (c_at_32 (σ.1 3203) σ)), (1, .int (c_node_37 σ)), (0, .ref 32)], [], (p45, y))) rfl ?_
    refine qE.steps 1 hd9 (s' := (38, [(2, .int (c_at_32 (σ.1 3203) σ)), (1, .int (c_node_37 σ)), (0, .ref 32)], [.int (Int32.ofInt 1)], (p45, y))) rfl ?_
    obtain rfl := Option.some.inj h
    exact qE.ret hd9 rfl rfl
def c_noteFollower_46 (i1 : Int32) (i2 : Int32) (σ : qC) : Option qC := (tputO σ 28 9 i1 (Int32.ofInt 7) i2).bind (fun σ1 => some σ1)
theorem t_c_noteFollower_46 {S : Nat × (Nat → Int32)} {d : Nat} {y : qC × Int64 × Nat} {i1 : Int32} {i2 : Int32} {σ : qC} {p : qC} (hd : 9 ≤ d) (h : c_noteFollower_46 i1 i2 σ = some p) : qE S d jm_1_noteFollower_46 (0, [(0, .ref 27), (1, .int i1), (2, .int i2)], [], (σ, y)) ((.inl none, (p, y))) := by
  have hd9 : 9 ≤ d := by omega
  unfold c_noteFollower_46 at h
  refine qE.steps 5 hd9 (s' := (8, [(0, .ref 27), (1, .int i1), (2, .int i2)], [.int i2, .int (Int32.ofInt 7), .int i1, .ref 28], (σ, y))) rfl ?_
  obtain ⟨σ1, e2, h⟩ := obind h
  refine qE.tab hd9 (qtab_put e2 rfl) rfl rfl rfl ?_
  obtain rfl := Option.some.inj h
  exact qE.ret hd9 rfl rfl
def c_noteFirstGoal_43 (i1 : Int32) (i2 : Int32) (σ : qC) : Option qC := (tputO σ 30 4 i1 (Int32.ofInt 1) i2).bind (fun σ1 => some σ1)
theorem t_c_noteFirstGoal_43 {S : Nat × (Nat → Int32)} {d : Nat} {y : qC × Int64 × Nat} {i1 : Int32} {i2 : Int32} {σ : qC} {p : qC} (hd : 9 ≤ d) (h : c_noteFirstGoal_43 i1 i2 σ = some p) : qE S d jm_1_noteFirstGoal_43 (0, [(0, .ref 27), (1, .int i1), (2, .int i2)], [], (σ, y)) ((.inl none, (p, y))) := by
  have hd9 : 9 ≤ d := by omega
  unfold c_noteFirstGoal_43 at h
  refine qE.steps 5 hd9 (s' := (7, [(0, .ref 27), (1, .int i1), (2, .int i2)], [.int i2, .int (Int32.ofInt 1), .int i1, .ref 30], (σ, y))) rfl ?_
  obtain ⟨σ1, e2, h⟩ := obind h
  refine qE.tab hd9 (qtab_put e2 rfl) rfl rfl rfl ?_
  obtain rfl := Option.some.inj h
  exact qE.ret hd9 rfl rfl
def c_readGoals_42_l17 : Nat → Int32 → qC → Option (Int32 × qC)
  | 0, _, _ => none
  | n + 1, i1, σ => if Int32.ofInt 48 ≤ i1 then some (Int32.ofInt 0, σ) else (c_readGoal_44 σ).bind (fun p2 => if p2.1 = 0 then some (Int32.ofInt 0, p2.2) else if c_atEnd_41 p2.2 = 0 then (c_readSign_39 (Int32.ofInt 44) p2.2).bind (fun p6 => if p6.1 = 0 then some (Int32.ofInt 0, p6.2) else (c_noteFollower_46 (c_node_37 σ) (c_node_37 p6.2) p6.2).bind (fun p9 => (c_readGoals_42_l17 n) (i1 + Int32.ofInt 1) p9)) else some (Int32.ofInt 1, p2.2))
def c_readGoals_42 (σ : qC) : Option (Int32 × qC) := (c_noteFirstGoal_43 (σ.1 3202) (c_node_37 σ) σ).bind (fun p1 => c_readGoals_42_l17 qF (Int32.ofInt 0) p1)
theorem t_c_readGoals_42_l17 {S : Nat × (Nat → Int32)} {d : Nat} {y : qC × Int64 × Nat} (hd : 21 ≤ d) : ∀ (n : Nat) {i1 : Int32} {σ : qC} {p : (Int32 × qC)}, c_readGoals_42_l17 n i1 σ = some p → qE S d jm_5_readGoals_42 (17, [(0, .ref 32), (1, .int i1)], [], (σ, y)) ((.inl (some (.int p.1)), (p.2, y))) := by
  have hd9 : 9 ≤ d := by omega
  intro n
  induction n with
  | zero =>
    intros
    rename_i h
    unfold c_readGoals_42_l17 at h
    cases h
  | succ n ih =>
    intro i1 σ p h
    unfold c_readGoals_42_l17 at h
    refine qE.steps 3 hd9 (s' := (if Int32.ofInt 48 ≤ i1 then 75 else 23, [(0, .ref 32), (1, .int i1)], [], (σ, y))) rfl ?_
    by_cases c1 : Int32.ofInt 48 ≤ i1
    · rw [if_pos c1] at h
      rw [if_pos c1]
      refine qE.steps 1 hd9 (s' := (76, [(0, .ref 32), (1, .int i1)], [.int (Int32.ofInt 0)], (σ, y))) rfl ?_
      obtain rfl := Option.some.inj h
      exact qE.ret hd9 rfl rfl
    · rw [if_neg c1] at h
      rw [if_neg c1]
      refine qE.steps 1 hd9 (s' := (24, [(0, .ref 32), (1, .int i1)], [.ref 32], (σ, y))) rfl ?_
      refine qE.call hd9 rfl rfl rfl rfl (t_c_node_37 (by omega) rfl) ?_
      refine qE.steps 0 hd9 (s' := (27, [(0, .ref 32), (1, .int i1)], [.int (c_node_37 σ)], (σ, y))) rfl ?_
      refine qE.steps 2 hd9 (s' := (29, [(2, .int (c_node_37 σ)), (0, .ref 32), (1, .int i1)], [.ref 32], (σ, y))) rfl ?_
      obtain ⟨p2, e3, h⟩ := obind h
      refine qE.call hd9 rfl rfl rfl rfl (t_c_readGoal_44 (by omega) e3) ?_
      refine qE.steps 0 hd9 (s' := (32, [(2, .int (c_node_37 σ)), (0, .ref 32), (1, .int i1)], [.int p2.1], (p2.2, y))) rfl ?_
      refine qE.steps 1 hd9 (s' := (if ¬ (p2.1 = 0) then 37 else 35, [(2, .int (c_node_37 σ)), (0, .ref 32), (1, .int i1)], [], (p2.2, y))) rfl ?_
      by_cases c4 : p2.1 = 0
      · rw [if_pos c4] at h
        rw [if_neg (not_not_intro c4)]
        refine qE.steps 1 hd9 (s' := (36, [(2, .int (c_node_37 σ)), (0, .ref 32), (1, .int i1)], [.int (Int32.ofInt 0)], (p2.2, y))) rfl ?_
        obtain rfl := Option.some.inj h
        exact qE.ret hd9 rfl rfl
      · rw [if_neg c4] at h
        rw [if_pos c4]
        refine qE.steps 1 hd9 (s' := (38, [(2, .int (c_node_37 σ)), (0, .ref 32), (1, .int i1)], [.ref 32], (p2.2, y))) rfl ?_
        refine qE.call hd9 rfl rfl rfl rfl (t_c_atEnd_41 (by omega) rfl) ?_
        refine qE.steps 0 hd9 (s' := (41, [(2, .int (c_node_37 σ)), (0, .ref 32), (1, .int i1)], [.int (c_atEnd_41 p2.2)], (p2.2, y))) rfl ?_
        refine qE.steps 1 hd9 (s' := (if c_atEnd_41 p2.2 = 0 then 46 else 44, [(2, .int (c_node_37 σ)), (0, .ref 32), (1, .int i1)], [], (p2.2, y))) rfl ?_
        by_cases c5 : c_atEnd_41 p2.2 = 0
        · rw [if_pos c5] at h
          rw [if_pos c5]
          refine qE.steps 2 hd9 (s' := (49, [(2, .int (c_node_37 σ)), (0, .ref 32), (1, .int i1)], [.int (Int32.ofInt 44), .ref 32], (p2.2, y))) rfl ?_
          obtain ⟨p6, e7, h⟩ := obind h
          refine qE.call hd9 rfl rfl rfl rfl (t_c_readSign_39 (by omega) e7) ?_
          refine qE.steps 0 hd9 (s' := (52, [(2, .int (c_node_37 σ)), (0, .ref 32), (1, .int i1)], [.int p6.1], (p6.2, y))) rfl ?_
          refine qE.steps 1 hd9 (s' := (if ¬ (p6.1 = 0) then 57 else 55, [(2, .int (c_node_37 σ)), (0, .ref 32), (1, .int i1)], [], (p6.2, y))) rfl ?_
          by_cases c8 : p6.1 = 0
          · rw [if_pos c8] at h
            rw [if_neg (not_not_intro c8)]
            refine qE.steps 1 hd9 (s' := (56, [(2, .int (c_node_37 σ)), (0, .ref 32), (1, .int i1)], [.int (Int32.ofInt 0)], (p6.2, y))) rfl ?_
            obtain rfl := Option.some.inj h
            exact qE.ret hd9 rfl rfl
          · rw [if_neg c8] at h
            rw [if_pos c8]
            refine qE.steps 4 hd9 (s' := (63, [(2, .int (c_node_37 σ)), (0, .ref 32), (1, .int i1)], [.ref 32, .int (c_node_37 σ), .ref 27], (p6.2, y))) rfl ?_
            refine qE.call hd9 rfl rfl rfl rfl (t_c_node_37 (by omega) rfl) ?_
            refine qE.steps 0 hd9 (s' := (66, [(2, .int (c_node_37 σ)), (0, .ref 32), (1, .int i1)], [.int (c_node_37 p6.2), .int (c_node_37 σ), .ref 27], (p6.2, y))) rfl ?_
            obtain ⟨p9, e10, h⟩ := obind h
            refine qE.call hd9 rfl rfl rfl rfl (t_c_noteFollower_46 (by omega) e10) ?_
            refine qE.steps 0 hd9 (s' := (69, [(2, .int (c_node_37 σ)), (0, .ref 32), (1, .int i1)], [], (p9, y))) rfl ?_
            refine qE.steps 2 hd9 (s' := (17, [(1, .int (i1 + Int32.ofInt 1)), (2, .int (c_node_37 σ)), (0, .ref 32)], [], (p9, y))) rfl ?_
            exact qE.wk (ih h) ⟨rfl, rfl, trivial⟩ rfl
        · rw [if_neg c5] at h
          rw [if_neg c5]
          refine qE.steps 1 hd9 (s' := (45, [(2, .int (c_node_37 σ)), (0, .ref 32), (1, .int i1)], [.int (Int32.ofInt 1)], (p2.2, y))) rfl ?_
          obtain rfl := Option.some.inj h
          exact qE.ret hd9 rfl rfl
theorem t_c_readGoals_42 {S : Nat × (Nat → Int32)} {d : Nat} {y : qC × Int64 × Nat} {σ : qC} {p : (Int32 × qC)} (hd : 21 ≤ d) (h : c_readGoals_42 σ = some p) : qE S d jm_5_readGoals_42 (0, [(0, .ref 32)], [], (σ, y)) ((.inl (some (.int p.1)), (p.2, y))) := by
  have hd9 : 9 ≤ d := by omega
  unfold c_readGoals_42 at h
  refine qE.steps 5 hd9 (s' := (9, [(0, .ref 32)], [.ref 32, .int (σ.1 3202), .ref 27], (σ, y))) rfl ?_
  refine qE.call hd9 rfl rfl rfl rfl (t_c_node_37 (by omega) rfl) ?_
  refine qE.steps 0 hd9 (s' := (12, [(0, .ref 32)], [.int (c_node_37 σ), .int (σ.1 3202), .ref 27], (σ, y))) rfl ?_
  obtain ⟨p1, e2, h⟩ := obind h
  refine qE.call hd9 rfl rfl rfl rfl (t_c_noteFirstGoal_43 (by omega) e2) ?_
  refine qE.steps 0 hd9 (s' := (15, [(0, .ref 32)], [], (p1, y))) rfl ?_
  refine qE.steps 2 hd9 (s' := (17, [(1, .int (Int32.ofInt 0)), (0, .ref 32)], [], (p1, y))) rfl ?_
  exact qE.wk (t_c_readGoals_42_l17 hd qF h) ⟨rfl, rfl, trivial⟩ rfl
def c_readClause_27 (i1 : Int32) (σ : qC) : Option (Int32 × qC) := (c_begin_28 i1 σ).bind (fun p1 => if c_isSmall_33 (c_at_32 (p1.1 3203) p1) = 0 then (c_rankVariables_47 (p1.1 3202) p1).bind (fun p4 => some (Int32.ofInt 0, p4)) else (c_readTerm_34 8 (Int32.ofInt 1) p1).bind (fun p6 => if p6.1 = 0 then (c_rankVariables_47 (p6.2.1 3202) p6.2).bind (fun p9 => some (Int32.ofInt 0, p9)) else if c_atEnd_41 p6.2 = 0 then (c_readSign_39 (Int32.ofInt 58) p6.2).bind (fun p12 => if p12.1 = 0 then (c_rankVariables_47 (p12.2.1 3202) p12.2).bind (fun p15 => some (Int32.ofInt 0, p15)) else (c_readGoals_42 p12.2).bind (fun p17 => if p17.1 = 0 then (c_rankVariables_47 (p17.2.1 3202) p17.2).bind (fun p20 => some (Int32.ofInt 0, p20)) else (c_rankVariables_47 (p17.2.1 3202) p17.2).bind (fun p22 => some (Int32.ofInt 1, p22)))) else (c_rankVariables_47 (p6.2.1 3202) p6.2).bind (fun p24 => some (Int32.ofInt 1, p24))))
theorem t_c_readClause_27 {S : Nat × (Nat → Int32)} {d : Nat} {y : qC × Int64 × Nat} {i1 : Int32} {σ : qC} {p : (Int32 × qC)} (hd : 22 ≤ d) (h : c_readClause_27 i1 σ = some p) : qE S d jm_5_readClause_27 (0, [(0, .ref 32), (1, .int i1)], [], (σ, y)) ((.inl (some (.int p.1)), (p.2, y))) := by
  have hd9 : 9 ≤ d := by omega
  unfold c_readClause_27 at h
  refine qE.steps 2 hd9 (s' := (2, [(0, .ref 32), (1, .int i1)], [.int i1, .ref 32], (σ, y))) rfl ?_
  obtain ⟨p1, e2, h⟩ := obind h
  refine qE.call hd9 rfl rfl rfl rfl (t_c_begin_28 (by omega) e2) ?_
  refine qE.steps 0 hd9 (s' := (5, [(0, .ref 32), (1, .int i1)], [], (p1, y))) rfl ?_
  refine qE.steps 4 hd9 (s' := (13, [(0, .ref 32), (1, .int i1)], [.int (p1.1 3203), .ref 25], (p1, y))) rfl ?_
  refine qE.call hd9 rfl rfl rfl rfl (t_c_at_32 (by omega) rfl) ?_
  refine qE.steps 0 hd9 (s' := (16, [(0, .ref 32), (1, .int i1)], [.int (c_at_32 (p1.1 3203) p1)], (p1, y))) rfl ?_
  refine qE.call hd9 rfl rfl rfl rfl (t_c_isSmall_33 (by omega) rfl) ?_
  refine qE.steps 0 hd9 (s' := (19, [(0, .ref 32), (1, .int i1)], [.int (c_isSmall_33 (c_at_32 (p1.1 3203) p1))], (p1, y))) rfl ?_
  refine qE.steps 1 hd9 (s' := (if c_isSmall_33 (c_at_32 (p1.1 3203) p1) = 0 then 34 else 22, [(0, .ref 32), (1, .int i1)], [], (p1, y))) rfl ?_
  by_cases c3 : c_isSmall_33 (c_at_32 (p1.1 3203) p1) = 0
  · rw [if_pos c3] at h
    rw [if_pos c3]
    refine qE.steps 8 hd9 (s' := (77, [(2, .int (Int32.ofInt 0)), (0, .ref 32), (1, .int i1)], [.int (p1.1 3202), .ref 27], (p1, y))) rfl ?_
    obtain ⟨p4, e5, h⟩ := obind h
    refine qE.call hd9 rfl rfl rfl rfl (t_c_rankVariables_47 (by omega) e5) ?_
    refine qE.steps 0 hd9 (s' := (80, [(2, .int (Int32.ofInt 0)), (0, .ref 32), (1, .int i1)], [], (p4, y))) rfl ?_
    refine qE.steps 1 hd9 (s' := (81, [(2, .int (Int32.ofInt 0)), (0, .ref 32), (1, .int i1)], [.int (Int32.ofInt 0)], (p4, y))) rfl ?_
    obtain rfl := Option.some.inj h
    exact qE.ret hd9 rfl rfl
  · rw [if_neg c3] at h
    rw [if_neg c3]
    refine qE.steps 2 hd9 (s' := (24, [(0, .ref 32), (1, .int i1)], [.int (Int32.ofInt 1), .ref 32], (p1, y))) rfl ?_
    obtain ⟨p6, e7, h⟩ := obind h
    refine qE.call hd9 rfl rfl rfl rfl (t_c_readTerm_34 8 (by omega) e7) ?_
    refine qE.steps 0 hd9 (s' := (27, [(0, .ref 32), (1, .int i1)], [.int p6.1], (p6.2, y))) rfl ?_
    refine qE.steps 1 hd9 (s' := (if p6.1 = 0 then 34 else 30, [(0, .ref 32), (1, .int i1)], [], (p6.2, y))) rfl ?_
    by_cases c8 : p6.1 = 0
    · rw [if_pos c8] at h
      rw [if_pos c8]
      refine qE.steps 8 hd9 (s' := (77, [(2, .int (Int32.ofInt 0)), (0, .ref 32), (1, .int i1)], [.int (p6.2.1 3202), .ref 27], (p6.2, y))) rfl ?_
      obtain ⟨p9, e10, h⟩ := obind h
      refine qE.call hd9 rfl rfl rfl rfl (t_c_rankVariables_47 (by omega) e10) ?_
      refine qE.steps 0 hd9 (s' := (80, [(2, .int (Int32.ofInt 0)), (0, .ref 32), (1, .int i1)], [], (p9, y))) rfl ?_
      refine qE.steps 1 hd9 (s' := (81, [(2, .int (Int32.ofInt 0)), (0, .ref 32), (1, .int i1)], [.int (Int32.ofInt 0)], (p9, y))) rfl ?_
      obtain rfl := Option.some.inj h
      exact qE.ret hd9 rfl rfl
    · rw [if_neg c8] at h
      rw [if_neg c8]
      refine qE.steps 6 hd9 (s' := (41, [(2, .int (Int32.ofInt 1)), (0, .ref 32), (1, .int i1)], [.ref 32], (p6.2, y))) rfl ?_
      refine qE.call hd9 rfl rfl rfl rfl (t_c_atEnd_41 (by omega) rfl) ?_
      refine qE.steps 0 hd9 (s' := (44, [(2, .int (Int32.ofInt 1)), (0, .ref 32), (1, .int i1)], [.int (c_atEnd_41 p6.2)], (p6.2, y))) rfl ?_
      refine qE.steps 1 hd9 (s' := (if ¬ (c_atEnd_41 p6.2 = 0) then 69 else 47, [(2, .int (Int32.ofInt 1)), (0, .ref 32), (1, .int i1)], [], (p6.2, y))) rfl ?_
      by_cases c11 : c_atEnd_41 p6.2 = 0
      · rw [if_pos c11] at h
        rw [if_neg (not_not_intro c11)]
        refine qE.steps 2 hd9 (s' := (50, [(2, .int (Int32.ofInt 1)), (0, .ref 32), (1, .int i1)], [.int (Int32.ofInt 58), .ref 32], (p6.2, y))) rfl ?_
        obtain ⟨p12, e13, h⟩ := obind h
        refine qE.call hd9 rfl rfl rfl rfl (t_c_readSign_39 (by omega) e13) ?_
        refine qE.steps 0 hd9 (s' := (53, [(2, .int (Int32.ofInt 1)), (0, .ref 32), (1, .int i1)], [.int p12.1], (p12.2, y))) rfl ?_
        refine qE.steps 1 hd9 (s' := (if p12.1 = 0 then 67 else 56, [(2, .int (Int32.ofInt 1)), (0, .ref 32), (1, .int i1)], [], (p12.2, y))) rfl ?_
        by_cases c14 : p12.1 = 0
        · rw [if_pos c14] at h
          rw [if_pos c14]
          refine qE.steps 6 hd9 (s' := (77, [(2, .int (Int32.ofInt 0)), (0, .ref 32), (1, .int i1)], [.int (p12.2.1 3202), .ref 27], (p12.2, y))) rfl ?_
          obtain ⟨p15, e16, h⟩ := obind h
          refine qE.call hd9 rfl rfl rfl rfl (t_c_rankVariables_47 (by omega) e16) ?_
          refine qE.steps 0 hd9 (s' := (80, [(2, .int (Int32.ofInt 0)), (0, .ref 32), (1, .int i1)], [], (p15, y))) rfl ?_
          refine qE.steps 1 hd9 (s' := (81, [(2, .int (Int32.ofInt 0)), (0, .ref 32), (1, .int i1)], [.int (Int32.ofInt 0)], (p15, y))) rfl ?_
          obtain rfl := Option.some.inj h
          exact qE.ret hd9 rfl rfl
        · rw [if_neg c14] at h
          rw [if_neg c14]
          refine qE.steps 1 hd9 (s' := (57, [(2, .int (Int32.ofInt 1)), (0, .ref 32), (1, .int i1)], [.ref 32], (p12.2, y))) rfl ?_
          obtain ⟨p17, e18, h⟩ := obind h
          refine qE.call hd9 rfl rfl rfl rfl (t_c_readGoals_42 (by omega) e18) ?_
          refine qE.steps 0 hd9 (s' := (60, [(2, .int (Int32.ofInt 1)), (0, .ref 32), (1, .int i1)], [.int p17.1], (p17.2, y))) rfl ?_
          refine qE.steps 1 hd9 (s' := (if p17.1 = 0 then 67 else 63, [(2, .int (Int32.ofInt 1)), (0, .ref 32), (1, .int i1)], [], (p17.2, y))) rfl ?_
          by_cases c19 : p17.1 = 0
          · rw [if_pos c19] at h
            rw [if_pos c19]
            refine qE.steps 6 hd9 (s' := (77, [(2, .int (Int32.ofInt 0)), (0, .ref 32), (1, .int i1)], [.int (p17.2.1 3202), .ref 27], (p17.2, y))) rfl ?_
            obtain ⟨p20, e21, h⟩ := obind h
            refine qE.call hd9 rfl rfl rfl rfl (t_c_rankVariables_47 (by omega) e21) ?_
            refine qE.steps 0 hd9 (s' := (80, [(2, .int (Int32.ofInt 0)), (0, .ref 32), (1, .int i1)], [], (p20, y))) rfl ?_
            refine qE.steps 1 hd9 (s' := (81, [(2, .int (Int32.ofInt 0)), (0, .ref 32), (1, .int i1)], [.int (Int32.ofInt 0)], (p20, y))) rfl ?_
            obtain rfl := Option.some.inj h
            exact qE.ret hd9 rfl rfl
          · rw [if_neg c19] at h
            rw [if_neg c19]
            refine qE.steps 7 hd9 (s' := (77, [(2, .int (Int32.ofInt 1)), (0, .ref 32), (1, .int i1)], [.int (p17.2.1 3202), .ref 27], (p17.2, y))) rfl ?_
            obtain ⟨p22, e23, h⟩ := obind h
            refine qE.call hd9 rfl rfl rfl rfl (t_c_rankVariables_47 (by omega) e23) ?_
            refine qE.steps 0 hd9 (s' := (80, [(2, .int (Int32.ofInt 1)), (0, .ref 32), (1, .int i1)], [], (p22, y))) rfl ?_
            refine qE.steps 1 hd9 (s' := (81, [(2, .int (Int32.ofInt 1)), (0, .ref 32), (1, .int i1)], [.int (Int32.ofInt 1)], (p22, y))) rfl ?_
            obtain rfl := Option.some.inj h
            exact qE.ret hd9 rfl rfl
      · rw [if_neg c11] at h
        rw [if_pos c11]
        refine qE.steps 4 hd9 (s' := (77, [(2, .int (Int32.ofInt 1)), (0, .ref 32), (1, .int i1)], [.int (p6.2.1 3202), .ref 27], (p6.2, y))) rfl ?_
        obtain ⟨p24, e25, h⟩ := obind h
        refine qE.call hd9 rfl rfl rfl rfl (t_c_rankVariables_47 (by omega) e25) ?_
        refine qE.steps 0 hd9 (s' := (80, [(2, .int (Int32.ofInt 1)), (0, .ref 32), (1, .int i1)], [], (p24, y))) rfl ?_
        refine qE.steps 1 hd9 (s' := (81, [(2, .int (Int32.ofInt 1)), (0, .ref 32), (1, .int i1)], [.int (Int32.ofInt 1)], (p24, y))) rfl ?_
        obtain rfl := Option.some.inj h
        exact qE.ret hd9 rfl rfl
def c_clear_24 (σ : qC) : Option qC := qlet (upS σ 2501 (Int32.ofInt 0)) (fun σ1 => some σ1)
theorem t_c_clear_24 {S : Nat × (Nat → Int32)} {d : Nat} {y : qC × Int64 × Nat} {σ : qC} {p : qC} (hd : 9 ≤ d) (h : c_clear_24 σ = some p) : qE S d jm_9_clear_24 (0, [(0, .ref 25)], [], (σ, y)) ((.inl none, (p, y))) := by
  have hd9 : 9 ≤ d := by omega
  unfold c_clear_24 at h
  obtain ⟨σ1, e2, h⟩ := qlet_ex h
  refine qE.steps 3 hd9 (s' := (5, [(0, .ref 25)], [], (σ1, y))) (by subst e2; rfl) ?_
  obtain rfl := Option.some.inj h
  exact qE.ret hd9 rfl rfl
def c_place_49 (σ : qC) : Int32 := σ.1 3203
theorem t_c_place_49 {S : Nat × (Nat → Int32)} {d : Nat} {y : qC × Int64 × Nat} {σ : qC} {p : Int32} (hd : 9 ≤ d) (h : c_place_49 σ = p) : qE S d jm_5_place_49 (0, [(0, .ref 32)], [], (σ, y)) ((.inl (some (.int p)), (σ, y))) := by
  have hd9 : 9 ≤ d := by omega
  unfold c_place_49 at h
  refine qE.steps 2 hd9 (s' := (4, [(0, .ref 32)], [.int (σ.1 3203)], (σ, y))) rfl ?_
  subst h
  exact qE.ret hd9 rfl rfl
def c_keepFreePage_50 (σ : qC) : Option qC := if Int32.ofNat 12 ≤ σ.1 3302 then some σ else qlet (upS σ 3302 ((σ.1 3302) + (Int32.ofInt 1))) (fun σ2 => some σ2)
theorem t_c_keepFreePage_50 {S : Nat × (Nat → Int32)} {d : Nat} {y : qC × Int64 × Nat} {σ : qC} {p : qC} (hd : 9 ≤ d) (h : c_keepFreePage_50 σ = some p) : qE S d jm_2_keepFreePage_50 (0, [(0, .ref 33)], [], (σ, y)) ((.inl none, (p, y))) := by
  have hd9 : 9 ≤ d := by omega
  unfold c_keepFreePage_50 at h
  refine qE.steps 6 hd9 (s' := (if Int32.ofNat 12 ≤ σ.1 3302 then 22 else 12, [(0, .ref 33)], [], (σ, y))) rfl ?_
  by_cases c1 : Int32.ofNat 12 ≤ σ.1 3302
  · rw [if_pos c1] at h
    rw [if_pos c1]
    obtain rfl := Option.some.inj h
    exact qE.ret hd9 rfl rfl
  · rw [if_neg c1] at h
    rw [if_neg c1]
    obtain ⟨σ2, e3, h⟩ := qlet_ex h
    refine qE.steps 6 hd9 (s' := (22, [(0, .ref 33)], [], (σ2, y))) (by subst e3; rfl) ?_
    obtain rfl := Option.some.inj h
    exact qE.ret hd9 rfl rfl
def c_add_23 (σ : qC) : Option ((Int32 ⊕ Nat) × qC) := if c_size_13 σ < Int32.ofInt 12 then (c_readClause_27 (c_freePage_25 σ) σ).bind (fun p2 => (c_clear_24 p2.2).bind (fun p4 => if p2.1 = 0 then qlet (upS p4 2409 (c_place_49 p4)) (fun σ7 => some (.inr 12, σ7)) else (c_keepFreePage_50 p4).bind (fun p9 => qlet (upS p9 2410 (Int32.ofInt 0)) (fun σ11 => some (.inl (c_size_13 σ11), σ11))))) else (c_clear_24 σ).bind (fun p13 => some (.inr 13, p13))
theorem t_c_add_23 {S : Nat × (Nat → Int32)} {d : Nat} {y : qC × Int64 × Nat} {σ : qC} {p : ((Int32 ⊕ Nat) × qC)} (hd : 23 ≤ d) (h : c_add_23 σ = some p) : qE S d jm_0_add_23 (0, [(0, .ref 24)], [], (σ, y)) (qres p y) := by
  have hd9 : 9 ≤ d := by omega
  unfold c_add_23 at h
  refine qE.steps 2 hd9 (s' := (4, [(0, .ref 24)], [.ref 33], (σ, y))) rfl ?_
  refine qE.call hd9 rfl rfl rfl rfl (t_c_size_13 (by omega) rfl) ?_
  refine qE.steps 0 hd9 (s' := (7, [(0, .ref 24)], [.int (c_size_13 σ)], (σ, y))) rfl ?_
  refine qE.steps 2 hd9 (s' := (if c_size_13 σ < Int32.ofInt 12 then 29 else 12, [(0, .ref 24)], [], (σ, y))) rfl ?_
  by_cases c1 : c_size_13 σ < Int32.ofInt 12
  · rw [if_pos c1] at h
    rw [if_pos c1]
    refine qE.steps 4 hd9 (s' := (37, [(0, .ref 24)], [.ref 33, .ref 32], (σ, y))) rfl ?_
    refine qE.call hd9 rfl rfl rfl rfl (t_c_freePage_25 (by omega) rfl) ?_
    refine qE.steps 0 hd9 (s' := (40, [(0, .ref 24)], [.int (c_freePage_25 σ), .ref 32], (σ, y))) rfl ?_
    obtain ⟨p2, e3, h⟩ := obind h
    refine qE.call hd9 rfl rfl rfl rfl (t_c_readClause_27 (by omega) e3) ?_
    refine qE.steps 0 hd9 (s' := (43, [(0, .ref 24)], [.int p2.1], (p2.2, y))) rfl ?_
    refine qE.steps 3 hd9 (s' := (48, [(1, .int p2.1), (0, .ref 24)], [.ref 25], (p2.2, y))) rfl ?_
    obtain ⟨p4, e5, h⟩ := obind h
    refine qE.call hd9 rfl rfl rfl rfl (t_c_clear_24 (by omega) e5) ?_
    refine qE.steps 0 hd9 (s' := (51, [(1, .int p2.1), (0, .ref 24)], [], (p4, y))) rfl ?_
    refine qE.steps 2 hd9 (s' := (if ¬ (p2.1 = 0) then 76 else 55, [(1, .int p2.1), (0, .ref 24)], [], (p4, y))) rfl ?_
    by_cases c6 : p2.1 = 0
    · rw [if_pos c6] at h
      rw [if_neg (not_not_intro c6)]
      refine qE.steps 3 hd9 (s' := (60, [(1, .int p2.1), (0, .ref 24)], [.ref 32, .ref 24], (p4, y))) rfl ?_
      refine qE.call hd9 rfl rfl rfl rfl (t_c_place_49 (by omega) rfl) ?_
      refine qE.steps 0 hd9 (s' := (63, [(1, .int p2.1), (0, .ref 24)], [.int (c_place_49 p4), .ref 24], (p4, y))) rfl ?_
      obtain ⟨σ7, e8, h⟩ := qlet_ex h
      refine qE.steps 1 hd9 (s' := (66, [(1, .int p2.1), (0, .ref 24)], [], (σ7, y))) (by subst e8; rfl) ?_
      obtain rfl := Option.some.inj h
      exact qE.thr hd9 rfl rfl rfl
    · rw [if_neg c6] at h
      rw [if_pos c6]
      refine qE.steps 2 hd9 (s' := (80, [(1, .int p2.1), (0, .ref 24)], [.ref 33], (p4, y))) rfl ?_
      obtain ⟨p9, e10, h⟩ := obind h
      refine qE.call hd9 rfl rfl rfl rfl (t_c_keepFreePage_50 (by omega) e10) ?_
      refine qE.steps 0 hd9 (s' := (83, [(1, .int p2.1), (0, .ref 24)], [], (p9, y))) rfl ?_
      obtain ⟨σ11, e12, h⟩ := qlet_ex h
      refine qE.steps 3 hd9 (s' := (88, [(1, .int p2.1), (0, .ref 24)], [], (σ11, y))) (by subst e12; rfl) ?_
      refine qE.steps 2 hd9 (s' := (92, [(1, .int p2.1), (0, .ref 24)], [.ref 33], (σ11, y))) rfl ?_
      refine qE.call hd9 rfl rfl rfl rfl (t_c_size_13 (by omega) rfl) ?_
      refine qE.steps 0 hd9 (s' := (95, [(1, .int p2.1), (0, .ref 24)], [.int (c_size_13 σ11)], (σ11, y))) rfl ?_
      obtain rfl := Option.some.inj h
      exact qE.ret hd9 rfl rfl
  · rw [if_neg c1] at h
    rw [if_neg c1]
    refine qE.steps 2 hd9 (s' := (16, [(0, .ref 24)], [.ref 25], (σ, y))) rfl ?_
    obtain ⟨p13, e14, h⟩ := obind h
    refine qE.call hd9 rfl rfl rfl rfl (t_c_clear_24 (by omega) e14) ?_
    refine qE.steps 0 hd9 (s' := (19, [(0, .ref 24)], [], (p13, y))) rfl ?_
    obtain rfl := Option.some.inj h
    exact qE.thr hd9 rfl rfl rfl
