/-! BY PROGRAM (wip/whole/gendc.py): each method as a function over the numbers -/
def m_seek_148_l17 : Nat → Int32 → qC → Option (Int32 × qC)
  | 0, _, _ => none
  | n + 1, i2, σ => if i2 = 0 then if σ.1 6411 = 0 then qlet (upS σ 6411 (Int32.ofInt 2)) (fun σ4 => if σ4.1 6411 ≤ 0 then qlet (upS σ4 6431 ((σ4.1 6431) + (Int32.ofInt 1))) (fun σ7 => some (σ7.1 6430, σ7)) else qlet (upS σ4 6438 (Int32.ofInt 0)) (fun σ9 => some (Int32.ofInt 0, σ9))) else if σ.1 6411 ≤ 0 then qlet (upS σ 6431 ((σ.1 6431) + (Int32.ofInt 1))) (fun σ12 => some (σ12.1 6430, σ12)) else qlet (upS σ 6438 (Int32.ofInt 0)) (fun σ14 => some (Int32.ofInt 0, σ14)) else if σ.1 6429 < 0 then if σ.1 6411 = 0 then if σ.1 6411 ≤ 0 then qlet (upS σ 6431 ((σ.1 6431) + (Int32.ofInt 1))) (fun σ20 => some (σ20.1 6430, σ20)) else qlet (upS σ 6438 (Int32.ofInt 0)) (fun σ22 => some (Int32.ofInt 0, σ22)) else if σ.1 6411 ≤ 0 then qlet (upS σ 6431 ((σ.1 6431) + (Int32.ofInt 1))) (fun σ25 => some (σ25.1 6430, σ25)) else qlet (upS σ 6438 (Int32.ofInt 0)) (fun σ27 => some (Int32.ofInt 0, σ27)) else if σ.1 6411 = 0 then (m_step_157 σ).bind (fun p30 => if p30.1 = 0 then if p30.2.1 6411 = 0 then if p30.2.1 6411 ≤ 0 then qlet (upS p30.2 6431 ((p30.2.1 6431) + (Int32.ofInt 1))) (fun σ36 => some (σ36.1 6430, σ36)) else qlet (upS p30.2 6438 (Int32.ofInt 0)) (fun σ38 => some (Int32.ofInt 0, σ38)) else if p30.2.1 6411 ≤ 0 then qlet (upS p30.2 6431 ((p30.2.1 6431) + (Int32.ofInt 1))) (fun σ41 => some (σ41.1 6430, σ41)) else qlet (upS p30.2 6438 (Int32.ofInt 0)) (fun σ43 => some (Int32.ofInt 0, σ43)) else (m_perform_163 (p30.2.1 6429) p30.2).bind (fun p45 => if p45.1 = 0 then if p45.2.1 6411 = 0 then (m_back_149 p45.2).bind (fun p49 => if p49.1 = 0 then (m_seek_148_l17 n) (Int32.ofInt 0) p49.2 else (m_seek_148_l17 n) (Int32.ofInt 1) p49.2) else (m_seek_148_l17 n) (Int32.ofInt 0) p45.2 else (m_seek_148_l17 n) (Int32.ofInt 1) p45.2)) else if σ.1 6411 ≤ 0 then qlet (upS σ 6431 ((σ.1 6431) + (Int32.ofInt 1))) (fun σ54 => some (σ54.1 6430, σ54)) else qlet (upS σ 6438 (Int32.ofInt 0)) (fun σ56 => some (Int32.ofInt 0, σ56))
def m_seek_148 (i1 : Int32) (σ : qC) : Option (Int32 × qC) := if i1 = 0 then m_seek_148_l17 qF (Int32.ofInt 1) σ else (m_back_149 σ).bind (fun p2 => if p2.1 = 0 then m_seek_148_l17 qF (Int32.ofInt 0) p2.2 else m_seek_148_l17 qF (Int32.ofInt 1) p2.2)
set_option maxRecDepth 20000 in
theorem t_m_seek_148_l17 {S : Nat × (Nat → Int32)} {d : Nat} {x : qC} {y : Int64 × Nat} (hd : 17 ≤ d) : ∀ (n : Nat) {i2 : Int32} {σ : qC} {p : (Int32 × qC)}, m_seek_148_l17 n i2 σ = some p → qE S d jm_12_seek_148 (17, [(0, .ref 64), (2, .int i2)], [], (x, σ, y)) ((.inl (some (.int p.1)), (x, p.2, y))) := by
  have hd9 : 9 ≤ d := by omega
  intro n
  induction n with
  | zero =>
    intros
    rename_i h
    unfold m_seek_148_l17 at h
    cases h
  | succ n ih =>
    intro i2 σ p h
    unfold m_seek_148_l17 at h
    refine qE.steps 2 hd9 (s' := (if i2 = 0 then 79 else 21, [(0, .ref 64), (2, .int i2)], [], (x, σ, y))) rfl ?_
    by_cases c1 : i2 = 0
    · rw [if_pos c1] at h
      rw [if_pos c1]
      refine qE.steps 3 hd9 (s' := (if ¬ (σ.1 6411 = 0) then 95 else 86, [(0, .ref 64), (2, .int i2)], [], (x, σ, y))) rfl ?_
      by_cases c2 : σ.1 6411 = 0
      · rw [if_pos c2] at h
        rw [if_neg (not_not_intro c2)]
        refine qE.steps 2 hd9 (s' := (if ¬ (i2 = 0) then 95 else 90, [(0, .ref 64), (2, .int i2)], [], (x, σ, y))) rfl ?_
        rw [if_neg (not_not_intro c1)]
        obtain ⟨σ4, e5, h⟩ := qlet_ex h
        refine qE.steps 3 hd9 (s' := (95, [(0, .ref 64), (2, .int i2)], [], (x, σ4, y))) (by subst e5; rfl) ?_
        refine qE.steps 3 hd9 (s' := (if σ4.1 6411 ≤ 0 then 109 else 102, [(0, .ref 64), (2, .int i2)], [], (x, σ4, y))) rfl ?_
        by_cases c6 : σ4.1 6411 ≤ 0
        · rw [if_pos c6] at h
          rw [if_pos c6]
          obtain ⟨σ7, e8, h⟩ := qlet_ex h
          refine qE.steps 6 hd9 (s' := (119, [(0, .ref 64), (2, .int i2)], [], (x, σ7, y))) (by subst e8; rfl) ?_
          refine qE.steps 2 hd9 (s' := (123, [(0, .ref 64), (2, .int i2)], [.int (σ7.1 6430)], (x, σ7, y))) rfl ?_
          obtain rfl := Option.some.inj h
          exact qE.ret hd9 rfl rfl
        · rw [if_neg c6] at h
          rw [if_neg c6]
          obtain ⟨σ9, e10, h⟩ := qlet_ex h
          refine qE.steps 3 hd9 (s' := (107, [(0, .ref 64), (2, .int i2)], [], (x, σ9, y))) (by subst e10; rfl) ?_
          refine qE.steps 1 hd9 (s' := (108, [(0, .ref 64), (2, .int i2)], [.int (Int32.ofInt 0)], (x, σ9, y))) rfl ?_
          obtain rfl := Option.some.inj h
          exact qE.ret hd9 rfl rfl
      · rw [if_neg c2] at h
        rw [if_pos c2]
        refine qE.steps 3 hd9 (s' := (if σ.1 6411 ≤ 0 then 109 else 102, [(0, .ref 64), (2, .int i2)], [], (x, σ, y))) rfl ?_
        by_cases c11 : σ.1 6411 ≤ 0
        · rw [if_pos c11] at h
          rw [if_pos c11]
          obtain ⟨σ12, e13, h⟩ := qlet_ex h
          refine qE.steps 6 hd9 (s' := (119, [(0, .ref 64), (2, .int i2)], [], (x, σ12, y))) (by subst e13; rfl) ?_
          refine qE.steps 2 hd9 (s' := (123, [(0, .ref 64), (2, .int i2)], [.int (σ12.1 6430)], (x, σ12, y))) rfl ?_
          obtain rfl := Option.some.inj h
          exact qE.ret hd9 rfl rfl
        · rw [if_neg c11] at h
          rw [if_neg c11]
          obtain ⟨σ14, e15, h⟩ := qlet_ex h
          refine qE.steps 3 hd9 (s' := (107, [(0, .ref 64), (2, .int i2)], [], (x, σ14, y))) (by subst e15; rfl) ?_
          refine qE.steps 1 hd9 (s' := (108, [(0, .ref 64), (2, .int i2)], [.int (Int32.ofInt 0)], (x, σ14, y))) rfl ?_
          obtain rfl := Option.some.inj h
          exact qE.ret hd9 rfl rfl
    · rw [if_neg c1] at h
      rw [if_neg c1]
      refine qE.steps 3 hd9 (s' := (if σ.1 6429 < 0 then 79 else 28, [(0, .ref 64), (2, .int i2)], [], (x, σ, y))) rfl ?_
      by_cases c16 : σ.1 6429 < 0
      · rw [if_pos c16] at h
        rw [if_pos c16]
        refine qE.steps 3 hd9 (s' := (if ¬ (σ.1 6411 = 0) then 95 else 86, [(0, .ref 64), (2, .int i2)], [], (x, σ, y))) rfl ?_
        by_cases c17 : σ.1 6411 = 0
        · rw [if_pos c17] at h
          rw [if_neg (not_not_intro c17)]
          refine qE.steps 2 hd9 (s' := (if ¬ (i2 = 0) then 95 else 90, [(0, .ref 64), (2, .int i2)], [], (x, σ, y))) rfl ?_
          rw [if_pos c1]
          refine qE.steps 3 hd9 (s' := (if σ.1 6411 ≤ 0 then 109 else 102, [(0, .ref 64), (2, .int i2)], [], (x, σ, y))) rfl ?_
          by_cases c19 : σ.1 6411 ≤ 0
          · rw [if_pos c19] at h
            rw [if_pos c19]
            obtain ⟨σ20, e21, h⟩ := qlet_ex h
            refine qE.steps 6 hd9 (s' := (119, [(0, .ref 64), (2, .int i2)], [], (x, σ20, y))) (by subst e21; rfl) ?_
            refine qE.steps 2 hd9 (s' := (123, [(0, .ref 64), (2, .int i2)], [.int (σ20.1 6430)], (x, σ20, y))) rfl ?_
            obtain rfl := Option.some.inj h
            exact qE.ret hd9 rfl rfl
          · rw [if_neg c19] at h
            rw [if_neg c19]
            obtain ⟨σ22, e23, h⟩ := qlet_ex h
            refine qE.steps 3 hd9 (s' := (107, [(0, .ref 64), (2, .int i2)], [], (x, σ22, y))) (by subst e23; rfl) ?_
            refine qE.steps 1 hd9 (s' := (108, [(0, .ref 64), (2, .int i2)], [.int (Int32.ofInt 0)], (x, σ22, y))) rfl ?_
            obtain rfl := Option.some.inj h
            exact qE.ret hd9 rfl rfl
        · rw [if_neg c17] at h
          rw [if_pos c17]
          refine qE.steps 3 hd9 (s' := (if σ.1 6411 ≤ 0 then 109 else 102, [(0, .ref 64), (2, .int i2)], [], (x, σ, y))) rfl ?_
          by_cases c24 : σ.1 6411 ≤ 0
          · rw [if_pos c24] at h
            rw [if_pos c24]
            obtain ⟨σ25, e26, h⟩ := qlet_ex h
            refine qE.steps 6 hd9 (s' := (119, [(0, .ref 64), (2, .int i2)], [], (x, σ25, y))) (by subst e26; rfl) ?_
            refine qE.steps 2 hd9 (s' := (123, [(0, .ref 64), (2, .int i2)], [.int (σ25.1 6430)], (x, σ25, y))) rfl ?_
            obtain rfl := Option.some.inj h
            exact qE.ret hd9 rfl rfl
          · rw [if_neg c24] at h
            rw [if_neg c24]
            obtain ⟨σ27, e28, h⟩ := qlet_ex h
            refine qE.steps 3 hd9 (s' := (107, [(0, .ref 64), (2, .int i2)], [], (x, σ27, y))) (by subst e28; rfl) ?_
            refine qE.steps 1 hd9 (s' := (108, [(0, .ref 64), (2, .int i2)], [.int (Int32.ofInt 0)], (x, σ27, y))) rfl ?_
            obtain rfl := Option.some.inj h
            exact qE.ret hd9 rfl rfl
      · rw [if_neg c16] at h
        rw [if_neg c16]
        refine qE.steps 3 hd9 (s' := (if ¬ (σ.1 6411 = 0) then 79 else 35, [(0, .ref 64), (2, .int i2)], [], (x, σ, y))) rfl ?_
        by_cases c29 : σ.1 6411 = 0
        · rw [if_pos c29] at h
          rw [if_neg (not_not_intro c29)]
          refine qE.steps 1 hd9 (s' := (36, [(0, .ref 64), (2, .int i2)], [.ref 64], (x, σ, y))) rfl ?_
          obtain ⟨p30, e31, h⟩ := obind h
          refine qE.call hd9 rfl rfl rfl rfl (t_m_step_157 (by omega) e31) ?_
          refine qE.steps 0 hd9 (s' := (39, [(0, .ref 64), (2, .int i2)], [.int p30.1], (x, p30.2, y))) rfl ?_
          refine qE.steps 1 hd9 (s' := (if ¬ (p30.1 = 0) then 45 else 42, [(0, .ref 64), (2, .int i2)], [], (x, p30.2, y))) rfl ?_
          by_cases c32 : p30.1 = 0
          · rw [if_pos c32] at h
            rw [if_neg (not_not_intro c32)]
            refine qE.steps 4 hd9 (s' := (if ¬ (p30.2.1 6411 = 0) then 95 else 86, [(0, .ref 64), (2, .int i2)], [], (x, p30.2, y))) rfl ?_
            by_cases c33 : p30.2.1 6411 = 0
            · rw [if_pos c33] at h
              rw [if_neg (not_not_intro c33)]
              refine qE.steps 2 hd9 (s' := (if ¬ (i2 = 0) then 95 else 90, [(0, .ref 64), (2, .int i2)], [], (x, p30.2, y))) rfl ?_
              rw [if_pos c1]
              refine qE.steps 3 hd9 (s' := (if p30.2.1 6411 ≤ 0 then 109 else 102, [(0, .ref 64), (2, .int i2)], [], (x, p30.2, y))) rfl ?_
              by_cases c35 : p30.2.1 6411 ≤ 0
              · rw [if_pos c35] at h
                rw [if_pos c35]
                obtain ⟨σ36, e37, h⟩ := qlet_ex h
                refine qE.steps 6 hd9 (s' := (119, [(0, .ref 64), (2, .int i2)], [], (x, σ36, y))) (by subst e37; rfl) ?_
                refine qE.steps 2 hd9 (s' := (123, [(0, .ref 64), (2, .int i2)], [.int (σ36.1 6430)], (x, σ36, y))) rfl ?_
                obtain rfl := Option.some.inj h
                exact qE.ret hd9 rfl rfl
              · rw [if_neg c35] at h
                rw [if_neg c35]
                obtain ⟨σ38, e39, h⟩ := qlet_ex h
                refine qE.steps 3 hd9 (s' := (107, [(0, .ref 64), (2, .int i2)], [], (x, σ38, y))) (by subst e39; rfl) ?_
                refine qE.steps 1 hd9 (s' := (108, [(0, .ref 64), (2, .int i2)], [.int (Int32.ofInt 0)], (x, σ38, y))) rfl ?_
                obtain rfl := Option.some.inj h
                exact qE.ret hd9 rfl rfl
            · rw [if_neg c33] at h
              rw [if_pos c33]
              refine qE.steps 3 hd9 (s' := (if p30.2.1 6411 ≤ 0 then 109 else 102, [(0, .ref 64), (2, .int i2)], [], (x, p30.2, y))) rfl ?_
              by_cases c40 : p30.2.1 6411 ≤ 0
              · rw [if_pos c40] at h
                rw [if_pos c40]
                obtain ⟨σ41, e42, h⟩ := qlet_ex h
                refine qE.steps 6 hd9 (s' := (119, [(0, .ref 64), (2, .int i2)], [], (x, σ41, y))) (by subst e42; rfl) ?_
                refine qE.steps 2 hd9 (s' := (123, [(0, .ref 64), (2, .int i2)], [.int (σ41.1 6430)], (x, σ41, y))) rfl ?_
                obtain rfl := Option.some.inj h
                exact qE.ret hd9 rfl rfl
              · rw [if_neg c40] at h
                rw [if_neg c40]
                obtain ⟨σ43, e44, h⟩ := qlet_ex h
                refine qE.steps 3 hd9 (s' := (107, [(0, .ref 64), (2, .int i2)], [], (x, σ43, y))) (by subst e44; rfl) ?_
                refine qE.steps 1 hd9 (s' := (108, [(0, .ref 64), (2, .int i2)], [.int (Int32.ofInt 0)], (x, σ43, y))) rfl ?_
                obtain rfl := Option.some.inj h
                exact qE.ret hd9 rfl rfl
          · rw [if_neg c32] at h
            rw [if_pos c32]
            refine qE.steps 3 hd9 (s' := (50, [(0, .ref 64), (2, .int i2)], [.int (p30.2.1 6429), .ref 64], (x, p30.2, y))) rfl ?_
            obtain ⟨p45, e46, h⟩ := obind h
            refine qE.call hd9 rfl rfl rfl rfl (t_m_perform_163 (by omega) e46) ?_
            refine qE.steps 0 hd9 (s' := (53, [(0, .ref 64), (2, .int i2)], [.int p45.1], (x, p45.2, y))) rfl ?_
            refine qE.steps 1 hd9 (s' := (if ¬ (p45.1 = 0) then 70 else 56, [(0, .ref 64), (2, .int i2)], [], (x, p45.2, y))) rfl ?_
            by_cases c47 : p45.1 = 0
            · rw [if_pos c47] at h
              rw [if_neg (not_not_intro c47)]
              refine qE.steps 3 hd9 (s' := (if ¬ (p45.2.1 6411 = 0) then 74 else 63, [(0, .ref 64), (2, .int i2)], [], (x, p45.2, y))) rfl ?_
              by_cases c48 : p45.2.1 6411 = 0
              · rw [if_pos c48] at h
                rw [if_neg (not_not_intro c48)]
                refine qE.steps 1 hd9 (s' := (64, [(0, .ref 64), (2, .int i2)], [.ref 64], (x, p45.2, y))) rfl ?_
                obtain ⟨p49, e50, h⟩ := obind h
                refine qE.call hd9 rfl rfl rfl rfl (t_m_back_149 (by omega) e50) ?_
                refine qE.steps 0 hd9 (s' := (67, [(0, .ref 64), (2, .int i2)], [.int p49.1], (x, p49.2, y))) rfl ?_
                refine qE.steps 1 hd9 (s' := (if p49.1 = 0 then 74 else 70, [(0, .ref 64), (2, .int i2)], [], (x, p49.2, y))) rfl ?_
                by_cases c51 : p49.1 = 0
                · rw [if_pos c51] at h
                  rw [if_pos c51]
                  refine qE.steps 3 hd9 (s' := (17, [(2, .int (Int32.ofInt 0)), (0, .ref 64)], [], (x, p49.2, y))) rfl ?_
                  exact qE.wk (ih h) ⟨rfl, rfl, trivial⟩ rfl
                · rw [if_neg c51] at h
                  rw [if_neg c51]
                  refine qE.steps 4 hd9 (s' := (17, [(2, .int (Int32.ofInt 1)), (0, .ref 64)], [], (x, p49.2, y))) rfl ?_
                  exact qE.wk (ih h) ⟨rfl, rfl, trivial⟩ rfl
              · rw [if_neg c48] at h
                rw [if_pos c48]
                refine qE.steps 3 hd9 (s' := (17, [(2, .int (Int32.ofInt 0)), (0, .ref 64)], [], (x, p45.2, y))) rfl ?_
                exact qE.wk (ih h) ⟨rfl, rfl, trivial⟩ rfl
            · rw [if_neg c47] at h
              rw [if_pos c47]
              refine qE.steps 4 hd9 (s' := (17, [(2, .int (Int32.ofInt 1)), (0, .ref 64)], [], (x, p45.2, y))) rfl ?_
              exact qE.wk (ih h) ⟨rfl, rfl, trivial⟩ rfl
        · rw [if_neg c29] at h
          rw [if_pos c29]
          refine qE.steps 3 hd9 (s' := (if ¬ (σ.1 6411 = 0) then 95 else 86, [(0, .ref 64), (2, .int i2)], [], (x, σ, y))) rfl ?_
          rw [if_pos c29]
          refine qE.steps 3 hd9 (s' := (if σ.1 6411 ≤ 0 then 109 else 102, [(0, .ref 64), (2, .int i2)], [], (x, σ, y))) rfl ?_
          by_cases c53 : σ.1 6411 ≤ 0
          · rw [if_pos c53] at h
            rw [if_pos c53]
            obtain ⟨σ54, e55, h⟩ := qlet_ex h
            refine qE.steps 6 hd9 (s' := (119, [(0, .ref 64), (2, .int i2)], [], (x, σ54, y))) (by subst e55; rfl) ?_
            refine qE.steps 2 hd9 (s' := (123, [(0, .ref 64), (2, .int i2)], [.int (σ54.1 6430)], (x, σ54, y))) rfl ?_
            obtain rfl := Option.some.inj h
            exact qE.ret hd9 rfl rfl
          · rw [if_neg c53] at h
            rw [if_neg c53]
            obtain ⟨σ56, e57, h⟩ := qlet_ex h
            refine qE.steps 3 hd9 (s' := (107, [(0, .ref 64), (2, .int i2)], [], (x, σ56, y))) (by subst e57; rfl) ?_
            refine qE.steps 1 hd9 (s' := (108, [(0, .ref 64), (2, .int i2)], [.int (Int32.ofInt 0)], (x, σ56, y))) rfl ?_
            obtain rfl := Option.some.inj h
            exact qE.ret hd9 rfl rfl
set_option maxRecDepth 20000 in
theorem t_m_seek_148 {S : Nat × (Nat → Int32)} {d : Nat} {x : qC} {y : Int64 × Nat} {i1 : Int32} {σ : qC} {p : (Int32 × qC)} (hd : 17 ≤ d) (h : m_seek_148 i1 σ = some p) : qE S d jm_12_seek_148 (0, [(0, .ref 64), (1, .int i1)], [], (x, σ, y)) ((.inl (some (.int p.1)), (x, p.2, y))) := by
  have hd9 : 9 ≤ d := by omega
  unfold m_seek_148 at h
  refine qE.steps 2 hd9 (s' := (if i1 = 0 then 11 else 4, [(0, .ref 64), (1, .int i1)], [], (x, σ, y))) rfl ?_
  by_cases c1 : i1 = 0
  · rw [if_pos c1] at h
    rw [if_pos c1]
    refine qE.steps 3 hd9 (s' := (17, [(2, .int (Int32.ofInt 1)), (0, .ref 64), (1, .int i1)], [], (x, σ, y))) rfl ?_
    exact qE.wk (t_m_seek_148_l17 hd qF h) ⟨rfl, rfl, trivial⟩ rfl
  · rw [if_neg c1] at h
    rw [if_neg c1]
    refine qE.steps 1 hd9 (s' := (5, [(0, .ref 64), (1, .int i1)], [.ref 64], (x, σ, y))) rfl ?_
    obtain ⟨p2, e3, h⟩ := obind h
    refine qE.call hd9 rfl rfl rfl rfl (t_m_back_149 (by omega) e3) ?_
    refine qE.steps 0 hd9 (s' := (8, [(0, .ref 64), (1, .int i1)], [.int p2.1], (x, p2.2, y))) rfl ?_
    refine qE.steps 1 hd9 (s' := (if p2.1 = 0 then 15 else 11, [(0, .ref 64), (1, .int i1)], [], (x, p2.2, y))) rfl ?_
    by_cases c4 : p2.1 = 0
    · rw [if_pos c4] at h
      rw [if_pos c4]
      refine qE.steps 2 hd9 (s' := (17, [(2, .int (Int32.ofInt 0)), (0, .ref 64), (1, .int i1)], [], (x, p2.2, y))) rfl ?_
      exact qE.wk (t_m_seek_148_l17 hd qF h) ⟨rfl, rfl, trivial⟩ rfl
    · rw [if_neg c4] at h
      rw [if_neg c4]
      refine qE.steps 3 hd9 (s' := (17, [(2, .int (Int32.ofInt 1)), (0, .ref 64), (1, .int i1)], [], (x, p2.2, y))) rfl ?_
      exact qE.wk (t_m_seek_148_l17 hd qF h) ⟨rfl, rfl, trivial⟩ rfl
def m_ask_139_l148 : Nat → Int32 → qC → Option (Int32 × qC)
  | 0, _, _ => none
  | n + 1, i3, σ => if Int32.ofInt 26 ≤ i3 then (m_buildGoals_142 (Int32.ofInt 0) (Int32.ofInt (-1)) σ).bind (fun p2 => qlet (upS p2.2 6429 p2.1) (fun σ4 => (m_seek_148 (Int32.ofInt 0) σ4).bind (fun p6 => some (p6.1, p6.2)))) else (aget (σ.2 70) 26 i3).bind (fun x8 => (aput σ 71 26 i3 x8).bind (fun σ10 => (m_ask_139_l148 n) (i3 + Int32.ofInt 1) σ10))
def m_ask_139_l99 : Nat → Int32 → Int32 → qC → Option (Int32 × qC)
  | 0, _, _, _ => none
  | n + 1, i2, i3, σ => if i2 ≤ i3 then qlet (upS σ 6412 (Int32.ofInt 576)) (fun σ2 => qlet (upS σ2 6413 ((Int32.ofInt 576) + i2)) (fun σ4 => (m_number_140 σ4).bind (fun p6 => m_ask_139_l148 qF (Int32.ofInt 0) p6))) else (aget (σ.2 65) 48 i3).bind (fun x8 => (aput σ 66 624 ((Int32.ofInt 576) + i3) x8).bind (fun σ10 => (m_ask_139_l99 n) i2 (i3 + Int32.ofInt 1) σ10))
def m_ask_139 (σ : qC) : Option (Int32 × qC) := qlet (upS σ 6410 (Int32.ofInt 0)) (fun σ1 => (m_readGoals_137 σ1).bind (fun p3 => if p3.1 = 0 then qlet (upS p3.2 6409 (p3.2.1 6410)) (fun σ6 => qlet (upS σ6 6407 (Int32.ofInt 0)) (fun σ8 => (if p3.1 = 0 ∨ p3.1 = 1 then qlet (upS σ8 6438 p3.1) (fun σ11 => (m_bad_130 p3.1 σ11).bind (fun p13 => if p13.1 = 0 then qlet (upS p13.2 6435 (Int32.ofInt 0)) (fun σ16 => qlet (upS σ16 6434 (Int32.ofInt 0)) (fun σ18 => qlet (upS σ18 6433 (Int32.ofInt 0)) (fun σ20 => qlet (upS σ20 6432 (Int32.ofInt 0)) (fun σ22 => qlet (upS σ22 6431 (Int32.ofInt 0)) (fun σ24 => qlet (upS σ24 6430 (Int32.ofInt 0)) (fun σ26 => qlet (upS σ26 6428 (Int32.ofInt 0)) (fun σ28 => qlet (upS σ28 6427 (Int32.ofInt 0)) (fun σ30 => qlet (upS σ30 6426 (Int32.ofInt 0)) (fun σ32 => qlet (upS σ32 6425 (Int32.ofInt 0)) (fun σ34 => m_ask_139_l99 qF (σ6.1 6407) (Int32.ofInt 0) σ34)))))))))) else some (Int32.ofInt 0, p13.2))) else none))) else qlet (upS p3.2 6407 (Int32.ofInt 0)) (fun σ36 => (if p3.1 = 0 ∨ p3.1 = 1 then qlet (upS σ36 6438 p3.1) (fun σ39 => (m_bad_130 p3.1 σ39).bind (fun p41 => if p41.1 = 0 then qlet (upS p41.2 6435 (Int32.ofInt 0)) (fun σ44 => qlet (upS σ44 6434 (Int32.ofInt 0)) (fun σ46 => qlet (upS σ46 6433 (Int32.ofInt 0)) (fun σ48 => qlet (upS σ48 6432 (Int32.ofInt 0)) (fun σ50 => qlet (upS σ50 6431 (Int32.ofInt 0)) (fun σ52 => qlet (upS σ52 6430 (Int32.ofInt 0)) (fun σ54 => qlet (upS σ54 6428 (Int32.ofInt 0)) (fun σ56 => qlet (upS σ56 6427 (Int32.ofInt 0)) (fun σ58 => qlet (upS σ58 6426 (Int32.ofInt 0)) (fun σ60 => qlet (upS σ60 6425 (Int32.ofInt 0)) (fun σ62 => m_ask_139_l99 qF (p3.2.1 6407) (Int32.ofInt 0) σ62)))))))))) else some (Int32.ofInt 0, p41.2))) else none))))
set_option maxRecDepth 20000 in
theorem t_m_ask_139_l148 {S : Nat × (Nat → Int32)} {d : Nat} {x : qC} {y : Int64 × Nat} (hd : 18 ≤ d) : ∀ (n : Nat) {i3 : Int32} {σ : qC} {p : (Int32 × qC)}, m_ask_139_l148 n i3 σ = some p → qE S d jm_12_ask_139 (148, [(0, .ref 64), (3, .int i3)], [], (x, σ, y)) ((.inl (some (.int p.1)), (x, p.2, y))) := by
  have hd9 : 9 ≤ d := by omega
  intro n
  induction n with
  | zero =>
    intros
    rename_i h
    unfold m_ask_139_l148 at h
    cases h
  | succ n ih =>
    intro i3 σ p h
    unfold m_ask_139_l148 at h
    refine qE.steps 3 hd9 (s' := (if Int32.ofInt 26 ≤ i3 then 172 else 154, [(0, .ref 64), (3, .int i3)], [], (x, σ, y))) rfl ?_
    by_cases c1 : Int32.ofInt 26 ≤ i3
    · rw [if_pos c1] at h
      rw [if_pos c1]
      refine qE.steps 4 hd9 (s' := (176, [(0, .ref 64), (3, .int i3)], [.int (Int32.ofInt (-1)), .int (Int32.ofInt 0), .ref 64, .ref 64], (x, σ, y))) rfl ?_
      obtain ⟨p2, e3, h⟩ := obind h
      refine qE.call hd9 rfl rfl rfl rfl (t_m_buildGoals_142 (by omega) e3) ?_
      refine qE.steps 0 hd9 (s' := (179, [(0, .ref 64), (3, .int i3)], [.int p2.1, .ref 64], (x, p2.2, y))) rfl ?_
      obtain ⟨σ4, e5, h⟩ := qlet_ex h
      refine qE.steps 1 hd9 (s' := (182, [(0, .ref 64), (3, .int i3)], [], (x, σ4, y))) (by subst e5; rfl) ?_
      refine qE.steps 2 hd9 (s' := (184, [(0, .ref 64), (3, .int i3)], [.int (Int32.ofInt 0), .ref 64], (x, σ4, y))) rfl ?_
      obtain ⟨p6, e7, h⟩ := obind h
      refine qE.call hd9 rfl rfl rfl rfl (t_m_seek_148 (by omega) e7) ?_
      refine qE.steps 0 hd9 (s' := (187, [(0, .ref 64), (3, .int i3)], [.int p6.1], (x, p6.2, y))) rfl ?_
      obtain rfl := Option.some.inj h
      exact qE.ret hd9 rfl rfl
    · rw [if_neg c1] at h
      rw [if_neg c1]
      refine qE.steps 6 hd9 (s' := (164, [(0, .ref 64), (3, .int i3)], [.int i3, .ref 70, .int i3, .ref 71], (x, σ, y))) rfl ?_
      obtain ⟨x8, e9, h⟩ := obind h
      refine qE.iald hd9 e9 rfl rfl ?_
      obtain ⟨σ10, e11, h⟩ := obind h
      refine qE.iastM hd9 e11 rfl rfl ?_
      refine qE.steps 2 hd9 (s' := (148, [(3, .int (i3 + Int32.ofInt 1)), (0, .ref 64)], [], (x, σ10, y))) rfl ?_
      exact qE.wk (ih h) ⟨rfl, rfl, trivial⟩ rfl
set_option maxRecDepth 20000 in
theorem t_m_ask_139_l99 {S : Nat × (Nat → Int32)} {d : Nat} {x : qC} {y : Int64 × Nat} (hd : 18 ≤ d) : ∀ (n : Nat) {i2 : Int32} {i3 : Int32} {σ : qC} {p : (Int32 × qC)}, m_ask_139_l99 n i2 i3 σ = some p → qE S d jm_12_ask_139 (99, [(0, .ref 64), (2, .int i2), (3, .int i3)], [], (x, σ, y)) ((.inl (some (.int p.1)), (x, p.2, y))) := by
  have hd9 : 9 ≤ d := by omega
  intro n
  induction n with
  | zero =>
    intros
    rename_i h
    unfold m_ask_139_l99 at h
    cases h
  | succ n ih =>
    intro i2 i3 σ p h
    unfold m_ask_139_l99 at h
    refine qE.steps 3 hd9 (s' := (if i2 ≤ i3 then 126 else 104, [(0, .ref 64), (2, .int i2), (3, .int i3)], [], (x, σ, y))) rfl ?_
    by_cases c1 : i2 ≤ i3
    · rw [if_pos c1] at h
      rw [if_pos c1]
      obtain ⟨σ2, e3, h⟩ := qlet_ex h
      refine qE.steps 3 hd9 (s' := (133, [(0, .ref 64), (2, .int i2), (3, .int i3)], [], (x, σ2, y))) (by subst e3; rfl) ?_
      obtain ⟨σ4, e5, h⟩ := qlet_ex h
      refine qE.steps 5 hd9 (s' := (142, [(0, .ref 64), (2, .int i2), (3, .int i3)], [], (x, σ4, y))) (by subst e5; rfl) ?_
      refine qE.steps 1 hd9 (s' := (143, [(0, .ref 64), (2, .int i2), (3, .int i3)], [.ref 64], (x, σ4, y))) rfl ?_
      obtain ⟨p6, e7, h⟩ := obind h
      refine qE.call hd9 rfl rfl rfl rfl (t_m_number_140 (by omega) e7) ?_
      refine qE.steps 0 hd9 (s' := (146, [(0, .ref 64), (2, .int i2), (3, .int i3)], [], (x, p6, y))) rfl ?_
      refine qE.steps 2 hd9 (s' := (148, [(3, .int (Int32.ofInt 0)), (0, .ref 64), (2, .int i2)], [], (x, p6, y))) rfl ?_
      exact qE.wk (t_m_ask_139_l148 hd qF h) ⟨rfl, rfl, trivial⟩ rfl
    · rw [if_neg c1] at h
      rw [if_neg c1]
      refine qE.steps 8 hd9 (s' := (118, [(0, .ref 64), (2, .int i2), (3, .int i3)], [.int i3, .ref 65, .int ((Int32.ofInt 576) + i3), .ref 66], (x, σ, y))) rfl ?_
      obtain ⟨x8, e9, h⟩ := obind h
      refine qE.iald hd9 e9 rfl rfl ?_
      obtain ⟨σ10, e11, h⟩ := obind h
      refine qE.iastM hd9 e11 rfl rfl ?_
      refine qE.steps 2 hd9 (s' := (99, [(3, .int (i3 + Int32.ofInt 1)), (0, .ref 64), (2, .int i2)], [], (x, σ10, y))) rfl ?_
      exact qE.wk (ih h) ⟨rfl, rfl, rfl, trivial⟩ rfl
set_option maxRecDepth 20000 in
theorem t_m_ask_139 {S : Nat × (Nat → Int32)} {d : Nat} {x : qC} {y : Int64 × Nat} {σ : qC} {p : (Int32 × qC)} (hd : 18 ≤ d) (h : m_ask_139 σ = some p) : qE S d jm_12_ask_139 (0, [(0, .ref 64)], [], (x, σ, y)) ((.inl (some (.int p.1)), (x, p.2, y))) := by
  have hd9 : 9 ≤ d := by omega
  unfold m_ask_139 at h
  obtain ⟨σ1, e2, h⟩ := qlet_ex h
  refine qE.steps 3 hd9 (s' := (5, [(0, .ref 64)], [], (x, σ1, y))) (by subst e2; rfl) ?_
  refine qE.steps 1 hd9 (s' := (6, [(0, .ref 64)], [.ref 64], (x, σ1, y))) rfl ?_
  obtain ⟨p3, e4, h⟩ := obind h
  refine qE.call hd9 rfl rfl rfl rfl (t_m_readGoals_137 (by omega) e4) ?_
  refine qE.steps 0 hd9 (s' := (9, [(0, .ref 64)], [.int p3.1], (x, p3.2, y))) rfl ?_
  refine qE.steps 3 hd9 (s' := (if ¬ (p3.1 = 0) then 22 else 14, [(1, .int p3.1), (0, .ref 64)], [], (x, p3.2, y))) rfl ?_
  by_cases c5 : p3.1 = 0
  · rw [if_pos c5] at h
    rw [if_neg (not_not_intro c5)]
    obtain ⟨σ6, e7, h⟩ := qlet_ex h
    refine qE.steps 4 hd9 (s' := (22, [(1, .int p3.1), (0, .ref 64)], [], (x, σ6, y))) (by subst e7; rfl) ?_
    obtain ⟨σ8, e9, h⟩ := qlet_ex h
    refine qE.steps 6 hd9 (s' := (32, [(2, .int (σ6.1 6407)), (1, .int p3.1), (0, .ref 64)], [], (x, σ8, y))) (by subst e9; rfl) ?_
    refine qE.steps 2 hd9 (s' := (34, [(2, .int (σ6.1 6407)), (1, .int p3.1), (0, .ref 64)], [.int p3.1, .ref 64], (x, σ8, y))) rfl ?_
    by_cases c10 : p3.1 = 0 ∨ p3.1 = 1
    case neg => rw [if_neg c10] at h; cases h
    rw [if_pos c10] at h
    obtain ⟨σ11, e12, h⟩ := qlet_ex h
    refine qE.hp (i := .putfield 177) (len := 3) (st' := []) (g' := (x, σ11, y)) hd9 rfl rfl rfl rfl (by rcases c10 with c10 | c10 <;> subst e12 <;> rw [c10] <;> rfl) ?_
    refine qE.steps 2 hd9 (s' := (39, [(2, .int (σ6.1 6407)), (1, .int p3.1), (0, .ref 64)], [.int p3.1, .ref 64], (x, σ11, y))) rfl ?_
    obtain ⟨p13, e14, h⟩ := obind h
    refine qE.call hd9 rfl rfl rfl rfl (t_m_bad_130 (by omega) e14) ?_
    refine qE.steps 0 hd9 (s' := (42, [(2, .int (σ6.1 6407)), (1, .int p3.1), (0, .ref 64)], [.int p13.1], (x, p13.2, y))) rfl ?_
    refine qE.steps 1 hd9 (s' := (if p13.1 = 0 then 47 else 45, [(2, .int (σ6.1 6407)), (1, .int p3.1), (0, .ref 64)], [], (x, p13.2, y))) rfl ?_
    by_cases c15 : p13.1 = 0
    · rw [if_pos c15] at h
      rw [if_pos c15]
      obtain ⟨σ16, e17, h⟩ := qlet_ex h
      refine qE.steps 13 hd9 (s' := (62, [(2, .int (σ6.1 6407)), (1, .int p3.1), (0, .ref 64)], [.int (Int32.ofInt 0), .ref 64, .ref 64, .ref 64, .ref 64, .ref 64, .ref 64, .ref 64, .ref 64, .ref 64], (x, σ16, y))) (by subst e17; rfl) ?_
      obtain ⟨σ18, e19, h⟩ := qlet_ex h
      refine qE.steps 2 hd9 (s' := (66, [(2, .int (σ6.1 6407)), (1, .int p3.1), (0, .ref 64)], [.int (Int32.ofInt 0), .ref 64, .ref 64, .ref 64, .ref 64, .ref 64, .ref 64, .ref 64, .ref 64], (x, σ18, y))) (by subst e19; rfl) ?_
      obtain ⟨σ20, e21, h⟩ := qlet_ex h
      refine qE.steps 2 hd9 (s' := (70, [(2, .int (σ6.1 6407)), (1, .int p3.1), (0, .ref 64)], [.int (Int32.ofInt 0), .ref 64, .ref 64, .ref 64, .ref 64, .ref 64, .ref 64, .ref 64], (x, σ20, y))) (by subst e21; rfl) ?_
      obtain ⟨σ22, e23, h⟩ := qlet_ex h
      refine qE.steps 2 hd9 (s' := (74, [(2, .int (σ6.1 6407)), (1, .int p3.1), (0, .ref 64)], [.int (Int32.ofInt 0), .ref 64, .ref 64, .ref 64, .ref 64, .ref 64, .ref 64], (x, σ22, y))) (by subst e23; rfl) ?_
      obtain ⟨σ24, e25, h⟩ := qlet_ex h
      refine qE.steps 2 hd9 (s' := (78, [(2, .int (σ6.1 6407)), (1, .int p3.1), (0, .ref 64)], [.int (Int32.ofInt 0), .ref 64, .ref 64, .ref 64, .ref 64, .ref 64], (x, σ24, y))) (by subst e25; rfl) ?_
      obtain ⟨σ26, e27, h⟩ := qlet_ex h
      refine qE.steps 2 hd9 (s' := (82, [(2, .int (σ6.1 6407)), (1, .int p3.1), (0, .ref 64)], [.int (Int32.ofInt 0), .ref 64, .ref 64, .ref 64, .ref 64], (x, σ26, y))) (by subst e27; rfl) ?_
      obtain ⟨σ28, e29, h⟩ := qlet_ex h
      refine qE.steps 2 hd9 (s' := (86, [(2, .int (σ6.1 6407)), (1, .int p3.1), (0, .ref 64)], [.int (Int32.ofInt 0), .ref 64, .ref 64, .ref 64], (x, σ28, y))) (by subst e29; rfl) ?_
      obtain ⟨σ30, e31, h⟩ := qlet_ex h
      refine qE.steps 2 hd9 (s' := (90, [(2, .int (σ6.1 6407)), (1, .int p3.1), (0, .ref 64)], [.int (Int32.ofInt 0), .ref 64, .ref 64], (x, σ30, y))) (by subst e31; rfl) ?_
      obtain ⟨σ32, e33, h⟩ := qlet_ex h
      refine qE.steps 2 hd9 (s' := (94, [(2, .int (σ6.1 6407)), (1, .int p3.1), (0, .ref 64)], [.int (Int32.ofInt 0), .ref 64], (x, σ32, y))) (by subst e33; rfl) ?_
      obtain ⟨σ34, e35, h⟩ := qlet_ex h
      refine qE.steps 1 hd9 (s' := (97, [(2, .int (σ6.1 6407)), (1, .int p3.1), (0, .ref 64)], [], (x, σ34, y))) (by subst e35; rfl) ?_
      refine qE.steps 2 hd9 (s' := (99, [(3, .int (Int32.ofInt 0)), (2, .int (σ6.1 6407)), (1, .int p3.1), (0, .ref 64)], [], (x, σ34, y))) rfl ?_
      exact qE.wk (t_m_ask_139_l99 hd qF h) ⟨rfl, rfl, rfl, trivial⟩ rfl
    · rw [if_neg c15] at h
      rw [if_neg c15]
      refine qE.steps 1 hd9 (s' := (46, [(2, .int (σ6.1 6407)), (1, .int p3.1), (0, .ref 64)], [.int (Int32.ofInt 0)], (x, p13.2, y))) rfl ?_
      obtain rfl := Option.some.inj h
      exact qE.ret hd9 rfl rfl
  · rw [if_neg c5] at h
    rw [if_pos c5]
    obtain ⟨σ36, e37, h⟩ := qlet_ex h
    refine qE.steps 6 hd9 (s' := (32, [(2, .int (p3.2.1 6407)), (1, .int p3.1), (0, .ref 64)], [], (x, σ36, y))) (by subst e37; rfl) ?_
    refine qE.steps 2 hd9 (s' := (34, [(2, .int (p3.2.1 6407)), (1, .int p3.1), (0, .ref 64)], [.int p3.1, .ref 64], (x, σ36, y))) rfl ?_
    by_cases c38 : p3.1 = 0 ∨ p3.1 = 1
    case neg => rw [if_neg c38] at h; cases h
    rw [if_pos c38] at h
    obtain ⟨σ39, e40, h⟩ := qlet_ex h
    refine qE.hp (i := .putfield 177) (len := 3) (st' := []) (g' := (x, σ39, y)) hd9 rfl rfl rfl rfl (by rcases c38 with c38 | c38 <;> subst e40 <;> rw [c38] <;> rfl) ?_
    refine qE.steps 2 hd9 (s' := (39, [(2, .int (p3.2.1 6407)), (1, .int p3.1), (0, .ref 64)], [.int p3.1, .ref 64], (x, σ39, y))) rfl ?_
    obtain ⟨p41, e42, h⟩ := obind h
    refine qE.call hd9 rfl rfl rfl rfl (t_m_bad_130 (by omega) e42) ?_
    refine qE.steps 0 hd9 (s' := (42, [(2, .int (p3.2.1 6407)), (1, .int p3.1), (0, .ref 64)], [.int p41.1], (x, p41.2, y))) rfl ?_
    refine qE.steps 1 hd9 (s' := (if p41.1 = 0 then 47 else 45, [(2, .int (p3.2.1 6407)), (1, .int p3.1), (0, .ref 64)], [], (x, p41.2, y))) rfl ?_
    by_cases c43 : p41.1 = 0
    · rw [if_pos c43] at h
      rw [if_pos c43]
      obtain ⟨σ44, e45, h⟩ := qlet_ex h
      refine qE.steps 13 hd9 (s' := (62, [(2, .int (p3.2.1 6407)), (1, .int p3.1), (0, .ref 64)], [.int (Int32.ofInt 0), .ref 64, .ref 64, .ref 64, .ref 64, .ref 64, .ref 64, .ref 64, .ref 64, .ref 64], (x, σ44, y))) (by subst e45; rfl) ?_
      obtain ⟨σ46, e47, h⟩ := qlet_ex h
      refine qE.steps 2 hd9 (s' := (66, [(2, .int (p3.2.1 6407)), (1, .int p3.1), (0, .ref 64)], [.int (Int32.ofInt 0), .ref 64, .ref 64, .ref 64, .ref 64, .ref 64, .ref 64, .ref 64, .ref 64], (x, σ46, y))) (by subst e47; rfl) ?_
      obtain ⟨σ48, e49, h⟩ := qlet_ex h
      refine qE.steps 2 hd9 (s' := (70, [(2, .int (p3.2.1 6407)), (1, .int p3.1), (0, .ref 64)], [.int (Int32.ofInt 0), .ref 64, .ref 64, .ref 64, .ref 64, .ref 64, .ref 64, .ref 64], (x, σ48, y))) (by subst e49; rfl) ?_
      obtain ⟨σ50, e51, h⟩ := qlet_ex h
      refine qE.steps 2 hd9 (s' := (74, [(2, .int (p3.2.1 6407)), (1, .int p3.1), (0, .ref 64)], [.int (Int32.ofInt 0), .ref 64, .ref 64, .ref 64, .ref 64, .ref 64, .ref 64], (x, σ50, y))) (by subst e51; rfl) ?_
      obtain ⟨σ52, e53, h⟩ := qlet_ex h
      refine qE.steps 2 hd9 (s' := (78, [(2, .int (p3.2.1 6407)), (1, .int p3.1), (0, .ref 64)], [.int (Int32.ofInt 0), .ref 64, .ref 64, .ref 64, .ref 64, .ref 64], (x, σ52, y))) (by subst e53; rfl) ?_
      obtain ⟨σ54, e55, h⟩ := qlet_ex h
      refine qE.steps 2 hd9 (s' := (82, [(2, .int (p3.2.1 6407)), (1, .int p3.1), (0, .ref 64)], [.int (Int32.ofInt 0), .ref 64, .ref 64, .ref 64, .ref 64], (x, σ54, y))) (by subst e55; rfl) ?_
      obtain ⟨σ56, e57, h⟩ := qlet_ex h
      refine qE.steps 2 hd9 (s' := (86, [(2, .int (p3.2.1 6407)), (1, .int p3.1), (0, .ref 64)], [.int (Int32.ofInt 0), .ref 64, .ref 64, .ref 64], (x, σ56, y))) (by subst e57; rfl) ?_
      obtain ⟨σ58, e59, h⟩ := qlet_ex h
      refine qE.steps 2 hd9 (s' := (90, [(2, .int (p3.2.1 6407)), (1, .int p3.1), (0, .ref 64)], [.int (Int32.ofInt 0), .ref 64, .ref 64], (x, σ58, y))) (by subst e59; rfl) ?_
      obtain ⟨σ60, e61, h⟩ := qlet_ex h
      refine qE.steps 2 hd9 (s' := (94, [(2, .int (p3.2.1 6407)), (1, .int p3.1), (0, .ref 64)], [.int (Int32.ofInt 0), .ref 64], (x, σ60, y))) (by subst e61; rfl) ?_
      obtain ⟨σ62, e63, h⟩ := qlet_ex h
      refine qE.steps 1 hd9 (s' := (97, [(2, .int (p3.2.1 6407)), (1, .int p3.1), (0, .ref 64)], [], (x, σ62, y))) (by subst e63; rfl) ?_
      refine qE.steps 2 hd9 (s' := (99, [(3, .int (Int32.ofInt 0)), (2, .int (p3.2.1 6407)), (1, .int p3.1), (0, .ref 64)], [], (x, σ62, y))) rfl ?_
      exact qE.wk (t_m_ask_139_l99 hd qF h) ⟨rfl, rfl, rfl, trivial⟩ rfl
    · rw [if_neg c43] at h
      rw [if_neg c43]
      refine qE.steps 1 hd9 (s' := (46, [(2, .int (p3.2.1 6407)), (1, .int p3.1), (0, .ref 64)], [.int (Int32.ofInt 0)], (x, p41.2, y))) rfl ?_
      obtain rfl := Option.some.inj h
      exact qE.ret hd9 rfl rfl
def m_next_168 (σ : qC) : Option (Int32 × qC) := qlet (upS σ 6411 (Int32.ofInt 0)) (fun σ1 => if σ1.1 6438 = 0 then (m_fail_131 (Int32.ofInt 1) σ1).bind (fun p4 => some (p4.1, p4.2)) else (m_seek_148 (Int32.ofInt 1) σ1).bind (fun p6 => if p6.2.1 6411 ≤ 0 then some (p6.1, p6.2) else qlet (upS p6.2 6411 ((p6.2.1 6411) - (Int32.ofInt 1))) (fun σ9 => some (p6.1, σ9))))
set_option maxRecDepth 20000 in
theorem t_m_next_168 {S : Nat × (Nat → Int32)} {d : Nat} {x : qC} {y : Int64 × Nat} {σ : qC} {p : (Int32 × qC)} (hd : 18 ≤ d) (h : m_next_168 σ = some p) : qE S d jm_12_next_168 (0, [(0, .ref 64)], [], (x, σ, y)) ((.inl (some (.int p.1)), (x, p.2, y))) := by
  have hd9 : 9 ≤ d := by omega
  unfold m_next_168 at h
  obtain ⟨σ1, e2, h⟩ := qlet_ex h
  refine qE.steps 3 hd9 (s' := (5, [(0, .ref 64)], [], (x, σ1, y))) (by subst e2; rfl) ?_
  refine qE.steps 3 hd9 (s' := (if ¬ (σ1.1 6438 = 0) then 18 else 12, [(0, .ref 64)], [], (x, σ1, y))) rfl ?_
  by_cases c3 : σ1.1 6438 = 0
  · rw [if_pos c3] at h
    rw [if_neg (not_not_intro c3)]
    refine qE.steps 2 hd9 (s' := (14, [(0, .ref 64)], [.int (Int32.ofInt 1), .ref 64], (x, σ1, y))) rfl ?_
    obtain ⟨p4, e5, h⟩ := obind h
    refine qE.call hd9 rfl rfl rfl rfl (t_m_fail_131 (by omega) e5) ?_
    refine qE.steps 0 hd9 (s' := (17, [(0, .ref 64)], [.int p4.1], (x, p4.2, y))) rfl ?_
    obtain rfl := Option.some.inj h
    exact qE.ret hd9 rfl rfl
  · rw [if_neg c3] at h
    rw [if_pos c3]
    refine qE.steps 2 hd9 (s' := (20, [(0, .ref 64)], [.int (Int32.ofInt 1), .ref 64], (x, σ1, y))) rfl ?_
    obtain ⟨p6, e7, h⟩ := obind h
    refine qE.call hd9 rfl rfl rfl rfl (t_m_seek_148 (by omega) e7) ?_
    refine qE.steps 0 hd9 (s' := (23, [(0, .ref 64)], [.int p6.1], (x, p6.2, y))) rfl ?_
    refine qE.steps 4 hd9 (s' := (if p6.2.1 6411 ≤ 0 then 41 else 31, [(1, .int p6.1), (0, .ref 64)], [], (x, p6.2, y))) rfl ?_
    by_cases c8 : p6.2.1 6411 ≤ 0
    · rw [if_pos c8] at h
      rw [if_pos c8]
      refine qE.steps 1 hd9 (s' := (42, [(1, .int p6.1), (0, .ref 64)], [.int p6.1], (x, p6.2, y))) rfl ?_
      obtain rfl := Option.some.inj h
      exact qE.ret hd9 rfl rfl
    · rw [if_neg c8] at h
      rw [if_neg c8]
      obtain ⟨σ9, e10, h⟩ := qlet_ex h
      refine qE.steps 6 hd9 (s' := (41, [(1, .int p6.1), (0, .ref 64)], [], (x, σ9, y))) (by subst e10; rfl) ?_
      refine qE.steps 1 hd9 (s' := (42, [(1, .int p6.1), (0, .ref 64)], [.int p6.1], (x, σ9, y))) rfl ?_
      obtain rfl := Option.some.inj h
      exact qE.ret hd9 rfl rfl
def m_put_171 (i1 : Int32) (σ : qC) : Option qC := if σ.1 6463 = Int32.ofInt 80 then some σ else (aput σ 103 80 (σ.1 6463) i1).bind (fun σ2 => qlet (upS σ2 6463 ((σ2.1 6463) + (Int32.ofInt 1))) (fun σ4 => some σ4))
set_option maxRecDepth 20000 in
theorem t_m_put_171 {S : Nat × (Nat → Int32)} {d : Nat} {x : qC} {y : Int64 × Nat} {i1 : Int32} {σ : qC} {p : qC} (hd : 9 ≤ d) (h : m_put_171 i1 σ = some p) : qE S d jm_12_put_171 (0, [(0, .ref 64), (1, .int i1)], [], (x, σ, y)) ((.inl none, (x, p, y))) := by
  have hd9 : 9 ≤ d := by omega
  unfold m_put_171 at h
  refine qE.steps 4 hd9 (s' := (if ¬ (σ.1 6463 = Int32.ofInt 80) then 10 else 9, [(0, .ref 64), (1, .int i1)], [], (x, σ, y))) rfl ?_
  by_cases c1 : σ.1 6463 = Int32.ofInt 80
  · rw [if_pos c1] at h
    rw [if_neg (not_not_intro c1)]
    obtain rfl := Option.some.inj h
    exact qE.ret hd9 rfl rfl
  · rw [if_neg c1] at h
    rw [if_pos c1]
    refine qE.steps 5 hd9 (s' := (19, [(0, .ref 64), (1, .int i1)], [.int i1, .int (σ.1 6463), .ref 103], (x, σ, y))) rfl ?_
    obtain ⟨σ2, e3, h⟩ := obind h
    refine qE.iastM hd9 e3 rfl rfl ?_
    obtain ⟨σ4, e5, h⟩ := qlet_ex h
    refine qE.steps 6 hd9 (s' := (30, [(0, .ref 64), (1, .int i1)], [], (x, σ4, y))) (by subst e5; rfl) ?_
    obtain rfl := Option.some.inj h
    exact qE.ret hd9 rfl rfl
