/-! BY PROGRAM (wip/whole/gendc.py): each method as a function over the numbers -/
def m_write_170_l125 (K14 : Int32 → qC → Option qC) : Nat → Int32 → Int32 → Int32 → qC → Option qC
  | 0, _, _, _, _ => none
  | n + 1, i2, i3, i4, σ => if i4 < 0 then K14 i2 σ else (aget (σ.2 74) 72000 ((i3 * (Int32.ofInt 3)) + i4)).bind (fun x2 => (aput σ 104 800 i2 x2).bind (fun σ4 => if i4 = 0 then (m_write_170_l125 K14 n) (i2 + Int32.ofInt 1) i3 (i4 + Int32.ofInt (-1)) σ4 else (aput σ4 104 800 (i2 + Int32.ofInt 1) (Int32.ofInt 100044)).bind (fun σ7 => (m_write_170_l125 K14 n) ((i2 + Int32.ofInt 1) + Int32.ofInt 1) i3 (i4 + Int32.ofInt (-1)) σ7)))
def m_write_170_l14 : Nat → Int32 → qC → Option qC
  | 0, _, _ => none
  | n + 1, i2, σ => if i2 ≤ 0 then some σ else if Int32.ofInt 80 ≤ σ.1 6463 then some σ else (aget (σ.2 104) 800 (i2 + Int32.ofInt (-1))).bind (fun x3 => if x3 < Int32.ofInt 100000 then (m_value_158 x3 σ).bind (fun p6 => if 0 ≤ p6 then (aget (σ.2 72) 24000 p6).bind (fun x9 => (m_put_171 x9 σ).bind (fun p11 => if p6 < 0 then (m_write_170_l14 n) (i2 + Int32.ofInt (-1)) p11 else (aget (p11.2 73) 24000 p6).bind (fun x14 => if x14 = 0 then (m_write_170_l14 n) (i2 + Int32.ofInt (-1)) p11 else (m_put_171 (Int32.ofInt 40) p11).bind (fun p17 => (aput p17 104 800 (i2 + Int32.ofInt (-1)) (Int32.ofInt 100041)).bind (fun σ19 => (aget (σ19.2 73) 24000 p6).bind (fun x21 => m_write_170_l125 (m_write_170_l14 n) qF ((i2 + Int32.ofInt (-1)) + Int32.ofInt 1) p6 (x21 - (Int32.ofInt 1)) σ19)))))) else (m_put_171 (Int32.ofInt 95) σ).bind (fun p23 => if p6 < 0 then (m_write_170_l14 n) (i2 + Int32.ofInt (-1)) p23 else (aget (p23.2 73) 24000 p6).bind (fun x26 => if x26 = 0 then (m_write_170_l14 n) (i2 + Int32.ofInt (-1)) p23 else (m_put_171 (Int32.ofInt 40) p23).bind (fun p29 => (aput p29 104 800 (i2 + Int32.ofInt (-1)) (Int32.ofInt 100041)).bind (fun σ31 => (aget (σ31.2 73) 24000 p6).bind (fun x33 => m_write_170_l125 (m_write_170_l14 n) qF ((i2 + Int32.ofInt (-1)) + Int32.ofInt 1) p6 (x33 - (Int32.ofInt 1)) σ31)))))) else (m_put_171 (x3 - (Int32.ofInt 100000)) σ).bind (fun p35 => (m_write_170_l14 n) (i2 + Int32.ofInt (-1)) p35))
def m_write_170 (i1 : Int32) (σ : qC) : Option qC := qlet (upS σ 6463 (Int32.ofInt 0)) (fun σ1 => (aput σ1 104 800 (Int32.ofInt 0) i1).bind (fun σ3 => m_write_170_l14 qF (Int32.ofInt 1) σ3))
set_option maxRecDepth 20000 in
theorem t_m_write_170_l125 {S : Nat × (Nat → Int32)} {d : Nat} {x : qC} {y : Int64 × Nat} (hd : 10 ≤ d) {K14 : Int32 → qC → Option qC} (hK14 : ∀ {i2 : Int32} {σ : qC} {p : qC}, K14 i2 σ = some p → qE S d jm_12_write_170 (14, [(0, .ref 64), (2, .int i2)], [], (x, σ, y)) ((.inl none, (x, p, y)))) : ∀ (n : Nat) {i2 : Int32} {i3 : Int32} {i4 : Int32} {σ : qC} {p : qC}, m_write_170_l125 K14 n i2 i3 i4 σ = some p → qE S d jm_12_write_170 (125, [(0, .ref 64), (2, .int i2), (3, .int i3), (4, .int i4)], [], (x, σ, y)) ((.inl none, (x, p, y))) := by
  have hd9 : 9 ≤ d := by omega
  intro n
  induction n with
  | zero =>
    intros
    rename_i h
    unfold m_write_170_l125 at h
    cases h
  | succ n ih =>
    intro i2 i3 i4 σ p h
    unfold m_write_170_l125 at h
    refine qE.steps 2 hd9 (s' := (if i4 < 0 then 176 else 130, [(0, .ref 64), (2, .int i2), (3, .int i3), (4, .int i4)], [], (x, σ, y))) rfl ?_
    by_cases c1 : i4 < 0
    · rw [if_pos c1] at h
      rw [if_pos c1]
      refine qE.steps 1 hd9 (s' := (14, [(0, .ref 64), (2, .int i2), (3, .int i3), (4, .int i4)], [], (x, σ, y))) rfl ?_
      exact qE.wk (hK14 h) ⟨rfl, rfl, trivial⟩ rfl
    · rw [if_neg c1] at h
      rw [if_neg c1]
      refine qE.steps 10 hd9 (s' := (145, [(0, .ref 64), (2, .int i2), (3, .int i3), (4, .int i4)], [.int ((i3 * (Int32.ofInt 3)) + i4), .ref 74, .int i2, .ref 104], (x, σ, y))) rfl ?_
      obtain ⟨x2, e3, h⟩ := obind h
      refine qE.iald hd9 e3 rfl rfl ?_
      obtain ⟨σ4, e5, h⟩ := obind h
      refine qE.iastM hd9 e5 rfl rfl ?_
      refine qE.steps 3 hd9 (s' := (if ¬ (i4 = 0) then 158 else 155, [(2, .int (i2 + Int32.ofInt 1)), (0, .ref 64), (3, .int i3), (4, .int i4)], [], (x, σ4, y))) rfl ?_
      by_cases c6 : i4 = 0
      · rw [if_pos c6] at h
        rw [if_neg (not_not_intro c6)]
        refine qE.steps 3 hd9 (s' := (125, [(4, .int (i4 + Int32.ofInt (-1))), (2, .int (i2 + Int32.ofInt 1)), (0, .ref 64), (3, .int i3)], [], (x, σ4, y))) rfl ?_
        exact qE.wk (ih h) ⟨rfl, rfl, rfl, rfl, trivial⟩ rfl
      · rw [if_neg c6] at h
        rw [if_pos c6]
        refine qE.steps 4 hd9 (s' := (166, [(2, .int (i2 + Int32.ofInt 1)), (0, .ref 64), (3, .int i3), (4, .int i4)], [.int (Int32.ofInt 100044), .int (i2 + Int32.ofInt 1), .ref 104], (x, σ4, y))) rfl ?_
        obtain ⟨σ7, e8, h⟩ := obind h
        refine qE.iastM hd9 e8 rfl rfl ?_
        refine qE.steps 3 hd9 (s' := (125, [(4, .int (i4 + Int32.ofInt (-1))), (2, .int ((i2 + Int32.ofInt 1) + Int32.ofInt 1)), (0, .ref 64), (3, .int i3)], [], (x, σ7, y))) rfl ?_
        exact qE.wk (ih h) ⟨rfl, rfl, rfl, rfl, trivial⟩ rfl
set_option maxRecDepth 20000 in
theorem t_m_write_170_l14 {S : Nat × (Nat → Int32)} {d : Nat} {x : qC} {y : Int64 × Nat} (hd : 10 ≤ d) : ∀ (n : Nat) {i2 : Int32} {σ : qC} {p : qC}, m_write_170_l14 n i2 σ = some p → qE S d jm_12_write_170 (14, [(0, .ref 64), (2, .int i2)], [], (x, σ, y)) ((.inl none, (x, p, y))) := by
  have hd9 : 9 ≤ d := by omega
  intro n
  induction n with
  | zero =>
    intros
    rename_i h
    unfold m_write_170_l14 at h
    cases h
  | succ n ih =>
    intro i2 σ p h
    unfold m_write_170_l14 at h
    refine qE.steps 2 hd9 (s' := (if i2 ≤ 0 then 179 else 18, [(0, .ref 64), (2, .int i2)], [], (x, σ, y))) rfl ?_
    by_cases c1 : i2 ≤ 0
    · rw [if_pos c1] at h
      rw [if_pos c1]
      obtain rfl := Option.some.inj h
      exact qE.ret hd9 rfl rfl
    · rw [if_neg c1] at h
      rw [if_neg c1]
      refine qE.steps 4 hd9 (s' := (if Int32.ofInt 80 ≤ σ.1 6463 then 179 else 27, [(0, .ref 64), (2, .int i2)], [], (x, σ, y))) rfl ?_
      by_cases c2 : Int32.ofInt 80 ≤ σ.1 6463
      · rw [if_pos c2] at h
        rw [if_pos c2]
        obtain rfl := Option.some.inj h
        exact qE.ret hd9 rfl rfl
      · rw [if_neg c2] at h
        rw [if_neg c2]
        refine qE.steps 4 hd9 (s' := (35, [(2, .int (i2 + Int32.ofInt (-1))), (0, .ref 64)], [.int (i2 + Int32.ofInt (-1)), .ref 104], (x, σ, y))) rfl ?_
        obtain ⟨x3, e4, h⟩ := obind h
        refine qE.iald hd9 e4 rfl rfl ?_
        refine qE.steps 4 hd9 (s' := (if x3 < Int32.ofInt 100000 then 56 else 44, [(3, .int x3), (2, .int (i2 + Int32.ofInt (-1))), (0, .ref 64)], [], (x, σ, y))) rfl ?_
        by_cases c5 : x3 < Int32.ofInt 100000
        · rw [if_pos c5] at h
          rw [if_pos c5]
          refine qE.steps 2 hd9 (s' := (58, [(3, .int x3), (2, .int (i2 + Int32.ofInt (-1))), (0, .ref 64)], [.int x3, .ref 64], (x, σ, y))) rfl ?_
          obtain ⟨p6, e7, h⟩ := obind h
          refine qE.call hd9 rfl rfl rfl rfl (t_m_value_158 (by omega) e7) ?_
          refine qE.steps 0 hd9 (s' := (61, [(3, .int x3), (2, .int (i2 + Int32.ofInt (-1))), (0, .ref 64)], [.int p6], (x, σ, y))) rfl ?_
          refine qE.steps 4 hd9 (s' := (if 0 ≤ p6 then 72 else 67, [(3, .int p6), (2, .int (i2 + Int32.ofInt (-1))), (0, .ref 64)], [.ref 64], (x, σ, y))) rfl ?_
          by_cases c8 : 0 ≤ p6
          · rw [if_pos c8] at h
            rw [if_pos c8]
            refine qE.steps 3 hd9 (s' := (77, [(3, .int p6), (2, .int (i2 + Int32.ofInt (-1))), (0, .ref 64)], [.int p6, .ref 72, .ref 64], (x, σ, y))) rfl ?_
            obtain ⟨x9, e10, h⟩ := obind h
            refine qE.iald hd9 e10 rfl rfl ?_
            obtain ⟨p11, e12, h⟩ := obind h
            refine qE.call hd9 rfl rfl rfl rfl (t_m_put_171 (by omega) e12) ?_
            refine qE.steps 0 hd9 (s' := (81, [(3, .int p6), (2, .int (i2 + Int32.ofInt (-1))), (0, .ref 64)], [], (x, p11, y))) rfl ?_
            refine qE.steps 2 hd9 (s' := (if p6 < 0 then 14 else 85, [(3, .int p6), (2, .int (i2 + Int32.ofInt (-1))), (0, .ref 64)], [], (x, p11, y))) rfl ?_
            by_cases c13 : p6 < 0
            · rw [if_pos c13] at h
              rw [if_pos c13]
              exact qE.wk (ih h) ⟨rfl, rfl, trivial⟩ rfl
            · rw [if_neg c13] at h
              rw [if_neg c13]
              refine qE.steps 3 hd9 (s' := (90, [(3, .int p6), (2, .int (i2 + Int32.ofInt (-1))), (0, .ref 64)], [.int p6, .ref 73], (x, p11, y))) rfl ?_
              obtain ⟨x14, e15, h⟩ := obind h
              refine qE.iald hd9 e15 rfl rfl ?_
              refine qE.steps 1 hd9 (s' := (if ¬ (x14 = 0) then 97 else 94, [(3, .int p6), (2, .int (i2 + Int32.ofInt (-1))), (0, .ref 64)], [], (x, p11, y))) rfl ?_
              by_cases c16 : x14 = 0
              · rw [if_pos c16] at h
                rw [if_neg (not_not_intro c16)]
                refine qE.steps 1 hd9 (s' := (14, [(3, .int p6), (2, .int (i2 + Int32.ofInt (-1))), (0, .ref 64)], [], (x, p11, y))) rfl ?_
                exact qE.wk (ih h) ⟨rfl, rfl, trivial⟩ rfl
              · rw [if_neg c16] at h
                rw [if_pos c16]
                refine qE.steps 2 hd9 (s' := (100, [(3, .int p6), (2, .int (i2 + Int32.ofInt (-1))), (0, .ref 64)], [.int (Int32.ofInt 40), .ref 64], (x, p11, y))) rfl ?_
                obtain ⟨p17, e18, h⟩ := obind h
                refine qE.call hd9 rfl rfl rfl rfl (t_m_put_171 (by omega) e18) ?_
                refine qE.steps 0 hd9 (s' := (103, [(3, .int p6), (2, .int (i2 + Int32.ofInt (-1))), (0, .ref 64)], [], (x, p17, y))) rfl ?_
                refine qE.steps 4 hd9 (s' := (111, [(3, .int p6), (2, .int (i2 + Int32.ofInt (-1))), (0, .ref 64)], [.int (Int32.ofInt 100041), .int (i2 + Int32.ofInt (-1)), .ref 104], (x, p17, y))) rfl ?_
                obtain ⟨σ19, e20, h⟩ := obind h
                refine qE.iastM hd9 e20 rfl rfl ?_
                refine qE.steps 4 hd9 (s' := (120, [(2, .int ((i2 + Int32.ofInt (-1)) + Int32.ofInt 1)), (3, .int p6), (0, .ref 64)], [.int p6, .ref 73], (x, σ19, y))) rfl ?_
                obtain ⟨x21, e22, h⟩ := obind h
                refine qE.iald hd9 e22 rfl rfl ?_
                refine qE.steps 3 hd9 (s' := (125, [(4, .int (x21 - (Int32.ofInt 1))), (2, .int ((i2 + Int32.ofInt (-1)) + Int32.ofInt 1)), (3, .int p6), (0, .ref 64)], [], (x, σ19, y))) rfl ?_
                exact qE.wk (t_m_write_170_l125 hd ih qF h) ⟨rfl, rfl, rfl, rfl, trivial⟩ rfl
          · rw [if_neg c8] at h
            rw [if_neg c8]
            refine qE.steps 2 hd9 (s' := (78, [(3, .int p6), (2, .int (i2 + Int32.ofInt (-1))), (0, .ref 64)], [.int (Int32.ofInt 95), .ref 64], (x, σ, y))) rfl ?_
            obtain ⟨p23, e24, h⟩ := obind h
            refine qE.call hd9 rfl rfl rfl rfl (t_m_put_171 (by omega) e24) ?_
            refine qE.steps 0 hd9 (s' := (81, [(3, .int p6), (2, .int (i2 + Int32.ofInt (-1))), (0, .ref 64)], [], (x, p23, y))) rfl ?_
            refine qE.steps 2 hd9 (s' := (if p6 < 0 then 14 else 85, [(3, .int p6), (2, .int (i2 + Int32.ofInt (-1))), (0, .ref 64)], [], (x, p23, y))) rfl ?_
            by_cases c25 : p6 < 0
            · rw [if_pos c25] at h
              rw [if_pos c25]
              exact qE.wk (ih h) ⟨rfl, rfl, trivial⟩ rfl
            · rw [if_neg c25] at h
              rw [if_neg c25]
              refine qE.steps 3 hd9 (s' := (90, [(3, .int p6), (2, .int (i2 + Int32.ofInt (-1))), (0, .ref 64)], [.int p6, .ref 73], (x, p23, y))) rfl ?_
              obtain ⟨x26, e27, h⟩ := obind h
              refine qE.iald hd9 e27 rfl rfl ?_
              refine qE.steps 1 hd9 (s' := (if ¬ (x26 = 0) then 97 else 94, [(3, .int p6), (2, .int (i2 + Int32.ofInt (-1))), (0, .ref 64)], [], (x, p23, y))) rfl ?_
              by_cases c28 : x26 = 0
              · rw [if_pos c28] at h
                rw [if_neg (not_not_intro c28)]
                refine qE.steps 1 hd9 (s' := (14, [(3, .int p6), (2, .int (i2 + Int32.ofInt (-1))), (0, .ref 64)], [], (x, p23, y))) rfl ?_
                exact qE.wk (ih h) ⟨rfl, rfl, trivial⟩ rfl
              · rw [if_neg c28] at h
                rw [if_pos c28]
                refine qE.steps 2 hd9 (s' := (100, [(3, .int p6), (2, .int (i2 + Int32.ofInt (-1))), (0, .ref 64)], [.int (Int32.ofInt 40), .ref 64], (x, p23, y))) rfl ?_
                obtain ⟨p29, e30, h⟩ := obind h
                refine qE.call hd9 rfl rfl rfl rfl (t_m_put_171 (by omega) e30) ?_
                refine qE.steps 0 hd9 (s' := (103, [(3, .int p6), (2, .int (i2 + Int32.ofInt (-1))), (0, .ref 64)], [], (x, p29, y))) rfl ?_
                refine qE.steps 4 hd9 (s' := (111, [(3, .int p6), (2, .int (i2 + Int32.ofInt (-1))), (0, .ref 64)], [.int (Int32.ofInt 100041), .int (i2 + Int32.ofInt (-1)), .ref 104], (x, p29, y))) rfl ?_
                obtain ⟨σ31, e32, h⟩ := obind h
                refine qE.iastM hd9 e32 rfl rfl ?_
                refine qE.steps 4 hd9 (s' := (120, [(2, .int ((i2 + Int32.ofInt (-1)) + Int32.ofInt 1)), (3, .int p6), (0, .ref 64)], [.int p6, .ref 73], (x, σ31, y))) rfl ?_
                obtain ⟨x33, e34, h⟩ := obind h
                refine qE.iald hd9 e34 rfl rfl ?_
                refine qE.steps 3 hd9 (s' := (125, [(4, .int (x33 - (Int32.ofInt 1))), (2, .int ((i2 + Int32.ofInt (-1)) + Int32.ofInt 1)), (3, .int p6), (0, .ref 64)], [], (x, σ31, y))) rfl ?_
                exact qE.wk (t_m_write_170_l125 hd ih qF h) ⟨rfl, rfl, rfl, rfl, trivial⟩ rfl
        · rw [if_neg c5] at h
          rw [if_neg c5]
          refine qE.steps 4 hd9 (s' := (50, [(3, .int x3), (2, .int (i2 + Int32.ofInt (-1))), (0, .ref 64)], [.int (x3 - (Int32.ofInt 100000)), .ref 64], (x, σ, y))) rfl ?_
          obtain ⟨p35, e36, h⟩ := obind h
          refine qE.call hd9 rfl rfl rfl rfl (t_m_put_171 (by omega) e36) ?_
          refine qE.steps 0 hd9 (s' := (53, [(3, .int x3), (2, .int (i2 + Int32.ofInt (-1))), (0, .ref 64)], [], (x, p35, y))) rfl ?_
          refine qE.steps 1 hd9 (s' := (14, [(3, .int x3), (2, .int (i2 + Int32.ofInt (-1))), (0, .ref 64)], [], (x, p35, y))) rfl ?_
          exact qE.wk (ih h) ⟨rfl, rfl, trivial⟩ rfl
set_option maxRecDepth 20000 in
theorem t_m_write_170 {S : Nat × (Nat → Int32)} {d : Nat} {x : qC} {y : Int64 × Nat} {i1 : Int32} {σ : qC} {p : qC} (hd : 10 ≤ d) (h : m_write_170 i1 σ = some p) : qE S d jm_12_write_170 (0, [(0, .ref 64), (1, .int i1)], [], (x, σ, y)) ((.inl none, (x, p, y))) := by
  have hd9 : 9 ≤ d := by omega
  unfold m_write_170 at h
  obtain ⟨σ1, e2, h⟩ := qlet_ex h
  refine qE.steps 5 hd9 (s' := (7, [(2, .int (Int32.ofInt 1)), (0, .ref 64), (1, .int i1)], [], (x, σ1, y))) (by subst e2; rfl) ?_
  refine qE.steps 4 hd9 (s' := (13, [(2, .int (Int32.ofInt 1)), (0, .ref 64), (1, .int i1)], [.int i1, .int (Int32.ofInt 0), .ref 104], (x, σ1, y))) rfl ?_
  obtain ⟨σ3, e4, h⟩ := obind h
  refine qE.iastM hd9 e4 rfl rfl ?_
  exact qE.wk (t_m_write_170_l14 hd qF h) ⟨rfl, rfl, trivial⟩ rfl
def m_letter_169 (i1 : Int32) (i2 : Int32) (σ : qC) : Option (Int32 × qC) := (m_bad_130 (m_in_129 i1 (Int32.ofInt 0) (Int32.ofInt 25)) σ).bind (fun p1 => if p1.1 = 0 then if p1.2.1 6438 = 0 then (m_fail_131 (Int32.ofInt 2) p1.2).bind (fun p5 => some (p5.1, p5.2)) else (aget (p1.2.2 71) 26 i1).bind (fun x7 => if 0 ≤ x7 then (aget (p1.2.2 71) 26 i1).bind (fun x10 => (m_write_170 ((Int32.ofInt (-1)) - x10) p1.2).bind (fun p12 => if i2 = Int32.ofInt (-1) then some (p12.1 6463, p12) else if m_in_129 i2 (Int32.ofInt 0) ((p12.1 6463) - (Int32.ofInt 1)) = 0 then (m_fail_131 (Int32.ofInt 2) p12).bind (fun p16 => some (p16.1, p16.2)) else (aget (p12.2 103) 80 i2).bind (fun x18 => some (x18, p12)))) else (m_fail_131 (Int32.ofInt 2) p1.2).bind (fun p20 => some (p20.1, p20.2))) else some (Int32.ofInt 0, p1.2))
set_option maxRecDepth 20000 in
theorem t_m_letter_169 {S : Nat × (Nat → Int32)} {d : Nat} {x : qC} {y : Int64 × Nat} {i1 : Int32} {i2 : Int32} {σ : qC} {p : (Int32 × qC)} (hd : 11 ≤ d) (h : m_letter_169 i1 i2 σ = some p) : qE S d jm_12_letter_169 (0, [(0, .ref 64), (1, .int i1), (2, .int i2)], [], (x, σ, y)) ((.inl (some (.int p.1)), (x, p.2, y))) := by
  have hd9 : 9 ≤ d := by omega
  unfold m_letter_169 at h
  refine qE.steps 4 hd9 (s' := (5, [(0, .ref 64), (1, .int i1), (2, .int i2)], [.int (Int32.ofInt 25), .int (Int32.ofInt 0), .int i1, .ref 64], (x, σ, y))) rfl ?_
  refine qE.call hd9 rfl rfl rfl rfl (t_m_in_129 (by omega) rfl) ?_
  refine qE.steps 0 hd9 (s' := (8, [(0, .ref 64), (1, .int i1), (2, .int i2)], [.int (m_in_129 i1 (Int32.ofInt 0) (Int32.ofInt 25)), .ref 64], (x, σ, y))) rfl ?_
  obtain ⟨p1, e2, h⟩ := obind h
  refine qE.call hd9 rfl rfl rfl rfl (t_m_bad_130 (by omega) e2) ?_
  refine qE.steps 0 hd9 (s' := (11, [(0, .ref 64), (1, .int i1), (2, .int i2)], [.int p1.1], (x, p1.2, y))) rfl ?_
  refine qE.steps 1 hd9 (s' := (if p1.1 = 0 then 16 else 14, [(0, .ref 64), (1, .int i1), (2, .int i2)], [], (x, p1.2, y))) rfl ?_
  by_cases c3 : p1.1 = 0
  · rw [if_pos c3] at h
    rw [if_pos c3]
    refine qE.steps 3 hd9 (s' := (if p1.2.1 6438 = 0 then 32 else 23, [(0, .ref 64), (1, .int i1), (2, .int i2)], [], (x, p1.2, y))) rfl ?_
    by_cases c4 : p1.2.1 6438 = 0
    · rw [if_pos c4] at h
      rw [if_pos c4]
      refine qE.steps 2 hd9 (s' := (34, [(0, .ref 64), (1, .int i1), (2, .int i2)], [.int (Int32.ofInt 2), .ref 64], (x, p1.2, y))) rfl ?_
      obtain ⟨p5, e6, h⟩ := obind h
      refine qE.call hd9 rfl rfl rfl rfl (t_m_fail_131 (by omega) e6) ?_
      refine qE.steps 0 hd9 (s' := (37, [(0, .ref 64), (1, .int i1), (2, .int i2)], [.int p5.1], (x, p5.2, y))) rfl ?_
      obtain rfl := Option.some.inj h
      exact qE.ret hd9 rfl rfl
    · rw [if_neg c4] at h
      rw [if_neg c4]
      refine qE.steps 3 hd9 (s' := (28, [(0, .ref 64), (1, .int i1), (2, .int i2)], [.int i1, .ref 71], (x, p1.2, y))) rfl ?_
      obtain ⟨x7, e8, h⟩ := obind h
      refine qE.iald hd9 e8 rfl rfl ?_
      refine qE.steps 1 hd9 (s' := (if 0 ≤ x7 then 38 else 32, [(0, .ref 64), (1, .int i1), (2, .int i2)], [], (x, p1.2, y))) rfl ?_
      by_cases c9 : 0 ≤ x7
      · rw [if_pos c9] at h
        rw [if_pos c9]
        refine qE.steps 5 hd9 (s' := (45, [(0, .ref 64), (1, .int i1), (2, .int i2)], [.int i1, .ref 71, .int (Int32.ofInt (-1)), .ref 64], (x, p1.2, y))) rfl ?_
        obtain ⟨x10, e11, h⟩ := obind h
        refine qE.iald hd9 e11 rfl rfl ?_
        refine qE.steps 1 hd9 (s' := (47, [(0, .ref 64), (1, .int i1), (2, .int i2)], [.int ((Int32.ofInt (-1)) - x10), .ref 64], (x, p1.2, y))) rfl ?_
        obtain ⟨p12, e13, h⟩ := obind h
        refine qE.call hd9 rfl rfl rfl rfl (t_m_write_170 (by omega) e13) ?_
        refine qE.steps 0 hd9 (s' := (50, [(0, .ref 64), (1, .int i1), (2, .int i2)], [], (x, p12, y))) rfl ?_
        refine qE.steps 3 hd9 (s' := (if ¬ (i2 = Int32.ofInt (-1)) then 60 else 55, [(0, .ref 64), (1, .int i1), (2, .int i2)], [], (x, p12, y))) rfl ?_
        by_cases c14 : i2 = Int32.ofInt (-1)
        · rw [if_pos c14] at h
          rw [if_neg (not_not_intro c14)]
          refine qE.steps 2 hd9 (s' := (59, [(0, .ref 64), (1, .int i1), (2, .int i2)], [.int (p12.1 6463)], (x, p12, y))) rfl ?_
          obtain rfl := Option.some.inj h
          exact qE.ret hd9 rfl rfl
        · rw [if_neg c14] at h
          rw [if_pos c14]
          refine qE.steps 6 hd9 (s' := (68, [(0, .ref 64), (1, .int i1), (2, .int i2)], [.int ((p12.1 6463) - (Int32.ofInt 1)), .int (Int32.ofInt 0), .int i2], (x, p12, y))) rfl ?_
          refine qE.call hd9 rfl rfl rfl rfl (t_m_in_129 (by omega) rfl) ?_
          refine qE.steps 0 hd9 (s' := (71, [(0, .ref 64), (1, .int i1), (2, .int i2)], [.int (m_in_129 i2 (Int32.ofInt 0) ((p12.1 6463) - (Int32.ofInt 1)))], (x, p12, y))) rfl ?_
          refine qE.steps 1 hd9 (s' := (if m_in_129 i2 (Int32.ofInt 0) ((p12.1 6463) - (Int32.ofInt 1)) = 0 then 83 else 74, [(0, .ref 64), (1, .int i1), (2, .int i2)], [], (x, p12, y))) rfl ?_
          by_cases c15 : m_in_129 i2 (Int32.ofInt 0) ((p12.1 6463) - (Int32.ofInt 1)) = 0
          · rw [if_pos c15] at h
            rw [if_pos c15]
            refine qE.steps 2 hd9 (s' := (85, [(0, .ref 64), (1, .int i1), (2, .int i2)], [.int (Int32.ofInt 2), .ref 64], (x, p12, y))) rfl ?_
            obtain ⟨p16, e17, h⟩ := obind h
            refine qE.call hd9 rfl rfl rfl rfl (t_m_fail_131 (by omega) e17) ?_
            refine qE.steps 0 hd9 (s' := (88, [(0, .ref 64), (1, .int i1), (2, .int i2)], [.int p16.1], (x, p16.2, y))) rfl ?_
            obtain rfl := Option.some.inj h
            exact qE.ret hd9 rfl rfl
          · rw [if_neg c15] at h
            rw [if_neg c15]
            refine qE.steps 3 hd9 (s' := (79, [(0, .ref 64), (1, .int i1), (2, .int i2)], [.int i2, .ref 103], (x, p12, y))) rfl ?_
            obtain ⟨x18, e19, h⟩ := obind h
            refine qE.iald hd9 e19 rfl rfl ?_
            refine qE.steps 1 hd9 (s' := (88, [(0, .ref 64), (1, .int i1), (2, .int i2)], [.int x18], (x, p12, y))) rfl ?_
            obtain rfl := Option.some.inj h
            exact qE.ret hd9 rfl rfl
      · rw [if_neg c9] at h
        rw [if_neg c9]
        refine qE.steps 2 hd9 (s' := (34, [(0, .ref 64), (1, .int i1), (2, .int i2)], [.int (Int32.ofInt 2), .ref 64], (x, p1.2, y))) rfl ?_
        obtain ⟨p20, e21, h⟩ := obind h
        refine qE.call hd9 rfl rfl rfl rfl (t_m_fail_131 (by omega) e21) ?_
        refine qE.steps 0 hd9 (s' := (37, [(0, .ref 64), (1, .int i1), (2, .int i2)], [.int p20.1], (x, p20.2, y))) rfl ?_
        obtain rfl := Option.some.inj h
        exact qE.ret hd9 rfl rfl
  · rw [if_neg c3] at h
    rw [if_neg c3]
    refine qE.steps 1 hd9 (s' := (15, [(0, .ref 64), (1, .int i1), (2, .int i2)], [.int (Int32.ofInt 0)], (x, p1.2, y))) rfl ?_
    obtain rfl := Option.some.inj h
    exact qE.ret hd9 rfl rfl
def m_sleeping_172_l67 : Nat → Int32 → Int32 → qC → Option (Int32 × qC)
  | 0, _, _, _ => none
  | n + 1, i3, i4, σ => if i4 < 0 then some (i3, σ) else (aget (σ.2 86) 1200 i4).bind (fun x2 => (m_sleeping_172_l67 n) (i3 + Int32.ofInt 1) x2 σ)
def m_sleeping_172 (i1 : Int32) (σ : qC) : Option (Int32 × qC) := (m_bad_130 (m_in_129 i1 (Int32.ofInt 0) (Int32.ofInt 25)) σ).bind (fun p1 => if p1.1 = 0 then if p1.2.1 6438 = 0 then some (Int32.ofInt (-1), p1.2) else (aget (p1.2.2 71) 26 i1).bind (fun x5 => if 0 ≤ x5 then (aget (p1.2.2 71) 26 i1).bind (fun x8 => (m_value_158 ((Int32.ofInt (-1)) - x8) p1.2).bind (fun p10 => if 0 ≤ p10 then m_sleeping_172_l67 qF (Int32.ofInt 0) (Int32.ofInt (-1)) p1.2 else (aget (p1.2.2 76) 13000 ((Int32.ofInt (-1)) - p10)).bind (fun x13 => m_sleeping_172_l67 qF (Int32.ofInt 0) x13 p1.2))) else some (Int32.ofInt (-1), p1.2)) else some (Int32.ofInt 0, p1.2))
set_option maxRecDepth 20000 in
theorem t_m_sleeping_172_l67 {S : Nat × (Nat → Int32)} {d : Nat} {x : qC} {y : Int64 × Nat} (hd : 10 ≤ d) : ∀ (n : Nat) {i3 : Int32} {i4 : Int32} {σ : qC} {p : (Int32 × qC)}, m_sleeping_172_l67 n i3 i4 σ = some p → qE S d jm_12_sleeping_172 (67, [(0, .ref 64), (3, .int i3), (4, .int i4)], [], (x, σ, y)) ((.inl (some (.int p.1)), (x, p.2, y))) := by
  have hd9 : 9 ≤ d := by omega
  intro n
  induction n with
  | zero =>
    intros
    rename_i h
    unfold m_sleeping_172_l67 at h
    cases h
  | succ n ih =>
    intro i3 i4 σ p h
    unfold m_sleeping_172_l67 at h
    refine qE.steps 2 hd9 (s' := (if i4 < 0 then 87 else 72, [(0, .ref 64), (3, .int i3), (4, .int i4)], [], (x, σ, y))) rfl ?_
    by_cases c1 : i4 < 0
    · rw [if_pos c1] at h
      rw [if_pos c1]
      refine qE.steps 1 hd9 (s' := (88, [(0, .ref 64), (3, .int i3), (4, .int i4)], [.int i3], (x, σ, y))) rfl ?_
      obtain rfl := Option.some.inj h
      exact qE.ret hd9 rfl rfl
    · rw [if_neg c1] at h
      rw [if_neg c1]
      refine qE.steps 4 hd9 (s' := (81, [(3, .int (i3 + Int32.ofInt 1)), (0, .ref 64), (4, .int i4)], [.int i4, .ref 86], (x, σ, y))) rfl ?_
      obtain ⟨x2, e3, h⟩ := obind h
      refine qE.iald hd9 e3 rfl rfl ?_
      refine qE.steps 2 hd9 (s' := (67, [(4, .int x2), (3, .int (i3 + Int32.ofInt 1)), (0, .ref 64)], [], (x, σ, y))) rfl ?_
      exact qE.wk (ih h) ⟨rfl, rfl, rfl, trivial⟩ rfl
set_option maxRecDepth 20000 in
theorem t_m_sleeping_172 {S : Nat × (Nat → Int32)} {d : Nat} {x : qC} {y : Int64 × Nat} {i1 : Int32} {σ : qC} {p : (Int32 × qC)} (hd : 10 ≤ d) (h : m_sleeping_172 i1 σ = some p) : qE S d jm_12_sleeping_172 (0, [(0, .ref 64), (1, .int i1)], [], (x, σ, y)) ((.inl (some (.int p.1)), (x, p.2, y))) := by
  have hd9 : 9 ≤ d := by omega
  unfold m_sleeping_172 at h
  refine qE.steps 4 hd9 (s' := (5, [(0, .ref 64), (1, .int i1)], [.int (Int32.ofInt 25), .int (Int32.ofInt 0), .int i1, .ref 64], (x, σ, y))) rfl ?_
  refine qE.call hd9 rfl rfl rfl rfl (t_m_in_129 (by omega) rfl) ?_
  refine qE.steps 0 hd9 (s' := (8, [(0, .ref 64), (1, .int i1)], [.int (m_in_129 i1 (Int32.ofInt 0) (Int32.ofInt 25)), .ref 64], (x, σ, y))) rfl ?_
  obtain ⟨p1, e2, h⟩ := obind h
  refine qE.call hd9 rfl rfl rfl rfl (t_m_bad_130 (by omega) e2) ?_
  refine qE.steps 0 hd9 (s' := (11, [(0, .ref 64), (1, .int i1)], [.int p1.1], (x, p1.2, y))) rfl ?_
  refine qE.steps 1 hd9 (s' := (if p1.1 = 0 then 16 else 14, [(0, .ref 64), (1, .int i1)], [], (x, p1.2, y))) rfl ?_
  by_cases c3 : p1.1 = 0
  · rw [if_pos c3] at h
    rw [if_pos c3]
    refine qE.steps 3 hd9 (s' := (if p1.2.1 6438 = 0 then 32 else 23, [(0, .ref 64), (1, .int i1)], [], (x, p1.2, y))) rfl ?_
    by_cases c4 : p1.2.1 6438 = 0
    · rw [if_pos c4] at h
      rw [if_pos c4]
      refine qE.steps 1 hd9 (s' := (33, [(0, .ref 64), (1, .int i1)], [.int (Int32.ofInt (-1))], (x, p1.2, y))) rfl ?_
      obtain rfl := Option.some.inj h
      exact qE.ret hd9 rfl rfl
    · rw [if_neg c4] at h
      rw [if_neg c4]
      refine qE.steps 3 hd9 (s' := (28, [(0, .ref 64), (1, .int i1)], [.int i1, .ref 71], (x, p1.2, y))) rfl ?_
      obtain ⟨x5, e6, h⟩ := obind h
      refine qE.iald hd9 e6 rfl rfl ?_
      refine qE.steps 1 hd9 (s' := (if 0 ≤ x5 then 34 else 32, [(0, .ref 64), (1, .int i1)], [], (x, p1.2, y))) rfl ?_
      by_cases c7 : 0 ≤ x5
      · rw [if_pos c7] at h
        rw [if_pos c7]
        refine qE.steps 5 hd9 (s' := (41, [(0, .ref 64), (1, .int i1)], [.int i1, .ref 71, .int (Int32.ofInt (-1)), .ref 64], (x, p1.2, y))) rfl ?_
        obtain ⟨x8, e9, h⟩ := obind h
        refine qE.iald hd9 e9 rfl rfl ?_
        refine qE.steps 1 hd9 (s' := (43, [(0, .ref 64), (1, .int i1)], [.int ((Int32.ofInt (-1)) - x8), .ref 64], (x, p1.2, y))) rfl ?_
        obtain ⟨p10, e11, h⟩ := obind h
        refine qE.call hd9 rfl rfl rfl rfl (t_m_value_158 (by omega) e11) ?_
        refine qE.steps 0 hd9 (s' := (46, [(0, .ref 64), (1, .int i1)], [.int p10], (x, p1.2, y))) rfl ?_
        refine qE.steps 5 hd9 (s' := (if 0 ≤ p10 then 64 else 53, [(3, .int (Int32.ofInt 0)), (2, .int p10), (0, .ref 64), (1, .int i1)], [], (x, p1.2, y))) rfl ?_
        by_cases c12 : 0 ≤ p10
        · rw [if_pos c12] at h
          rw [if_pos c12]
          refine qE.steps 2 hd9 (s' := (67, [(4, .int (Int32.ofInt (-1))), (3, .int (Int32.ofInt 0)), (2, .int p10), (0, .ref 64), (1, .int i1)], [], (x, p1.2, y))) rfl ?_
          exact qE.wk (t_m_sleeping_172_l67 hd qF h) ⟨rfl, rfl, rfl, trivial⟩ rfl
        · rw [if_neg c12] at h
          rw [if_neg c12]
          refine qE.steps 5 hd9 (s' := (60, [(3, .int (Int32.ofInt 0)), (2, .int p10), (0, .ref 64), (1, .int i1)], [.int ((Int32.ofInt (-1)) - p10), .ref 76], (x, p1.2, y))) rfl ?_
          obtain ⟨x13, e14, h⟩ := obind h
          refine qE.iald hd9 e14 rfl rfl ?_
          refine qE.steps 2 hd9 (s' := (67, [(4, .int x13), (3, .int (Int32.ofInt 0)), (2, .int p10), (0, .ref 64), (1, .int i1)], [], (x, p1.2, y))) rfl ?_
          exact qE.wk (t_m_sleeping_172_l67 hd qF h) ⟨rfl, rfl, rfl, trivial⟩ rfl
      · rw [if_neg c7] at h
        rw [if_neg c7]
        refine qE.steps 1 hd9 (s' := (33, [(0, .ref 64), (1, .int i1)], [.int (Int32.ofInt (-1))], (x, p1.2, y))) rfl ?_
        obtain rfl := Option.some.inj h
        exact qE.ret hd9 rfl rfl
  · rw [if_neg c3] at h
    rw [if_neg c3]
    refine qE.steps 1 hd9 (s' := (15, [(0, .ref 64), (1, .int i1)], [.int (Int32.ofInt 0)], (x, p1.2, y))) rfl ?_
    obtain rfl := Option.some.inj h
    exact qE.ret hd9 rfl rfl
def m_count_173_l9 : Nat → Int32 → Int32 → Int32 → qC → Option (Int32 × qC)
  | 0, _, _, _, _ => none
  | n + 1, i1, i2, i3, σ => if σ.1 6435 ≤ i3 then if i1 = 0 then some (σ.1 6409, σ) else if i1 = Int32.ofInt 1 then some (σ.1 6407, σ) else if i1 = Int32.ofInt 2 then some (σ.1 6408, σ) else if m_in_129 i1 (Int32.ofInt 3) (Int32.ofInt 6) = 0 then some (Int32.ofInt (-1), σ) else if σ.1 6438 = 0 then some (Int32.ofInt 0, σ) else if i1 = Int32.ofInt 3 then some (σ.1 6431, σ) else if i1 = Int32.ofInt 4 then some (σ.1 6433, σ) else if i1 = Int32.ofInt 5 then some (i2, σ) else some (σ.1 6427, σ) else (aget (σ.2 89) 600 i3).bind (fun x10 => if x10 = 0 then (m_count_173_l9 n) i1 (i2 + Int32.ofInt 1) (i3 + Int32.ofInt 1) σ else (m_count_173_l9 n) i1 i2 (i3 + Int32.ofInt 1) σ)
def m_count_173 (i1 : Int32) (σ : qC) : Option (Int32 × qC) := qlet (upS σ 6411 (Int32.ofInt 0)) (fun σ1 => m_count_173_l9 qF i1 (Int32.ofInt 0) (Int32.ofInt 0) σ1)
set_option maxRecDepth 20000 in
theorem t_m_count_173_l9 {S : Nat × (Nat → Int32)} {d : Nat} {x : qC} {y : Int64 × Nat} (hd : 10 ≤ d) : ∀ (n : Nat) {i1 : Int32} {i2 : Int32} {i3 : Int32} {σ : qC} {p : (Int32 × qC)}, m_count_173_l9 n i1 i2 i3 σ = some p → qE S d jm_12_count_173 (9, [(0, .ref 64), (1, .int i1), (2, .int i2), (3, .int i3)], [], (x, σ, y)) ((.inl (some (.int p.1)), (x, p.2, y))) := by
  have hd9 : 9 ≤ d := by omega
  intro n
  induction n with
  | zero =>
    intros
    rename_i h
    unfold m_count_173_l9 at h
    cases h
  | succ n ih =>
    intro i1 i2 i3 σ p h
    unfold m_count_173_l9 at h
    refine qE.steps 4 hd9 (s' := (if σ.1 6435 ≤ i3 then 35 else 17, [(0, .ref 64), (1, .int i1), (2, .int i2), (3, .int i3)], [], (x, σ, y))) rfl ?_
    by_cases c1 : σ.1 6435 ≤ i3
    · rw [if_pos c1] at h
      rw [if_pos c1]
      refine qE.steps 2 hd9 (s' := (if ¬ (i1 = 0) then 44 else 39, [(0, .ref 64), (1, .int i1), (2, .int i2), (3, .int i3)], [], (x, σ, y))) rfl ?_
      by_cases c2 : i1 = 0
      · rw [if_pos c2] at h
        rw [if_neg (not_not_intro c2)]
        refine qE.steps 2 hd9 (s' := (43, [(0, .ref 64), (1, .int i1), (2, .int i2), (3, .int i3)], [.int (σ.1 6409)], (x, σ, y))) rfl ?_
        obtain rfl := Option.some.inj h
        exact qE.ret hd9 rfl rfl
      · rw [if_neg c2] at h
        rw [if_pos c2]
        refine qE.steps 3 hd9 (s' := (if ¬ (i1 = Int32.ofInt 1) then 54 else 49, [(0, .ref 64), (1, .int i1), (2, .int i2), (3, .int i3)], [], (x, σ, y))) rfl ?_
        by_cases c3 : i1 = Int32.ofInt 1
        · rw [if_pos c3] at h
          rw [if_neg (not_not_intro c3)]
          refine qE.steps 2 hd9 (s' := (53, [(0, .ref 64), (1, .int i1), (2, .int i2), (3, .int i3)], [.int (σ.1 6407)], (x, σ, y))) rfl ?_
          obtain rfl := Option.some.inj h
          exact qE.ret hd9 rfl rfl
        · rw [if_neg c3] at h
          rw [if_pos c3]
          refine qE.steps 3 hd9 (s' := (if ¬ (i1 = Int32.ofInt 2) then 64 else 59, [(0, .ref 64), (1, .int i1), (2, .int i2), (3, .int i3)], [], (x, σ, y))) rfl ?_
          by_cases c4 : i1 = Int32.ofInt 2
          · rw [if_pos c4] at h
            rw [if_neg (not_not_intro c4)]
            refine qE.steps 2 hd9 (s' := (63, [(0, .ref 64), (1, .int i1), (2, .int i2), (3, .int i3)], [.int (σ.1 6408)], (x, σ, y))) rfl ?_
            obtain rfl := Option.some.inj h
            exact qE.ret hd9 rfl rfl
          · rw [if_neg c4] at h
            rw [if_pos c4]
            refine qE.steps 3 hd9 (s' := (68, [(0, .ref 64), (1, .int i1), (2, .int i2), (3, .int i3)], [.int (Int32.ofInt 6), .int (Int32.ofInt 3), .int i1], (x, σ, y))) rfl ?_
            refine qE.call hd9 rfl rfl rfl rfl (t_m_in_129 (by omega) rfl) ?_
            refine qE.steps 0 hd9 (s' := (71, [(0, .ref 64), (1, .int i1), (2, .int i2), (3, .int i3)], [.int (m_in_129 i1 (Int32.ofInt 3) (Int32.ofInt 6))], (x, σ, y))) rfl ?_
            refine qE.steps 1 hd9 (s' := (if ¬ (m_in_129 i1 (Int32.ofInt 3) (Int32.ofInt 6) = 0) then 76 else 74, [(0, .ref 64), (1, .int i1), (2, .int i2), (3, .int i3)], [], (x, σ, y))) rfl ?_
            by_cases c5 : m_in_129 i1 (Int32.ofInt 3) (Int32.ofInt 6) = 0
            · rw [if_pos c5] at h
              rw [if_neg (not_not_intro c5)]
              refine qE.steps 1 hd9 (s' := (75, [(0, .ref 64), (1, .int i1), (2, .int i2), (3, .int i3)], [.int (Int32.ofInt (-1))], (x, σ, y))) rfl ?_
              obtain rfl := Option.some.inj h
              exact qE.ret hd9 rfl rfl
            · rw [if_neg c5] at h
              rw [if_pos c5]
              refine qE.steps 3 hd9 (s' := (if ¬ (σ.1 6438 = 0) then 85 else 83, [(0, .ref 64), (1, .int i1), (2, .int i2), (3, .int i3)], [], (x, σ, y))) rfl ?_
              by_cases c6 : σ.1 6438 = 0
              · rw [if_pos c6] at h
                rw [if_neg (not_not_intro c6)]
                refine qE.steps 1 hd9 (s' := (84, [(0, .ref 64), (1, .int i1), (2, .int i2), (3, .int i3)], [.int (Int32.ofInt 0)], (x, σ, y))) rfl ?_
                obtain rfl := Option.some.inj h
                exact qE.ret hd9 rfl rfl
              · rw [if_neg c6] at h
                rw [if_pos c6]
                refine qE.steps 3 hd9 (s' := (if ¬ (i1 = Int32.ofInt 3) then 97 else 90, [(0, .ref 64), (1, .int i1), (2, .int i2), (3, .int i3)], [], (x, σ, y))) rfl ?_
                by_cases c7 : i1 = Int32.ofInt 3
                · rw [if_pos c7] at h
                  rw [if_neg (not_not_intro c7)]
                  refine qE.steps 3 hd9 (s' := (122, [(0, .ref 64), (1, .int i1), (2, .int i2), (3, .int i3)], [.int (σ.1 6431)], (x, σ, y))) rfl ?_
                  obtain rfl := Option.some.inj h
                  exact qE.ret hd9 rfl rfl
                · rw [if_neg c7] at h
                  rw [if_pos c7]
                  refine qE.steps 3 hd9 (s' := (if ¬ (i1 = Int32.ofInt 4) then 109 else 102, [(0, .ref 64), (1, .int i1), (2, .int i2), (3, .int i3)], [], (x, σ, y))) rfl ?_
                  by_cases c8 : i1 = Int32.ofInt 4
                  · rw [if_pos c8] at h
                    rw [if_neg (not_not_intro c8)]
                    refine qE.steps 3 hd9 (s' := (122, [(0, .ref 64), (1, .int i1), (2, .int i2), (3, .int i3)], [.int (σ.1 6433)], (x, σ, y))) rfl ?_
                    obtain rfl := Option.some.inj h
                    exact qE.ret hd9 rfl rfl
                  · rw [if_neg c8] at h
                    rw [if_pos c8]
                    refine qE.steps 3 hd9 (s' := (if ¬ (i1 = Int32.ofInt 5) then 118 else 114, [(0, .ref 64), (1, .int i1), (2, .int i2), (3, .int i3)], [], (x, σ, y))) rfl ?_
                    by_cases c9 : i1 = Int32.ofInt 5
                    · rw [if_pos c9] at h
                      rw [if_neg (not_not_intro c9)]
                      refine qE.steps 2 hd9 (s' := (122, [(0, .ref 64), (1, .int i1), (2, .int i2), (3, .int i3)], [.int i2], (x, σ, y))) rfl ?_
                      obtain rfl := Option.some.inj h
                      exact qE.ret hd9 rfl rfl
                    · rw [if_neg c9] at h
                      rw [if_pos c9]
                      refine qE.steps 2 hd9 (s' := (122, [(0, .ref 64), (1, .int i1), (2, .int i2), (3, .int i3)], [.int (σ.1 6427)], (x, σ, y))) rfl ?_
                      obtain rfl := Option.some.inj h
                      exact qE.ret hd9 rfl rfl
    · rw [if_neg c1] at h
      rw [if_neg c1]
      refine qE.steps 3 hd9 (s' := (22, [(0, .ref 64), (1, .int i1), (2, .int i2), (3, .int i3)], [.int i3, .ref 89], (x, σ, y))) rfl ?_
      obtain ⟨x10, e11, h⟩ := obind h
      refine qE.iald hd9 e11 rfl rfl ?_
      refine qE.steps 1 hd9 (s' := (if ¬ (x10 = 0) then 29 else 26, [(0, .ref 64), (1, .int i1), (2, .int i2), (3, .int i3)], [], (x, σ, y))) rfl ?_
      by_cases c12 : x10 = 0
      · rw [if_pos c12] at h
        rw [if_neg (not_not_intro c12)]
        refine qE.steps 3 hd9 (s' := (9, [(3, .int (i3 + Int32.ofInt 1)), (2, .int (i2 + Int32.ofInt 1)), (0, .ref 64), (1, .int i1)], [], (x, σ, y))) rfl ?_
        exact qE.wk (ih h) ⟨rfl, rfl, rfl, rfl, trivial⟩ rfl
      · rw [if_neg c12] at h
        rw [if_pos c12]
        refine qE.steps 2 hd9 (s' := (9, [(3, .int (i3 + Int32.ofInt 1)), (0, .ref 64), (1, .int i1), (2, .int i2)], [], (x, σ, y))) rfl ?_
        exact qE.wk (ih h) ⟨rfl, rfl, rfl, rfl, trivial⟩ rfl
set_option maxRecDepth 20000 in
theorem t_m_count_173 {S : Nat × (Nat → Int32)} {d : Nat} {x : qC} {y : Int64 × Nat} {i1 : Int32} {σ : qC} {p : (Int32 × qC)} (hd : 10 ≤ d) (h : m_count_173 i1 σ = some p) : qE S d jm_12_count_173 (0, [(0, .ref 64), (1, .int i1)], [], (x, σ, y)) ((.inl (some (.int p.1)), (x, p.2, y))) := by
  have hd9 : 9 ≤ d := by omega
  unfold m_count_173 at h
  obtain ⟨σ1, e2, h⟩ := qlet_ex h
  refine qE.steps 3 hd9 (s' := (5, [(0, .ref 64), (1, .int i1)], [], (x, σ1, y))) (by subst e2; rfl) ?_
  refine qE.steps 4 hd9 (s' := (9, [(3, .int (Int32.ofInt 0)), (2, .int (Int32.ofInt 0)), (0, .ref 64), (1, .int i1)], [], (x, σ1, y))) rfl ?_
  exact qE.wk (t_m_count_173_l9 hd qF h) ⟨rfl, rfl, rfl, rfl, trivial⟩ rfl
