/-! the law, turn by turn -/
theorem lg_self (x : Int64) : lg_cmp x x = 0 := by
  unfold lg_cmp
  rw [if_neg (Int64.lt_irrefl), if_pos rfl]
set_option maxRecDepth 20000 in
theorem inc6 {S : Nat × (Nat → Int32)} {d : Nat} {i k b : Int32} {g : qG} {r : qO} (hd : 9 ≤ d) (e : qE S d jm_law (23, [(4, .int (i + Int32.ofInt 3)), (3, .ref 105), (2, .ref 64), (1, .ref 24), (0, .ref 0)], [], g) r) : qE S d jm_law (489, [(6, .int b), (5, .int k), (4, .int i), (3, .ref 105), (2, .ref 64), (1, .ref 24), (0, .ref 0)], [], g) r := by
  refine qE.steps 2 hd (s' := (23, [(4, .int (i + Int32.ofInt 3)), (6, .int b), (5, .int k), (3, .ref 105), (2, .ref 64), (1, .ref 24), (0, .ref 0)], [], g)) rfl ?_
  exact qE.weak (a := [(4, .int (i + Int32.ofInt 3)), (3, .ref 105), (2, .ref 64), (1, .ref 24), (0, .ref 0)]) ⟨rfl, rfl, rfl, rfl, rfl, trivial⟩ rfl e
set_option maxRecDepth 20000 in
theorem inc5 {S : Nat × (Nat → Int32)} {d : Nat} {i k : Int32} {g : qG} {r : qO} (hd : 9 ≤ d) (e : qE S d jm_law (23, [(4, .int (i + Int32.ofInt 3)), (3, .ref 105), (2, .ref 64), (1, .ref 24), (0, .ref 0)], [], g) r) : qE S d jm_law (489, [(5, .int k), (4, .int i), (3, .ref 105), (2, .ref 64), (1, .ref 24), (0, .ref 0)], [], g) r := by
  refine qE.steps 2 hd (s' := (23, [(4, .int (i + Int32.ofInt 3)), (5, .int k), (3, .ref 105), (2, .ref 64), (1, .ref 24), (0, .ref 0)], [], g)) rfl ?_
  exact qE.weak (a := [(4, .int (i + Int32.ofInt 3)), (3, .ref 105), (2, .ref 64), (1, .ref 24), (0, .ref 0)]) ⟨rfl, rfl, rfl, rfl, rfl, trivial⟩ rfl e
set_option maxRecDepth 20000 in
theorem inc4 {S : Nat × (Nat → Int32)} {d : Nat} {i : Int32} {g : qG} {r : qO} (hd : 9 ≤ d) (e : qE S d jm_law (23, [(4, .int (i + Int32.ofInt 3)), (3, .ref 105), (2, .ref 64), (1, .ref 24), (0, .ref 0)], [], g) r) : qE S d jm_law (489, [(4, .int i), (3, .ref 105), (2, .ref 64), (1, .ref 24), (0, .ref 0)], [], g) r := by
  refine qE.steps 2 hd (s' := (23, [(4, .int (i + Int32.ofInt 3)), (3, .ref 105), (2, .ref 64), (1, .ref 24), (0, .ref 0)], [], g)) rfl ?_
  exact e
set_option maxRecDepth 20000 in
theorem tail_141 {S : Nat × (Nat → Int32)} {d : Nat} {i k b : Int32} {σ τ : qC} {o : Int64} {n : Nat} {r : qO} (hd : 50 ≤ d) (h1 : τ.1 6411 = k) (h2 : k = 0 → o = b.toInt64) (e : qE S d jm_law (23, [(4, .int (i + Int32.ofInt 3)), (3, .ref 105), (2, .ref 64), (1, .ref 24), (0, .ref 0)], [], (σ, τ, o, n)) r) : qE S d jm_law (141, [(6, .int b), (5, .int k), (4, .int i), (3, .ref 105), (2, .ref 64), (1, .ref 24), (0, .ref 0)], [], (σ, τ, o, n)) r := by
  have hd9 : 9 ≤ d := by omega
  refine qE.steps 1 hd9 (s' := (142, [(6, .int b), (5, .int k), (4, .int i), (3, .ref 105), (2, .ref 64), (1, .ref 24), (0, .ref 0)], [.ref 64], (σ, τ, o, n))) rfl ?_
  refine qE.call hd9 rfl rfl rfl rfl (t_m_thrown_127 (p := k) (by omega) h1) ?_
  refine qE.steps 2 hd9 (s' := (if k = k then 152 else 150, [(6, .int b), (5, .int k), (4, .int i), (3, .ref 105), (2, .ref 64), (1, .ref 24), (0, .ref 0)], [], (σ, τ, o, n))) rfl ?_
  rw [if_pos rfl]
  refine qE.steps 2 hd9 (s' := (if ¬ k = 0 then 169 else 157, [(6, .int b), (5, .int k), (4, .int i), (3, .ref 105), (2, .ref 64), (1, .ref 24), (0, .ref 0)], [], (σ, τ, o, n))) rfl ?_
  by_cases hk : k = 0
  · rw [if_neg (not_not_intro hk)]
    refine qE.steps 6 hd9 (s' := (164, [(6, .int b), (5, .int k), (4, .int i), (3, .ref 105), (2, .ref 64), (1, .ref 24), (0, .ref 0)], [.int (lg_cmp o b.toInt64)], (σ, τ, o, n))) rfl ?_
    rw [h2 hk, lg_self]
    refine qE.steps 2 hd9 (s' := (489, [(6, .int b), (5, .int k), (4, .int i), (3, .ref 105), (2, .ref 64), (1, .ref 24), (0, .ref 0)], [], (σ, τ, b.toInt64, n))) rfl ?_
    rw [h2 hk] at e
    exact inc6 hd9 e
  · rw [if_pos hk]
    refine qE.steps 1 hd9 (s' := (489, [(6, .int b), (5, .int k), (4, .int i), (3, .ref 105), (2, .ref 64), (1, .ref 24), (0, .ref 0)], [], (σ, τ, o, n))) rfl ?_
    exact inc6 hd9 e
set_option maxRecDepth 20000 in
theorem tail_185 {S : Nat × (Nat → Int32)} {d : Nat} {i k b : Int32} {σ τ : qC} {o : Int64} {n : Nat} {r : qO} (hd : 50 ≤ d) (h1 : τ.1 6411 = k) (h2 : k = 0 → o = b.toInt64) (e : qE S d jm_law (23, [(4, .int (i + Int32.ofInt 3)), (3, .ref 105), (2, .ref 64), (1, .ref 24), (0, .ref 0)], [], (σ, τ, o, n)) r) : qE S d jm_law (185, [(6, .int b), (5, .int k), (4, .int i), (3, .ref 105), (2, .ref 64), (1, .ref 24), (0, .ref 0)], [], (σ, τ, o, n)) r := by
  have hd9 : 9 ≤ d := by omega
  refine qE.steps 1 hd9 (s' := (186, [(6, .int b), (5, .int k), (4, .int i), (3, .ref 105), (2, .ref 64), (1, .ref 24), (0, .ref 0)], [.ref 64], (σ, τ, o, n))) rfl ?_
  refine qE.call hd9 rfl rfl rfl rfl (t_m_thrown_127 (p := k) (by omega) h1) ?_
  refine qE.steps 2 hd9 (s' := (if k = k then 196 else 194, [(6, .int b), (5, .int k), (4, .int i), (3, .ref 105), (2, .ref 64), (1, .ref 24), (0, .ref 0)], [], (σ, τ, o, n))) rfl ?_
  rw [if_pos rfl]
  refine qE.steps 2 hd9 (s' := (if ¬ k = 0 then 213 else 201, [(6, .int b), (5, .int k), (4, .int i), (3, .ref 105), (2, .ref 64), (1, .ref 24), (0, .ref 0)], [], (σ, τ, o, n))) rfl ?_
  by_cases hk : k = 0
  · rw [if_neg (not_not_intro hk)]
    refine qE.steps 6 hd9 (s' := (208, [(6, .int b), (5, .int k), (4, .int i), (3, .ref 105), (2, .ref 64), (1, .ref 24), (0, .ref 0)], [.int (lg_cmp o b.toInt64)], (σ, τ, o, n))) rfl ?_
    rw [h2 hk, lg_self]
    refine qE.steps 2 hd9 (s' := (489, [(6, .int b), (5, .int k), (4, .int i), (3, .ref 105), (2, .ref 64), (1, .ref 24), (0, .ref 0)], [], (σ, τ, b.toInt64, n))) rfl ?_
    rw [h2 hk] at e
    exact inc6 hd9 e
  · rw [if_pos hk]
    refine qE.steps 1 hd9 (s' := (489, [(6, .int b), (5, .int k), (4, .int i), (3, .ref 105), (2, .ref 64), (1, .ref 24), (0, .ref 0)], [], (σ, τ, o, n))) rfl ?_
    exact inc6 hd9 e
set_option maxRecDepth 20000 in
theorem tail_265 {S : Nat × (Nat → Int32)} {d : Nat} {i k b : Int32} {σ τ : qC} {o : Int64} {n : Nat} {r : qO} (hd : 50 ≤ d) (h1 : τ.1 6411 = k) (h2 : k = 0 → o = b.toInt64) (e : qE S d jm_law (23, [(4, .int (i + Int32.ofInt 3)), (3, .ref 105), (2, .ref 64), (1, .ref 24), (0, .ref 0)], [], (σ, τ, o, n)) r) : qE S d jm_law (265, [(6, .int b), (5, .int k), (4, .int i), (3, .ref 105), (2, .ref 64), (1, .ref 24), (0, .ref 0)], [], (σ, τ, o, n)) r := by
  have hd9 : 9 ≤ d := by omega
  refine qE.steps 1 hd9 (s' := (266, [(6, .int b), (5, .int k), (4, .int i), (3, .ref 105), (2, .ref 64), (1, .ref 24), (0, .ref 0)], [.ref 64], (σ, τ, o, n))) rfl ?_
  refine qE.call hd9 rfl rfl rfl rfl (t_m_thrown_127 (p := k) (by omega) h1) ?_
  refine qE.steps 2 hd9 (s' := (if k = k then 276 else 274, [(6, .int b), (5, .int k), (4, .int i), (3, .ref 105), (2, .ref 64), (1, .ref 24), (0, .ref 0)], [], (σ, τ, o, n))) rfl ?_
  rw [if_pos rfl]
  refine qE.steps 2 hd9 (s' := (if ¬ k = 0 then 293 else 281, [(6, .int b), (5, .int k), (4, .int i), (3, .ref 105), (2, .ref 64), (1, .ref 24), (0, .ref 0)], [], (σ, τ, o, n))) rfl ?_
  by_cases hk : k = 0
  · rw [if_neg (not_not_intro hk)]
    refine qE.steps 6 hd9 (s' := (288, [(6, .int b), (5, .int k), (4, .int i), (3, .ref 105), (2, .ref 64), (1, .ref 24), (0, .ref 0)], [.int (lg_cmp o b.toInt64)], (σ, τ, o, n))) rfl ?_
    rw [h2 hk, lg_self]
    refine qE.steps 2 hd9 (s' := (489, [(6, .int b), (5, .int k), (4, .int i), (3, .ref 105), (2, .ref 64), (1, .ref 24), (0, .ref 0)], [], (σ, τ, b.toInt64, n))) rfl ?_
    rw [h2 hk] at e
    exact inc6 hd9 e
  · rw [if_pos hk]
    refine qE.steps 1 hd9 (s' := (489, [(6, .int b), (5, .int k), (4, .int i), (3, .ref 105), (2, .ref 64), (1, .ref 24), (0, .ref 0)], [], (σ, τ, o, n))) rfl ?_
    exact inc6 hd9 e
set_option maxRecDepth 20000 in
theorem tail_309 {S : Nat × (Nat → Int32)} {d : Nat} {i k b : Int32} {σ τ : qC} {o : Int64} {n : Nat} {r : qO} (hd : 50 ≤ d) (h1 : τ.1 6411 = k) (h2 : k = 0 → o = b.toInt64) (e : qE S d jm_law (23, [(4, .int (i + Int32.ofInt 3)), (3, .ref 105), (2, .ref 64), (1, .ref 24), (0, .ref 0)], [], (σ, τ, o, n)) r) : qE S d jm_law (309, [(6, .int b), (5, .int k), (4, .int i), (3, .ref 105), (2, .ref 64), (1, .ref 24), (0, .ref 0)], [], (σ, τ, o, n)) r := by
  have hd9 : 9 ≤ d := by omega
  refine qE.steps 1 hd9 (s' := (310, [(6, .int b), (5, .int k), (4, .int i), (3, .ref 105), (2, .ref 64), (1, .ref 24), (0, .ref 0)], [.ref 64], (σ, τ, o, n))) rfl ?_
  refine qE.call hd9 rfl rfl rfl rfl (t_m_thrown_127 (p := k) (by omega) h1) ?_
  refine qE.steps 2 hd9 (s' := (if k = k then 320 else 318, [(6, .int b), (5, .int k), (4, .int i), (3, .ref 105), (2, .ref 64), (1, .ref 24), (0, .ref 0)], [], (σ, τ, o, n))) rfl ?_
  rw [if_pos rfl]
  refine qE.steps 2 hd9 (s' := (if ¬ k = 0 then 337 else 325, [(6, .int b), (5, .int k), (4, .int i), (3, .ref 105), (2, .ref 64), (1, .ref 24), (0, .ref 0)], [], (σ, τ, o, n))) rfl ?_
  by_cases hk : k = 0
  · rw [if_neg (not_not_intro hk)]
    refine qE.steps 6 hd9 (s' := (332, [(6, .int b), (5, .int k), (4, .int i), (3, .ref 105), (2, .ref 64), (1, .ref 24), (0, .ref 0)], [.int (lg_cmp o b.toInt64)], (σ, τ, o, n))) rfl ?_
    rw [h2 hk, lg_self]
    refine qE.steps 2 hd9 (s' := (489, [(6, .int b), (5, .int k), (4, .int i), (3, .ref 105), (2, .ref 64), (1, .ref 24), (0, .ref 0)], [], (σ, τ, b.toInt64, n))) rfl ?_
    rw [h2 hk] at e
    exact inc6 hd9 e
  · rw [if_pos hk]
    refine qE.steps 1 hd9 (s' := (489, [(6, .int b), (5, .int k), (4, .int i), (3, .ref 105), (2, .ref 64), (1, .ref 24), (0, .ref 0)], [], (σ, τ, o, n))) rfl ?_
    exact inc6 hd9 e
set_option maxRecDepth 20000 in
theorem tail_377 {S : Nat × (Nat → Int32)} {d : Nat} {i k b : Int32} {σ τ : qC} {o : Int64} {n : Nat} {r : qO} (hd : 50 ≤ d) (h1 : τ.1 6411 = k) (h2 : k = 0 → o = b.toInt64) (e : qE S d jm_law (23, [(4, .int (i + Int32.ofInt 3)), (3, .ref 105), (2, .ref 64), (1, .ref 24), (0, .ref 0)], [], (σ, τ, o, n)) r) : qE S d jm_law (377, [(6, .int b), (5, .int k), (4, .int i), (3, .ref 105), (2, .ref 64), (1, .ref 24), (0, .ref 0)], [], (σ, τ, o, n)) r := by
  have hd9 : 9 ≤ d := by omega
  refine qE.steps 1 hd9 (s' := (378, [(6, .int b), (5, .int k), (4, .int i), (3, .ref 105), (2, .ref 64), (1, .ref 24), (0, .ref 0)], [.ref 64], (σ, τ, o, n))) rfl ?_
  refine qE.call hd9 rfl rfl rfl rfl (t_m_thrown_127 (p := k) (by omega) h1) ?_
  refine qE.steps 2 hd9 (s' := (if k = k then 388 else 386, [(6, .int b), (5, .int k), (4, .int i), (3, .ref 105), (2, .ref 64), (1, .ref 24), (0, .ref 0)], [], (σ, τ, o, n))) rfl ?_
  rw [if_pos rfl]
  refine qE.steps 2 hd9 (s' := (if ¬ k = 0 then 405 else 393, [(6, .int b), (5, .int k), (4, .int i), (3, .ref 105), (2, .ref 64), (1, .ref 24), (0, .ref 0)], [], (σ, τ, o, n))) rfl ?_
  by_cases hk : k = 0
  · rw [if_neg (not_not_intro hk)]
    refine qE.steps 6 hd9 (s' := (400, [(6, .int b), (5, .int k), (4, .int i), (3, .ref 105), (2, .ref 64), (1, .ref 24), (0, .ref 0)], [.int (lg_cmp o b.toInt64)], (σ, τ, o, n))) rfl ?_
    rw [h2 hk, lg_self]
    refine qE.steps 2 hd9 (s' := (489, [(6, .int b), (5, .int k), (4, .int i), (3, .ref 105), (2, .ref 64), (1, .ref 24), (0, .ref 0)], [], (σ, τ, b.toInt64, n))) rfl ?_
    rw [h2 hk] at e
    exact inc6 hd9 e
  · rw [if_pos hk]
    refine qE.steps 1 hd9 (s' := (489, [(6, .int b), (5, .int k), (4, .int i), (3, .ref 105), (2, .ref 64), (1, .ref 24), (0, .ref 0)], [], (σ, τ, o, n))) rfl ?_
    exact inc6 hd9 e
set_option maxRecDepth 20000 in
theorem tail_433 {S : Nat × (Nat → Int32)} {d : Nat} {i k b : Int32} {σ τ : qC} {o : Int64} {n : Nat} {r : qO} (hd : 50 ≤ d) (h1 : τ.1 6411 = k) (h2 : k = 0 → o = b.toInt64) (e : qE S d jm_law (23, [(4, .int (i + Int32.ofInt 3)), (3, .ref 105), (2, .ref 64), (1, .ref 24), (0, .ref 0)], [], (σ, τ, o, n)) r) : qE S d jm_law (433, [(6, .int b), (5, .int k), (4, .int i), (3, .ref 105), (2, .ref 64), (1, .ref 24), (0, .ref 0)], [], (σ, τ, o, n)) r := by
  have hd9 : 9 ≤ d := by omega
  refine qE.steps 1 hd9 (s' := (434, [(6, .int b), (5, .int k), (4, .int i), (3, .ref 105), (2, .ref 64), (1, .ref 24), (0, .ref 0)], [.ref 64], (σ, τ, o, n))) rfl ?_
  refine qE.call hd9 rfl rfl rfl rfl (t_m_thrown_127 (p := k) (by omega) h1) ?_
  refine qE.steps 2 hd9 (s' := (if k = k then 444 else 442, [(6, .int b), (5, .int k), (4, .int i), (3, .ref 105), (2, .ref 64), (1, .ref 24), (0, .ref 0)], [], (σ, τ, o, n))) rfl ?_
  rw [if_pos rfl]
  refine qE.steps 2 hd9 (s' := (if ¬ k = 0 then 461 else 449, [(6, .int b), (5, .int k), (4, .int i), (3, .ref 105), (2, .ref 64), (1, .ref 24), (0, .ref 0)], [], (σ, τ, o, n))) rfl ?_
  by_cases hk : k = 0
  · rw [if_neg (not_not_intro hk)]
    refine qE.steps 6 hd9 (s' := (456, [(6, .int b), (5, .int k), (4, .int i), (3, .ref 105), (2, .ref 64), (1, .ref 24), (0, .ref 0)], [.int (lg_cmp o b.toInt64)], (σ, τ, o, n))) rfl ?_
    rw [h2 hk, lg_self]
    refine qE.steps 2 hd9 (s' := (489, [(6, .int b), (5, .int k), (4, .int i), (3, .ref 105), (2, .ref 64), (1, .ref 24), (0, .ref 0)], [], (σ, τ, b.toInt64, n))) rfl ?_
    rw [h2 hk] at e
    exact inc6 hd9 e
  · rw [if_pos hk]
    refine qE.steps 1 hd9 (s' := (489, [(6, .int b), (5, .int k), (4, .int i), (3, .ref 105), (2, .ref 64), (1, .ref 24), (0, .ref 0)], [], (σ, τ, o, n))) rfl ?_
    exact inc6 hd9 e
set_option maxRecDepth 20000 in
theorem tail_238 {S : Nat × (Nat → Int32)} {d : Nat} {i k : Int32} {σ τ : qC} {o : Int64} {n : Nat} {r : qO} (hd : 50 ≤ d) (h1 : τ.1 6411 = k) (e : qE S d jm_law (23, [(4, .int (i + Int32.ofInt 3)), (3, .ref 105), (2, .ref 64), (1, .ref 24), (0, .ref 0)], [], (σ, τ, o, n)) r) : qE S d jm_law (238, [(5, .int k), (4, .int i), (3, .ref 105), (2, .ref 64), (1, .ref 24), (0, .ref 0)], [], (σ, τ, o, n)) r := by
  have hd9 : 9 ≤ d := by omega
  refine qE.steps 1 hd9 (s' := (239, [(5, .int k), (4, .int i), (3, .ref 105), (2, .ref 64), (1, .ref 24), (0, .ref 0)], [.ref 64], (σ, τ, o, n))) rfl ?_
  refine qE.call hd9 rfl rfl rfl rfl (t_m_thrown_127 (p := k) (by omega) h1) ?_
  refine qE.steps 2 hd9 (s' := (if k = k then 249 else 247, [(5, .int k), (4, .int i), (3, .ref 105), (2, .ref 64), (1, .ref 24), (0, .ref 0)], [], (σ, τ, o, n))) rfl ?_
  rw [if_pos rfl]
  refine qE.steps 1 hd9 (s' := (489, [(5, .int k), (4, .int i), (3, .ref 105), (2, .ref 64), (1, .ref 24), (0, .ref 0)], [], (σ, τ, o, n))) rfl ?_
  exact inc5 hd9 e
def lX (a c : Int32) : Int64 := ((a.toInt64 <<< ((Int32.ofInt 32).toInt64 &&& 63)) ||| (c.toInt64 &&& 4294967295))
set_option maxRecDepth 20000 in
theorem go_type {S : Nat × (Nat → Int32)} {d : Nat} {i k b : Int32} {σ τ σ' τ' : qC} {o o' : Int64} {n n' : Nat} {r : qO} {a c : Int32} (hd : 50 ≤ d) (h1 : τ'.1 6411 = k) (h2 : k = 0 → o' = b.toInt64) (ha : aget S.2 S.1 (i + Int32.ofInt 1) = some a) (hc : aget S.2 S.1 (i + Int32.ofInt 2) = some c)
    (w : qE S (d - 1) jm_13_type_174 (0, [(0, .ref 24), (1, .long (lX a c)), (3, .ref 105)], [], (σ, τ, o, n)) (.inl (some (.int k)), (σ', τ, o', n'))) (m : m_type_128 (lX a c) τ = some (b, τ')) (e : qE S d jm_law (23, [(4, .int (i + Int32.ofInt 3)), (3, .ref 105), (2, .ref 64), (1, .ref 24), (0, .ref 0)], [], (σ', τ', o', n')) r) : qE S d jm_law (84, [(4, .int i), (3, .ref 105), (2, .ref 64), (1, .ref 24), (0, .ref 0)], [], (σ, τ, o, n)) r := by
  have hd9 : 9 ≤ d := by omega
  refine qE.steps 5 hd9 (s' := (90, [(4, .int i), (3, .ref 105), (2, .ref 64), (1, .ref 24), (0, .ref 0)], [.int (i + Int32.ofInt 1), .ref 0, .ref 24], (σ, τ, o, n))) rfl ?_
  refine qE.sald hd9 ha rfl rfl ?_
  refine qE.steps 7 hd9 (s' := (100, [(4, .int i), (3, .ref 105), (2, .ref 64), (1, .ref 24), (0, .ref 0)], [.int (i + Int32.ofInt 2), .ref 0, .long (a.toInt64 <<< ((Int32.ofInt 32).toInt64 &&& 63)), .ref 24], (σ, τ, o, n))) rfl ?_
  refine qE.sald hd9 hc rfl rfl ?_
  refine qE.steps 5 hd9 (s' := (108, [(4, .int i), (3, .ref 105), (2, .ref 64), (1, .ref 24), (0, .ref 0)], [.ref 105, .long (lX a c), .ref 24], (σ, τ, o, n))) rfl ?_
  refine qE.call hd9 rfl rfl rfl rfl w ?_
  refine qE.steps 5 hd9 (s' := (118, [(5, .int k), (4, .int i), (3, .ref 105), (2, .ref 64), (1, .ref 24), (0, .ref 0)], [.int (Int32.ofInt 1), .int i, .ref 0, .ref 64], (σ', τ, o', n'))) rfl ?_
  refine qE.steps 1 hd9 (s' := (119, [(5, .int k), (4, .int i), (3, .ref 105), (2, .ref 64), (1, .ref 24), (0, .ref 0)], [.int (i + Int32.ofInt 1), .ref 0, .ref 64], (σ', τ, o', n'))) rfl ?_
  refine qE.sald hd9 ha rfl rfl ?_
  refine qE.steps 7 hd9 (s' := (129, [(5, .int k), (4, .int i), (3, .ref 105), (2, .ref 64), (1, .ref 24), (0, .ref 0)], [.int (i + Int32.ofInt 2), .ref 0, .long (a.toInt64 <<< ((Int32.ofInt 32).toInt64 &&& 63)), .ref 64], (σ', τ, o', n'))) rfl ?_
  refine qE.sald hd9 hc rfl rfl ?_
  refine qE.steps 4 hd9 (s' := (136, [(5, .int k), (4, .int i), (3, .ref 105), (2, .ref 64), (1, .ref 24), (0, .ref 0)], [.long (lX a c), .ref 64], (σ', τ, o', n'))) rfl ?_
  refine qE.call hd9 rfl rfl rfl rfl (t_m_type_128 (by omega) m) ?_
  refine qE.steps 1 hd9 (s' := (141, [(6, .int b), (5, .int k), (4, .int i), (3, .ref 105), (2, .ref 64), (1, .ref 24), (0, .ref 0)], [], (σ', τ', o', n'))) rfl ?_
  exact tail_141 hd h1 h2 e
set_option maxRecDepth 20000 in
theorem go_add {S : Nat × (Nat → Int32)} {d : Nat} {i k b : Int32} {σ τ σ' τ' : qC} {o o' : Int64} {n n' : Nat} {r : qO} (hd : 50 ≤ d) (h1 : τ'.1 6411 = k) (h2 : k = 0 → o' = b.toInt64)
    (w : qE S (d - 1) jm_13_add_175 (0, [(0, .ref 24), (1, .ref 105)], [], (σ, τ, o, n)) (.inl (some (.int k)), (σ', τ, o', n'))) (m : m_add_132 τ = some (b, τ')) (e : qE S d jm_law (23, [(4, .int (i + Int32.ofInt 3)), (3, .ref 105), (2, .ref 64), (1, .ref 24), (0, .ref 0)], [], (σ', τ', o', n')) r) : qE S d jm_law (172, [(4, .int i), (3, .ref 105), (2, .ref 64), (1, .ref 24), (0, .ref 0)], [], (σ, τ, o, n)) r := by
  have hd9 : 9 ≤ d := by omega
  refine qE.steps 2 hd9 (s' := (174, [(4, .int i), (3, .ref 105), (2, .ref 64), (1, .ref 24), (0, .ref 0)], [.ref 105, .ref 24], (σ, τ, o, n))) rfl ?_
  refine qE.call hd9 rfl rfl rfl rfl w ?_
  refine qE.steps 2 hd9 (s' := (180, [(5, .int k), (4, .int i), (3, .ref 105), (2, .ref 64), (1, .ref 24), (0, .ref 0)], [.ref 64], (σ', τ, o', n'))) rfl ?_
  refine qE.call hd9 rfl rfl rfl rfl (t_m_add_132 (by omega) m) ?_
  refine qE.steps 1 hd9 (s' := (185, [(6, .int b), (5, .int k), (4, .int i), (3, .ref 105), (2, .ref 64), (1, .ref 24), (0, .ref 0)], [], (σ', τ', o', n'))) rfl ?_
  exact tail_185 hd h1 h2 e
set_option maxRecDepth 20000 in
theorem go_ask {S : Nat × (Nat → Int32)} {d : Nat} {i k b : Int32} {σ τ σ' τ' : qC} {o o' : Int64} {n n' : Nat} {r : qO} (hd : 50 ≤ d) (h1 : τ'.1 6411 = k) (h2 : k = 0 → o' = b.toInt64)
    (w : qE S (d - 1) jm_13_ask_177 (0, [(0, .ref 24), (1, .ref 105)], [], (σ, τ, o, n)) (.inl (some (.int k)), (σ', τ, o', n'))) (m : m_ask_139 τ = some (b, τ')) (e : qE S d jm_law (23, [(4, .int (i + Int32.ofInt 3)), (3, .ref 105), (2, .ref 64), (1, .ref 24), (0, .ref 0)], [], (σ', τ', o', n')) r) : qE S d jm_law (252, [(4, .int i), (3, .ref 105), (2, .ref 64), (1, .ref 24), (0, .ref 0)], [], (σ, τ, o, n)) r := by
  have hd9 : 9 ≤ d := by omega
  refine qE.steps 2 hd9 (s' := (254, [(4, .int i), (3, .ref 105), (2, .ref 64), (1, .ref 24), (0, .ref 0)], [.ref 105, .ref 24], (σ, τ, o, n))) rfl ?_
  refine qE.call hd9 rfl rfl rfl rfl w ?_
  refine qE.steps 2 hd9 (s' := (260, [(5, .int k), (4, .int i), (3, .ref 105), (2, .ref 64), (1, .ref 24), (0, .ref 0)], [.ref 64], (σ', τ, o', n'))) rfl ?_
  refine qE.call hd9 rfl rfl rfl rfl (t_m_ask_139 (by omega) m) ?_
  refine qE.steps 1 hd9 (s' := (265, [(6, .int b), (5, .int k), (4, .int i), (3, .ref 105), (2, .ref 64), (1, .ref 24), (0, .ref 0)], [], (σ', τ', o', n'))) rfl ?_
  exact tail_265 hd h1 h2 e
set_option maxRecDepth 20000 in
theorem go_next {S : Nat × (Nat → Int32)} {d : Nat} {i k b : Int32} {σ τ σ' τ' : qC} {o o' : Int64} {n n' : Nat} {r : qO} (hd : 50 ≤ d) (h1 : τ'.1 6411 = k) (h2 : k = 0 → o' = b.toInt64)
    (w : qE S (d - 1) jm_13_next_178 (0, [(0, .ref 24), (1, .ref 105)], [], (σ, τ, o, n)) (.inl (some (.int k)), (σ', τ, o', n'))) (m : m_next_168 τ = some (b, τ')) (e : qE S d jm_law (23, [(4, .int (i + Int32.ofInt 3)), (3, .ref 105), (2, .ref 64), (1, .ref 24), (0, .ref 0)], [], (σ', τ', o', n')) r) : qE S d jm_law (296, [(4, .int i), (3, .ref 105), (2, .ref 64), (1, .ref 24), (0, .ref 0)], [], (σ, τ, o, n)) r := by
  have hd9 : 9 ≤ d := by omega
  refine qE.steps 2 hd9 (s' := (298, [(4, .int i), (3, .ref 105), (2, .ref 64), (1, .ref 24), (0, .ref 0)], [.ref 105, .ref 24], (σ, τ, o, n))) rfl ?_
  refine qE.call hd9 rfl rfl rfl rfl w ?_
  refine qE.steps 2 hd9 (s' := (304, [(5, .int k), (4, .int i), (3, .ref 105), (2, .ref 64), (1, .ref 24), (0, .ref 0)], [.ref 64], (σ', τ, o', n'))) rfl ?_
  refine qE.call hd9 rfl rfl rfl rfl (t_m_next_168 (by omega) m) ?_
  refine qE.steps 1 hd9 (s' := (309, [(6, .int b), (5, .int k), (4, .int i), (3, .ref 105), (2, .ref 64), (1, .ref 24), (0, .ref 0)], [], (σ', τ', o', n'))) rfl ?_
  exact tail_309 hd h1 h2 e
set_option maxRecDepth 20000 in
theorem go_drop {S : Nat × (Nat → Int32)} {d : Nat} {i k : Int32} {σ τ σ' τ' : qC} {o o' : Int64} {n n' : Nat} {r : qO} {a : Int32} (hd : 50 ≤ d) (h1 : τ'.1 6411 = k) (ha : aget S.2 S.1 (i + Int32.ofInt 1) = some a)
    (w : qE S (d - 1) jm_13_drop_176 (0, [(0, .ref 24), (1, .int a)], [], (σ, τ, o, n)) (.inl (some (.int k)), (σ', τ, o', n'))) (m : m_drop_138 a τ = some τ') (e : qE S d jm_law (23, [(4, .int (i + Int32.ofInt 3)), (3, .ref 105), (2, .ref 64), (1, .ref 24), (0, .ref 0)], [], (σ', τ', o', n')) r) : qE S d jm_law (216, [(4, .int i), (3, .ref 105), (2, .ref 64), (1, .ref 24), (0, .ref 0)], [], (σ, τ, o, n)) r := by
  have hd9 : 9 ≤ d := by omega
  refine qE.steps 5 hd9 (s' := (222, [(4, .int i), (3, .ref 105), (2, .ref 64), (1, .ref 24), (0, .ref 0)], [.int (i + Int32.ofInt 1), .ref 0, .ref 24], (σ, τ, o, n))) rfl ?_
  refine qE.sald hd9 ha rfl rfl ?_
  refine qE.call hd9 rfl rfl rfl rfl w ?_
  refine qE.steps 6 hd9 (s' := (234, [(5, .int k), (4, .int i), (3, .ref 105), (2, .ref 64), (1, .ref 24), (0, .ref 0)], [.int (i + Int32.ofInt 1), .ref 0, .ref 64], (σ', τ, o', n'))) rfl ?_
  refine qE.sald hd9 ha rfl rfl ?_
  refine qE.call hd9 rfl rfl rfl rfl (t_m_drop_138 (by omega) m) ?_
  refine qE.steps 0 hd9 (s' := (238, [(5, .int k), (4, .int i), (3, .ref 105), (2, .ref 64), (1, .ref 24), (0, .ref 0)], [], (σ', τ', o', n'))) rfl ?_
  exact tail_238 hd h1 e
set_option maxRecDepth 20000 in
theorem go_letter {S : Nat × (Nat → Int32)} {d : Nat} {i k b : Int32} {σ τ σ' τ' : qC} {o o' : Int64} {n n' : Nat} {r : qO} {a c : Int32} (hd : 50 ≤ d) (h1 : τ'.1 6411 = k) (h2 : k = 0 → o' = b.toInt64) (ha : aget S.2 S.1 (i + Int32.ofInt 1) = some a) (hc : aget S.2 S.1 (i + Int32.ofInt 2) = some c)
    (w : qE S (d - 1) jm_13_letter_179 (0, [(0, .ref 24), (1, .int a), (2, .int c), (3, .ref 105)], [], (σ, τ, o, n)) (.inl (some (.int k)), (σ', τ, o', n'))) (m : m_letter_169 a c τ = some (b, τ')) (e : qE S d jm_law (23, [(4, .int (i + Int32.ofInt 3)), (3, .ref 105), (2, .ref 64), (1, .ref 24), (0, .ref 0)], [], (σ', τ', o', n')) r) : qE S d jm_law (340, [(4, .int i), (3, .ref 105), (2, .ref 64), (1, .ref 24), (0, .ref 0)], [], (σ, τ, o, n)) r := by
  have hd9 : 9 ≤ d := by omega
  refine qE.steps 5 hd9 (s' := (346, [(4, .int i), (3, .ref 105), (2, .ref 64), (1, .ref 24), (0, .ref 0)], [.int (i + Int32.ofInt 1), .ref 0, .ref 24], (σ, τ, o, n))) rfl ?_
  refine qE.sald hd9 ha rfl rfl ?_
  refine qE.steps 4 hd9 (s' := (352, [(4, .int i), (3, .ref 105), (2, .ref 64), (1, .ref 24), (0, .ref 0)], [.int (i + Int32.ofInt 2), .ref 0, .int a, .ref 24], (σ, τ, o, n))) rfl ?_
  refine qE.sald hd9 hc rfl rfl ?_
  refine qE.steps 1 hd9 (s' := (354, [(4, .int i), (3, .ref 105), (2, .ref 64), (1, .ref 24), (0, .ref 0)], [.ref 105, .int c, .int a, .ref 24], (σ, τ, o, n))) rfl ?_
  refine qE.call hd9 rfl rfl rfl rfl w ?_
  refine qE.steps 6 hd9 (s' := (365, [(5, .int k), (4, .int i), (3, .ref 105), (2, .ref 64), (1, .ref 24), (0, .ref 0)], [.int (i + Int32.ofInt 1), .ref 0, .ref 64], (σ', τ, o', n'))) rfl ?_
  refine qE.sald hd9 ha rfl rfl ?_
  refine qE.steps 4 hd9 (s' := (371, [(5, .int k), (4, .int i), (3, .ref 105), (2, .ref 64), (1, .ref 24), (0, .ref 0)], [.int (i + Int32.ofInt 2), .ref 0, .int a, .ref 64], (σ', τ, o', n'))) rfl ?_
  refine qE.sald hd9 hc rfl rfl ?_
  refine qE.call hd9 rfl rfl rfl rfl (t_m_letter_169 (by omega) m) ?_
  refine qE.steps 1 hd9 (s' := (377, [(6, .int b), (5, .int k), (4, .int i), (3, .ref 105), (2, .ref 64), (1, .ref 24), (0, .ref 0)], [], (σ', τ', o', n'))) rfl ?_
  exact tail_377 hd h1 h2 e
set_option maxRecDepth 20000 in
theorem go_sleeping {S : Nat × (Nat → Int32)} {d : Nat} {i k b : Int32} {σ τ σ' τ' : qC} {o o' : Int64} {n n' : Nat} {r : qO} {a : Int32} (hd : 50 ≤ d) (h1 : τ'.1 6411 = k) (h2 : k = 0 → o' = b.toInt64) (ha : aget S.2 S.1 (i + Int32.ofInt 1) = some a)
    (w : qE S (d - 1) jm_13_sleeping_180 (0, [(0, .ref 24), (1, .int a), (2, .ref 105)], [], (σ, τ, o, n)) (.inl (some (.int k)), (σ', τ, o', n'))) (m : m_sleeping_172 a τ = some (b, τ')) (e : qE S d jm_law (23, [(4, .int (i + Int32.ofInt 3)), (3, .ref 105), (2, .ref 64), (1, .ref 24), (0, .ref 0)], [], (σ', τ', o', n')) r) : qE S d jm_law (408, [(4, .int i), (3, .ref 105), (2, .ref 64), (1, .ref 24), (0, .ref 0)], [], (σ, τ, o, n)) r := by
  have hd9 : 9 ≤ d := by omega
  refine qE.steps 5 hd9 (s' := (414, [(4, .int i), (3, .ref 105), (2, .ref 64), (1, .ref 24), (0, .ref 0)], [.int (i + Int32.ofInt 1), .ref 0, .ref 24], (σ, τ, o, n))) rfl ?_
  refine qE.sald hd9 ha rfl rfl ?_
  refine qE.steps 1 hd9 (s' := (416, [(4, .int i), (3, .ref 105), (2, .ref 64), (1, .ref 24), (0, .ref 0)], [.ref 105, .int a, .ref 24], (σ, τ, o, n))) rfl ?_
  refine qE.call hd9 rfl rfl rfl rfl w ?_
  refine qE.steps 6 hd9 (s' := (427, [(5, .int k), (4, .int i), (3, .ref 105), (2, .ref 64), (1, .ref 24), (0, .ref 0)], [.int (i + Int32.ofInt 1), .ref 0, .ref 64], (σ', τ, o', n'))) rfl ?_
  refine qE.sald hd9 ha rfl rfl ?_
  refine qE.call hd9 rfl rfl rfl rfl (t_m_sleeping_172 (by omega) m) ?_
  refine qE.steps 1 hd9 (s' := (433, [(6, .int b), (5, .int k), (4, .int i), (3, .ref 105), (2, .ref 64), (1, .ref 24), (0, .ref 0)], [], (σ', τ', o', n'))) rfl ?_
  exact tail_433 hd h1 h2 e
set_option maxRecDepth 20000 in
theorem go_count {S : Nat × (Nat → Int32)} {d : Nat} {i v : Int32} {σ τ τ' : qC} {o : Int64} {n : Nat} {r : qO} {a : Int32} (hd : 50 ≤ d) (ha : aget S.2 S.1 (i + Int32.ofInt 1) = some a) (w : c_count_11 a σ = some v) (m : m_count_173 a τ = some (v, τ')) (e : qE S d jm_law (23, [(4, .int (i + Int32.ofInt 3)), (3, .ref 105), (2, .ref 64), (1, .ref 24), (0, .ref 0)], [], (σ, τ', o, n)) r) : qE S d jm_law (464, [(4, .int i), (3, .ref 105), (2, .ref 64), (1, .ref 24), (0, .ref 0)], [], (σ, τ, o, n)) r := by
  have hd9 : 9 ≤ d := by omega
  refine qE.steps 5 hd9 (s' := (470, [(4, .int i), (3, .ref 105), (2, .ref 64), (1, .ref 24), (0, .ref 0)], [.int (i + Int32.ofInt 1), .ref 0, .ref 24], (σ, τ, o, n))) rfl ?_
  refine qE.sald hd9 ha rfl rfl ?_
  refine qE.call hd9 rfl rfl rfl rfl (t_c_count_11 (by omega) w) ?_
  refine qE.steps 5 hd9 (s' := (480, [(4, .int i), (3, .ref 105), (2, .ref 64), (1, .ref 24), (0, .ref 0)], [.int (i + Int32.ofInt 1), .ref 0, .ref 64, .int v], (σ, τ, o, n))) rfl ?_
  refine qE.sald hd9 ha rfl rfl ?_
  refine qE.call hd9 rfl rfl rfl rfl (t_m_count_173 (by omega) m) ?_
  refine qE.steps 1 hd9 (s' := (if v = v then 489 else 487, [(4, .int i), (3, .ref 105), (2, .ref 64), (1, .ref 24), (0, .ref 0)], [], (σ, τ', o, n))) rfl ?_
  rw [if_pos rfl]
  exact inc4 hd9 e
set_option maxRecDepth 20000 in
theorem go_head {S : Nat × (Nat → Int32)} {d : Nat} {i v : Int32} {g : qG} {r : qO} (hd : 50 ≤ d) (hl : ¬ Int32.ofNat S.1 - Int32.ofInt 3 < i) (hv : aget S.2 S.1 i = some v) (e : qE S d jm_law (39, [(4, .int i), (3, .ref 105), (2, .ref 64), (1, .ref 24), (0, .ref 0)], [.int (v &&& Int32.ofInt 7)], g) r) : qE S d jm_law (23, [(4, .int i), (3, .ref 105), (2, .ref 64), (1, .ref 24), (0, .ref 0)], [], g) r := by
  have hd9 : 9 ≤ d := by omega
  refine qE.steps 6 hd9 (s' := (if Int32.ofNat S.1 - Int32.ofInt 3 < i then 495 else 32, [(4, .int i), (3, .ref 105), (2, .ref 64), (1, .ref 24), (0, .ref 0)], [], g)) rfl ?_
  rw [if_neg hl]
  refine qE.steps 2 hd9 (s' := (35, [(4, .int i), (3, .ref 105), (2, .ref 64), (1, .ref 24), (0, .ref 0)], [.int i, .ref 0], g)) rfl ?_
  refine qE.sald hd9 hv rfl rfl ?_
  refine qE.steps 2 hd9 (s' := (39, [(4, .int i), (3, .ref 105), (2, .ref 64), (1, .ref 24), (0, .ref 0)], [.int (v &&& Int32.ofInt 7)], g)) rfl ?_
  exact e
set_option maxRecDepth 20000 in
theorem go_end {S : Nat × (Nat → Int32)} {d : Nat} {i : Int32} {g : qG} (hd : 50 ≤ d) (hl : Int32.ofNat S.1 - Int32.ofInt 3 < i) : qE S d jm_law (23, [(4, .int i), (3, .ref 105), (2, .ref 64), (1, .ref 24), (0, .ref 0)], [], g) (.inl (some (.int 1)), g) := by
  have hd9 : 9 ≤ d := by omega
  refine qE.steps 6 hd9 (s' := (if Int32.ofNat S.1 - Int32.ofInt 3 < i then 495 else 32, [(4, .int i), (3, .ref 105), (2, .ref 64), (1, .ref 24), (0, .ref 0)], [], g)) rfl ?_
  rw [if_pos hl]
  refine qE.steps 1 hd9 (s' := (496, [(4, .int i), (3, .ref 105), (2, .ref 64), (1, .ref 24), (0, .ref 0)], [.int 1], g)) rfl ?_
  exact qE.ret hd9 rfl rfl
set_option maxRecDepth 20000 in
theorem sw_0 {S : Nat × (Nat → Int32)} {d : Nat} {i : Int32} {g : qG} {r : qO} (hd : 50 ≤ d) (e : qE S d jm_law (84, [(4, .int i), (3, .ref 105), (2, .ref 64), (1, .ref 24), (0, .ref 0)], [], g) r) : qE S d jm_law (39, [(4, .int i), (3, .ref 105), (2, .ref 64), (1, .ref 24), (0, .ref 0)], [.int (Int32.ofInt 0)], g) r := qE.jmp (pc' := 84) (st' := []) (by omega) rfl rfl rfl rfl e
set_option maxRecDepth 20000 in
theorem sw_1 {S : Nat × (Nat → Int32)} {d : Nat} {i : Int32} {g : qG} {r : qO} (hd : 50 ≤ d) (e : qE S d jm_law (172, [(4, .int i), (3, .ref 105), (2, .ref 64), (1, .ref 24), (0, .ref 0)], [], g) r) : qE S d jm_law (39, [(4, .int i), (3, .ref 105), (2, .ref 64), (1, .ref 24), (0, .ref 0)], [.int (Int32.ofInt 1)], g) r := qE.jmp (pc' := 172) (st' := []) (by omega) rfl rfl rfl rfl e
set_option maxRecDepth 20000 in
theorem sw_2 {S : Nat × (Nat → Int32)} {d : Nat} {i : Int32} {g : qG} {r : qO} (hd : 50 ≤ d) (e : qE S d jm_law (216, [(4, .int i), (3, .ref 105), (2, .ref 64), (1, .ref 24), (0, .ref 0)], [], g) r) : qE S d jm_law (39, [(4, .int i), (3, .ref 105), (2, .ref 64), (1, .ref 24), (0, .ref 0)], [.int (Int32.ofInt 2)], g) r := qE.jmp (pc' := 216) (st' := []) (by omega) rfl rfl rfl rfl e
set_option maxRecDepth 20000 in
theorem sw_3 {S : Nat × (Nat → Int32)} {d : Nat} {i : Int32} {g : qG} {r : qO} (hd : 50 ≤ d) (e : qE S d jm_law (252, [(4, .int i), (3, .ref 105), (2, .ref 64), (1, .ref 24), (0, .ref 0)], [], g) r) : qE S d jm_law (39, [(4, .int i), (3, .ref 105), (2, .ref 64), (1, .ref 24), (0, .ref 0)], [.int (Int32.ofInt 3)], g) r := qE.jmp (pc' := 252) (st' := []) (by omega) rfl rfl rfl rfl e
set_option maxRecDepth 20000 in
theorem sw_4 {S : Nat × (Nat → Int32)} {d : Nat} {i : Int32} {g : qG} {r : qO} (hd : 50 ≤ d) (e : qE S d jm_law (296, [(4, .int i), (3, .ref 105), (2, .ref 64), (1, .ref 24), (0, .ref 0)], [], g) r) : qE S d jm_law (39, [(4, .int i), (3, .ref 105), (2, .ref 64), (1, .ref 24), (0, .ref 0)], [.int (Int32.ofInt 4)], g) r := qE.jmp (pc' := 296) (st' := []) (by omega) rfl rfl rfl rfl e
set_option maxRecDepth 20000 in
theorem sw_5 {S : Nat × (Nat → Int32)} {d : Nat} {i : Int32} {g : qG} {r : qO} (hd : 50 ≤ d) (e : qE S d jm_law (340, [(4, .int i), (3, .ref 105), (2, .ref 64), (1, .ref 24), (0, .ref 0)], [], g) r) : qE S d jm_law (39, [(4, .int i), (3, .ref 105), (2, .ref 64), (1, .ref 24), (0, .ref 0)], [.int (Int32.ofInt 5)], g) r := qE.jmp (pc' := 340) (st' := []) (by omega) rfl rfl rfl rfl e
set_option maxRecDepth 20000 in
theorem sw_6 {S : Nat × (Nat → Int32)} {d : Nat} {i : Int32} {g : qG} {r : qO} (hd : 50 ≤ d) (e : qE S d jm_law (408, [(4, .int i), (3, .ref 105), (2, .ref 64), (1, .ref 24), (0, .ref 0)], [], g) r) : qE S d jm_law (39, [(4, .int i), (3, .ref 105), (2, .ref 64), (1, .ref 24), (0, .ref 0)], [.int (Int32.ofInt 6)], g) r := qE.jmp (pc' := 408) (st' := []) (by omega) rfl rfl rfl rfl e
set_option maxRecDepth 20000 in
theorem sw_7 {S : Nat × (Nat → Int32)} {d : Nat} {i : Int32} {g : qG} {r : qO} (hd : 50 ≤ d) (e : qE S d jm_law (464, [(4, .int i), (3, .ref 105), (2, .ref 64), (1, .ref 24), (0, .ref 0)], [], g) r) : qE S d jm_law (39, [(4, .int i), (3, .ref 105), (2, .ref 64), (1, .ref 24), (0, .ref 0)], [.int (Int32.ofInt 7)], g) r := qE.jmp (pc' := 464) (st' := []) (by omega) rfl rfl rfl rfl e
