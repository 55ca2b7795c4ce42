/-! the law's own methods: each calls the desk and names what was thrown -/
set_option maxRecDepth 20000 in
theorem w_type {S : Nat × (Nat → Int32)} {d : Nat} {y : qC × Int64 × Nat} {l : Int64} {σ σ' : qC} {v : Int32} (hd : 40 ≤ d) (h : c_type_20 l σ = some (.inl v, σ')) : qE S d jm_13_type_174 (0, [(0, .ref 24), (1, .long l), (3, .ref 105)], [], (σ, y)) (.inl (some (.int 0)), (σ', y.1, v.toInt64, y.2.2)) := by
  have hd9 : 9 ≤ d := by omega
  refine qE.steps 4 hd9 (s' := (4, [(0, .ref 24), (1, .long l), (3, .ref 105)], [.long l, .ref 24, .int 0, .ref 105], (σ, y))) rfl ?_
  refine qE.call hd9 rfl rfl rfl rfl (t_c_type_20 (by omega) h) ?_
  refine qE.steps 4 hd9 (s' := (21, [(0, .ref 24), (1, .long l), (3, .ref 105)], [.int 0], (σ', y.1, v.toInt64, y.2.2))) rfl ?_
  exact qE.ret hd9 rfl rfl
set_option maxRecDepth 20000 in
theorem w_type_12 {S : Nat × (Nat → Int32)} {d : Nat} {y : qC × Int64 × Nat} {l : Int64} {σ σ' : qC} (hd : 40 ≤ d) (h : c_type_20 l σ = some (.inr 12, σ')) : qE S d jm_13_type_174 (0, [(0, .ref 24), (1, .long l), (3, .ref 105)], [], (σ, y)) (.inl (some (.int 1)), (σ', y.1, y.2.1, y.2.2 + 1)) := by
  have hd9 : 9 ≤ d := by omega
  refine qE.steps 4 hd9 (s' := (4, [(0, .ref 24), (1, .long l), (3, .ref 105)], [.long l, .ref 24, .int 0, .ref 105], (σ, y))) rfl ?_
  exact qE.callC hd9 rfl rfl rfl rfl (t_c_type_20 (by omega) h) rfl rfl
set_option maxRecDepth 20000 in
theorem w_type_13 {S : Nat × (Nat → Int32)} {d : Nat} {y : qC × Int64 × Nat} {l : Int64} {σ σ' : qC} (hd : 40 ≤ d) (h : c_type_20 l σ = some (.inr 13, σ')) : qE S d jm_13_type_174 (0, [(0, .ref 24), (1, .long l), (3, .ref 105)], [], (σ, y)) (.inl (some (.int 2)), (σ', y.1, y.2.1, y.2.2 + 1)) := by
  have hd9 : 9 ≤ d := by omega
  refine qE.steps 4 hd9 (s' := (4, [(0, .ref 24), (1, .long l), (3, .ref 105)], [.long l, .ref 24, .int 0, .ref 105], (σ, y))) rfl ?_
  exact qE.callC hd9 rfl rfl rfl rfl (t_c_type_20 (by omega) h) rfl rfl
set_option maxRecDepth 20000 in
theorem w_add {S : Nat × (Nat → Int32)} {d : Nat} {y : qC × Int64 × Nat}  {σ σ' : qC} {v : Int32} (hd : 40 ≤ d) (h : c_add_23 σ = some (.inl v, σ')) : qE S d jm_13_add_175 (0, [(0, .ref 24), (1, .ref 105)], [], (σ, y)) (.inl (some (.int 0)), (σ', y.1, v.toInt64, y.2.2)) := by
  have hd9 : 9 ≤ d := by omega
  refine qE.steps 3 hd9 (s' := (3, [(0, .ref 24), (1, .ref 105)], [.ref 24, .int 0, .ref 105], (σ, y))) rfl ?_
  refine qE.call hd9 rfl rfl rfl rfl (t_c_add_23 (by omega) h) ?_
  refine qE.steps 4 hd9 (s' := (18, [(0, .ref 24), (1, .ref 105)], [.int 0], (σ', y.1, v.toInt64, y.2.2))) rfl ?_
  exact qE.ret hd9 rfl rfl
set_option maxRecDepth 20000 in
theorem w_add_12 {S : Nat × (Nat → Int32)} {d : Nat} {y : qC × Int64 × Nat}  {σ σ' : qC} (hd : 40 ≤ d) (h : c_add_23 σ = some (.inr 12, σ')) : qE S d jm_13_add_175 (0, [(0, .ref 24), (1, .ref 105)], [], (σ, y)) (.inl (some (.int 1)), (σ', y.1, y.2.1, y.2.2 + 1)) := by
  have hd9 : 9 ≤ d := by omega
  refine qE.steps 3 hd9 (s' := (3, [(0, .ref 24), (1, .ref 105)], [.ref 24, .int 0, .ref 105], (σ, y))) rfl ?_
  exact qE.callC hd9 rfl rfl rfl rfl (t_c_add_23 (by omega) h) rfl rfl
set_option maxRecDepth 20000 in
theorem w_add_13 {S : Nat × (Nat → Int32)} {d : Nat} {y : qC × Int64 × Nat}  {σ σ' : qC} (hd : 40 ≤ d) (h : c_add_23 σ = some (.inr 13, σ')) : qE S d jm_13_add_175 (0, [(0, .ref 24), (1, .ref 105)], [], (σ, y)) (.inl (some (.int 2)), (σ', y.1, y.2.1, y.2.2 + 1)) := by
  have hd9 : 9 ≤ d := by omega
  refine qE.steps 3 hd9 (s' := (3, [(0, .ref 24), (1, .ref 105)], [.ref 24, .int 0, .ref 105], (σ, y))) rfl ?_
  exact qE.callC hd9 rfl rfl rfl rfl (t_c_add_23 (by omega) h) rfl rfl
set_option maxRecDepth 20000 in
theorem w_ask {S : Nat × (Nat → Int32)} {d : Nat} {y : qC × Int64 × Nat}  {σ σ' : qC} {v : Int32} (hd : 40 ≤ d) (h : c_ask_53 σ = some (.inl v, σ')) : qE S d jm_13_ask_177 (0, [(0, .ref 24), (1, .ref 105)], [], (σ, y)) (.inl (some (.int 0)), (σ', y.1, v.toInt64, y.2.2)) := by
  have hd9 : 9 ≤ d := by omega
  refine qE.steps 3 hd9 (s' := (3, [(0, .ref 24), (1, .ref 105)], [.ref 24, .int 0, .ref 105], (σ, y))) rfl ?_
  refine qE.call hd9 rfl rfl rfl rfl (t_c_ask_53 (by omega) h) ?_
  refine qE.steps 4 hd9 (s' := (24, [(0, .ref 24), (1, .ref 105)], [.int 0], (σ', y.1, v.toInt64, y.2.2))) rfl ?_
  exact qE.ret hd9 rfl rfl
set_option maxRecDepth 20000 in
theorem w_ask_12 {S : Nat × (Nat → Int32)} {d : Nat} {y : qC × Int64 × Nat}  {σ σ' : qC} (hd : 40 ≤ d) (h : c_ask_53 σ = some (.inr 12, σ')) : qE S d jm_13_ask_177 (0, [(0, .ref 24), (1, .ref 105)], [], (σ, y)) (.inl (some (.int 1)), (σ', y.1, y.2.1, y.2.2 + 1)) := by
  have hd9 : 9 ≤ d := by omega
  refine qE.steps 3 hd9 (s' := (3, [(0, .ref 24), (1, .ref 105)], [.ref 24, .int 0, .ref 105], (σ, y))) rfl ?_
  exact qE.callC hd9 rfl rfl rfl rfl (t_c_ask_53 (by omega) h) rfl rfl
set_option maxRecDepth 20000 in
theorem w_ask_15 {S : Nat × (Nat → Int32)} {d : Nat} {y : qC × Int64 × Nat}  {σ σ' : qC} (hd : 40 ≤ d) (h : c_ask_53 σ = some (.inr 15, σ')) : qE S d jm_13_ask_177 (0, [(0, .ref 24), (1, .ref 105)], [], (σ, y)) (.inl (some (.int 2)), (σ', y.1, y.2.1, y.2.2 + 1)) := by
  have hd9 : 9 ≤ d := by omega
  refine qE.steps 3 hd9 (s' := (3, [(0, .ref 24), (1, .ref 105)], [.ref 24, .int 0, .ref 105], (σ, y))) rfl ?_
  exact qE.callC hd9 rfl rfl rfl rfl (t_c_ask_53 (by omega) h) rfl rfl
set_option maxRecDepth 20000 in
theorem w_ask_13 {S : Nat × (Nat → Int32)} {d : Nat} {y : qC × Int64 × Nat}  {σ σ' : qC} (hd : 40 ≤ d) (h : c_ask_53 σ = some (.inr 13, σ')) : qE S d jm_13_ask_177 (0, [(0, .ref 24), (1, .ref 105)], [], (σ, y)) (.inl (some (.int 3)), (σ', y.1, y.2.1, y.2.2 + 1)) := by
  have hd9 : 9 ≤ d := by omega
  refine qE.steps 3 hd9 (s' := (3, [(0, .ref 24), (1, .ref 105)], [.ref 24, .int 0, .ref 105], (σ, y))) rfl ?_
  exact qE.callC hd9 rfl rfl rfl rfl (t_c_ask_53 (by omega) h) rfl rfl
set_option maxRecDepth 20000 in
theorem w_ask_14 {S : Nat × (Nat → Int32)} {d : Nat} {y : qC × Int64 × Nat}  {σ σ' : qC} (hd : 40 ≤ d) (h : c_ask_53 σ = some (.inr 14, σ')) : qE S d jm_13_ask_177 (0, [(0, .ref 24), (1, .ref 105)], [], (σ, y)) (.inl (some (.int 4)), (σ', y.1, y.2.1, y.2.2 + 1)) := by
  have hd9 : 9 ≤ d := by omega
  refine qE.steps 3 hd9 (s' := (3, [(0, .ref 24), (1, .ref 105)], [.ref 24, .int 0, .ref 105], (σ, y))) rfl ?_
  exact qE.callC hd9 rfl rfl rfl rfl (t_c_ask_53 (by omega) h) rfl rfl
set_option maxRecDepth 20000 in
theorem w_next {S : Nat × (Nat → Int32)} {d : Nat} {y : qC × Int64 × Nat}  {σ σ' : qC} {v : Int32} (hd : 40 ≤ d) (h : c_next_113 σ = some (.inl v, σ')) : qE S d jm_13_next_178 (0, [(0, .ref 24), (1, .ref 105)], [], (σ, y)) (.inl (some (.int 0)), (σ', y.1, v.toInt64, y.2.2)) := by
  have hd9 : 9 ≤ d := by omega
  refine qE.steps 3 hd9 (s' := (3, [(0, .ref 24), (1, .ref 105)], [.ref 24, .int 0, .ref 105], (σ, y))) rfl ?_
  refine qE.call hd9 rfl rfl rfl rfl (t_c_next_113 (by omega) h) ?_
  refine qE.steps 4 hd9 (s' := (21, [(0, .ref 24), (1, .ref 105)], [.int 0], (σ', y.1, v.toInt64, y.2.2))) rfl ?_
  exact qE.ret hd9 rfl rfl
set_option maxRecDepth 20000 in
theorem w_next_15 {S : Nat × (Nat → Int32)} {d : Nat} {y : qC × Int64 × Nat}  {σ σ' : qC} (hd : 40 ≤ d) (h : c_next_113 σ = some (.inr 15, σ')) : qE S d jm_13_next_178 (0, [(0, .ref 24), (1, .ref 105)], [], (σ, y)) (.inl (some (.int 1)), (σ', y.1, y.2.1, y.2.2 + 1)) := by
  have hd9 : 9 ≤ d := by omega
  refine qE.steps 3 hd9 (s' := (3, [(0, .ref 24), (1, .ref 105)], [.ref 24, .int 0, .ref 105], (σ, y))) rfl ?_
  exact qE.callC hd9 rfl rfl rfl rfl (t_c_next_113 (by omega) h) rfl rfl
set_option maxRecDepth 20000 in
theorem w_next_13 {S : Nat × (Nat → Int32)} {d : Nat} {y : qC × Int64 × Nat}  {σ σ' : qC} (hd : 40 ≤ d) (h : c_next_113 σ = some (.inr 13, σ')) : qE S d jm_13_next_178 (0, [(0, .ref 24), (1, .ref 105)], [], (σ, y)) (.inl (some (.int 2)), (σ', y.1, y.2.1, y.2.2 + 1)) := by
  have hd9 : 9 ≤ d := by omega
  refine qE.steps 3 hd9 (s' := (3, [(0, .ref 24), (1, .ref 105)], [.ref 24, .int 0, .ref 105], (σ, y))) rfl ?_
  exact qE.callC hd9 rfl rfl rfl rfl (t_c_next_113 (by omega) h) rfl rfl
set_option maxRecDepth 20000 in
theorem w_next_14 {S : Nat × (Nat → Int32)} {d : Nat} {y : qC × Int64 × Nat}  {σ σ' : qC} (hd : 40 ≤ d) (h : c_next_113 σ = some (.inr 14, σ')) : qE S d jm_13_next_178 (0, [(0, .ref 24), (1, .ref 105)], [], (σ, y)) (.inl (some (.int 3)), (σ', y.1, y.2.1, y.2.2 + 1)) := by
  have hd9 : 9 ≤ d := by omega
  refine qE.steps 3 hd9 (s' := (3, [(0, .ref 24), (1, .ref 105)], [.ref 24, .int 0, .ref 105], (σ, y))) rfl ?_
  exact qE.callC hd9 rfl rfl rfl rfl (t_c_next_113 (by omega) h) rfl rfl
set_option maxRecDepth 20000 in
theorem w_letter {S : Nat × (Nat → Int32)} {d : Nat} {y : qC × Int64 × Nat} {i j : Int32} {σ σ' : qC} {v : Int32} (hd : 40 ≤ d) (h : c_letter_114 i j σ = some (.inl v, σ')) : qE S d jm_13_letter_179 (0, [(0, .ref 24), (1, .int i), (2, .int j), (3, .ref 105)], [], (σ, y)) (.inl (some (.int 0)), (σ', y.1, v.toInt64, y.2.2)) := by
  have hd9 : 9 ≤ d := by omega
  refine qE.steps 5 hd9 (s' := (5, [(0, .ref 24), (1, .int i), (2, .int j), (3, .ref 105)], [.int j, .int i, .ref 24, .int 0, .ref 105], (σ, y))) rfl ?_
  refine qE.call hd9 rfl rfl rfl rfl (t_c_letter_114 (by omega) h) ?_
  refine qE.steps 4 hd9 (s' := (22, [(0, .ref 24), (1, .int i), (2, .int j), (3, .ref 105)], [.int 0], (σ', y.1, v.toInt64, y.2.2))) rfl ?_
  exact qE.ret hd9 rfl rfl
set_option maxRecDepth 20000 in
theorem w_letter_12 {S : Nat × (Nat → Int32)} {d : Nat} {y : qC × Int64 × Nat} {i j : Int32} {σ σ' : qC} (hd : 40 ≤ d) (h : c_letter_114 i j σ = some (.inr 12, σ')) : qE S d jm_13_letter_179 (0, [(0, .ref 24), (1, .int i), (2, .int j), (3, .ref 105)], [], (σ, y)) (.inl (some (.int 1)), (σ', y.1, y.2.1, y.2.2 + 1)) := by
  have hd9 : 9 ≤ d := by omega
  refine qE.steps 5 hd9 (s' := (5, [(0, .ref 24), (1, .int i), (2, .int j), (3, .ref 105)], [.int j, .int i, .ref 24, .int 0, .ref 105], (σ, y))) rfl ?_
  exact qE.callC hd9 rfl rfl rfl rfl (t_c_letter_114 (by omega) h) rfl rfl
set_option maxRecDepth 20000 in
theorem w_letter_15 {S : Nat × (Nat → Int32)} {d : Nat} {y : qC × Int64 × Nat} {i j : Int32} {σ σ' : qC} (hd : 40 ≤ d) (h : c_letter_114 i j σ = some (.inr 15, σ')) : qE S d jm_13_letter_179 (0, [(0, .ref 24), (1, .int i), (2, .int j), (3, .ref 105)], [], (σ, y)) (.inl (some (.int 2)), (σ', y.1, y.2.1, y.2.2 + 1)) := by
  have hd9 : 9 ≤ d := by omega
  refine qE.steps 5 hd9 (s' := (5, [(0, .ref 24), (1, .int i), (2, .int j), (3, .ref 105)], [.int j, .int i, .ref 24, .int 0, .ref 105], (σ, y))) rfl ?_
  exact qE.callC hd9 rfl rfl rfl rfl (t_c_letter_114 (by omega) h) rfl rfl
set_option maxRecDepth 20000 in
theorem w_sleeping {S : Nat × (Nat → Int32)} {d : Nat} {y : qC × Int64 × Nat} {i : Int32} {σ σ' : qC} {v : Int32} (hd : 40 ≤ d) (h : c_sleeping_124 i σ = some (.inl v, σ')) : qE S d jm_13_sleeping_180 (0, [(0, .ref 24), (1, .int i), (2, .ref 105)], [], (σ, y)) (.inl (some (.int 0)), (σ', y.1, v.toInt64, y.2.2)) := by
  have hd9 : 9 ≤ d := by omega
  refine qE.steps 4 hd9 (s' := (4, [(0, .ref 24), (1, .int i), (2, .ref 105)], [.int i, .ref 24, .int 0, .ref 105], (σ, y))) rfl ?_
  refine qE.call hd9 rfl rfl rfl rfl (t_c_sleeping_124 (by omega) h) ?_
  refine qE.steps 4 hd9 (s' := (16, [(0, .ref 24), (1, .int i), (2, .ref 105)], [.int 0], (σ', y.1, v.toInt64, y.2.2))) rfl ?_
  exact qE.ret hd9 rfl rfl
set_option maxRecDepth 20000 in
theorem w_sleeping_12 {S : Nat × (Nat → Int32)} {d : Nat} {y : qC × Int64 × Nat} {i : Int32} {σ σ' : qC} (hd : 40 ≤ d) (h : c_sleeping_124 i σ = some (.inr 12, σ')) : qE S d jm_13_sleeping_180 (0, [(0, .ref 24), (1, .int i), (2, .ref 105)], [], (σ, y)) (.inl (some (.int 1)), (σ', y.1, y.2.1, y.2.2 + 1)) := by
  have hd9 : 9 ≤ d := by omega
  refine qE.steps 4 hd9 (s' := (4, [(0, .ref 24), (1, .int i), (2, .ref 105)], [.int i, .ref 24, .int 0, .ref 105], (σ, y))) rfl ?_
  exact qE.callC hd9 rfl rfl rfl rfl (t_c_sleeping_124 (by omega) h) rfl rfl
set_option maxRecDepth 20000 in
theorem w_drop {S : Nat × (Nat → Int32)} {d : Nat} {y : qC × Int64 × Nat} {i : Int32} {σ σ' : qC} {v : Int32} (hd : 40 ≤ d) (h : c_drop_51 i σ = some (.inl v, σ')) : qE S d jm_13_drop_176 (0, [(0, .ref 24), (1, .int i)], [], (σ, y)) (.inl (some (.int 0)), (σ', y)) := by
  have hd9 : 9 ≤ d := by omega
  refine qE.steps 2 hd9 (s' := (2, [(0, .ref 24), (1, .int i)], [.int i, .ref 24], (σ, y))) rfl ?_
  refine qE.call hd9 rfl rfl rfl rfl (t_c_drop_51 (by omega) h) ?_
  refine qE.steps 2 hd9 (s' := (12, [(0, .ref 24), (1, .int i)], [.int 0], (σ', y))) rfl ?_
  exact qE.ret hd9 rfl rfl
set_option maxRecDepth 20000 in
theorem w_drop_12 {S : Nat × (Nat → Int32)} {d : Nat} {y : qC × Int64 × Nat} {i : Int32} {σ σ' : qC} (hd : 40 ≤ d) (h : c_drop_51 i σ = some (.inr 12, σ')) : qE S d jm_13_drop_176 (0, [(0, .ref 24), (1, .int i)], [], (σ, y)) (.inl (some (.int 1)), (σ', y.1, y.2.1, y.2.2 + 1)) := by
  have hd9 : 9 ≤ d := by omega
  refine qE.steps 2 hd9 (s' := (2, [(0, .ref 24), (1, .int i)], [.int i, .ref 24], (σ, y))) rfl ?_
  exact qE.callC hd9 rfl rfl rfl rfl (t_c_drop_51 (by omega) h) rfl rfl
