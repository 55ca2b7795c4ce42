/-! numbers -/
section JI
theorem ilt (a b : Int32) : a < b ↔ a.toInt < b.toInt := Int32.lt_iff_toInt_lt
theorem ile (a b : Int32) : a ≤ b ↔ a.toInt ≤ b.toInt := Int32.le_iff_toInt_le
theorem ieq (a b : Int32) : a = b ↔ a.toInt = b.toInt := Int32.toInt_inj.symm
theorem inat (x : Int32) : x.toNatClampNeg = x.toInt.toNat := rfl
theorem iof {n : Nat} (h : n < 2147483648) : (Int32.ofNat n).toInt = n := Int32.toInt_ofNat_of_lt (by simpa using h)
theorem i0 : (0 : Int32).toInt = 0 := rfl
theorem iofI {z : Int} (h1 : -2147483648 ≤ z) (h2 : z < 2147483648) : (Int32.ofInt z).toInt = z := Int32.toInt_ofInt_of_le (by simpa using h1) (by simpa using h2)
theorem iadd {a b : Int32} (h1 : -2147483648 ≤ a.toInt + b.toInt) (h2 : a.toInt + b.toInt < 2147483648) : (a + b).toInt = a.toInt + b.toInt := by
  rw [Int32.toInt_add]
  exact Int.bmod_eq_of_le (by omega) (by omega)
theorem isub {a b : Int32} (h1 : -2147483648 ≤ a.toInt - b.toInt) (h2 : a.toInt - b.toInt < 2147483648) : (a - b).toInt = a.toInt - b.toInt := by
  rw [Int32.toInt_sub]
  exact Int.bmod_eq_of_le (by omega) (by omega)
theorem imul {a b : Int32} (h1 : -2147483648 ≤ a.toInt * b.toInt) (h2 : a.toInt * b.toInt < 2147483648) : (a * b).toInt = a.toInt * b.toInt := by
  rw [Int32.toInt_mul]
  exact Int.bmod_eq_of_le (by omega) (by omega)
theorem irange (a : Int32) : -2147483648 ≤ a.toInt ∧ a.toInt < 2147483648 := ⟨Int32.le_toInt a, Int32.toInt_lt a⟩
theorem ige {len : Nat} {x : Int32} (hl : len < 2147483648) (hx : ¬ x < 0) : Int32.ofNat len ≤ x ↔ len ≤ x.toNatClampNeg := by
  rw [ile, iof hl, inat]
  rw [ilt, i0] at hx
  omega
end JI
section JTab
set_option maxRecDepth 20000 in
theorem jf17 : jT0.1.1 8 17 = some (6, 0, 10) := by decide +kernel
set_option maxRecDepth 20000 in
theorem jf21 : jT0.1.1 8 21 = some (6, 1, 1) := by decide +kernel
set_option maxRecDepth 20000 in
theorem jf25 : jT0.1.1 8 25 = some (6, 2, 0) := by decide +kernel
variable {h : jH} {t a len d : Nat} {w n row col : Int32} {f : Nat → Int32}
theorem tab_rows (ht : h[t]? = some (.inr (6, [.int w, .ref a, .int n]))) (hK : 24 ≤ t) : jEv jT0 24 d jm_8_rows_15 (0, lv_args 0 [.ref t], [], h) (.inl (some (.int n)), h) := by
  refine jEv.steps 1 (s' := (1, [(0, .ref t)], [.ref t], h)) rfl ?_
  refine jEv.hp (i := .getfield 25) (len := 3) rfl rfl rfl rfl (jhp_get jf25 ht hK rfl) ?_
  exact jEv.ret (s := (4, [(0, .ref t)], [.int n], h)) rfl
theorem tab_at (ht : h[t]? = some (.inr (6, [.int w, .ref a, .int n]))) (hK : 24 ≤ t) (ha : h[a]? = some (.inl (.int, len, .inl f))) (hl : len < 2147483648) :
    jEv jT0 24 d jm_8_at_18 (0, lv_args 0 [.ref t, .int row, .int col], [], h) (.inl (some (.int (if row * w + col < 0 then 0 else if (row * w + col).toNatClampNeg < len then f (row * w + col).toNatClampNeg else 0))), h) := by
  refine jEv.steps 2 (s' := (2, [(0, .ref t), (1, .int row), (2, .int col)], [.ref t, .int row], h)) rfl ?_
  refine jEv.hp (i := .getfield 17) (len := 3) rfl rfl rfl rfl (jhp_get jf17 ht hK rfl) ?_
  refine jEv.steps 6 (s' := (if row * w + col < 0 then 31 else 13, [(3, .int (row * w + col)), (0, .ref t), (1, .int row), (2, .int col)], [], h)) rfl ?_
  by_cases c1 : row * w + col < 0
  · rw [if_pos c1, if_pos c1]
    refine jEv.steps 1 (s' := (32, [(3, .int (row * w + col)), (0, .ref t), (1, .int row), (2, .int col)], [.int 0], h)) rfl ?_
    exact jEv.ret (s := (32, [(3, .int (row * w + col)), (0, .ref t), (1, .int row), (2, .int col)], [.int 0], h)) rfl
  · rw [if_neg c1, if_neg c1]
    refine jEv.steps 2 (s' := (15, [(3, .int (row * w + col)), (0, .ref t), (1, .int row), (2, .int col)], [.ref t, .int (row * w + col)], h)) rfl ?_
    refine jEv.hp (i := .getfield 21) (len := 3) rfl rfl rfl rfl (jhp_get jf21 ht hK rfl) ?_
    refine jEv.hp (i := .arraylength) (len := 1) rfl rfl rfl rfl (jhp_len (x := (len, .inl f)) ha rfl) ?_
    refine jEv.steps 1 (s' := (if Int32.ofNat len ≤ row * w + col then 31 else 22, [(3, .int (row * w + col)), (0, .ref t), (1, .int row), (2, .int col)], [], h)) rfl ?_
    by_cases c2 : Int32.ofNat len ≤ row * w + col
    · rw [if_pos c2, if_neg (Nat.not_lt.mpr ((ige hl c1).mp c2))]
      refine jEv.steps 1 (s' := (32, [(3, .int (row * w + col)), (0, .ref t), (1, .int row), (2, .int col)], [.int 0], h)) rfl ?_
      exact jEv.ret (s := (32, [(3, .int (row * w + col)), (0, .ref t), (1, .int row), (2, .int col)], [.int 0], h)) rfl
    · have c3 : (row * w + col).toNatClampNeg < len := by
        have := mt (ige hl c1).mpr c2
        omega
      rw [if_neg c2, if_pos c3]
      refine jEv.steps 1 (s' := (23, [(3, .int (row * w + col)), (0, .ref t), (1, .int row), (2, .int col)], [.ref t], h)) rfl ?_
      refine jEv.hp (i := .getfield 21) (len := 3) rfl rfl rfl rfl (jhp_get jf21 ht hK rfl) ?_
      refine jEv.steps 1 (s' := (27, [(3, .int (row * w + col)), (0, .ref t), (1, .int row), (2, .int col)], [.int (row * w + col), .ref a], h)) rfl ?_
      refine jEv.hp (i := .iaload) (len := 1) rfl rfl rfl rfl (jhp_iald ha (fun z => z.elim c1 (fun z => by omega))) ?_
      refine jEv.steps 1 (s' := (32, [(3, .int (row * w + col)), (0, .ref t), (1, .int row), (2, .int col)], [.int (f (row * w + col).toNatClampNeg)], h)) rfl ?_
      exact jEv.ret (s := (32, [(3, .int (row * w + col)), (0, .ref t), (1, .int row), (2, .int col)], [.int (f (row * w + col).toNatClampNeg)], h)) rfl
theorem tab_shr {g : Int32} (ht : h[t]? = some (.inr (6, [.int w, .ref a, .int n]))) (hK : 24 ≤ t) : jEv jT0 24 d jm_8_shrink_57 (0, lv_args 0 [.ref t, .int g], [], h) (.inl none, if g < 0 then h else if n ≤ g then h else h.set t (.inr (6, [.int w, .ref a, .int g]))) := by
  refine jEv.steps 2 (s' := (if g < 0 then 17 else 4, [(0, .ref t), (1, .int g)], [], h)) rfl ?_
  by_cases c1 : g < 0
  · rw [if_pos c1, if_pos c1]
    exact jEv.ret (s := (17, [(0, .ref t), (1, .int g)], [], h)) rfl
  · rw [if_neg c1, if_neg c1]
    refine jEv.steps 2 (s' := (6, [(0, .ref t), (1, .int g)], [.ref t, .int g], h)) rfl ?_
    refine jEv.hp (i := .getfield 25) (len := 3) rfl rfl rfl rfl (jhp_get jf25 ht hK rfl) ?_
    refine jEv.steps 1 (s' := (if n ≤ g then 17 else 12, [(0, .ref t), (1, .int g)], [], h)) rfl ?_
    by_cases c2 : n ≤ g
    · rw [if_pos c2, if_pos c2]
      exact jEv.ret (s := (17, [(0, .ref t), (1, .int g)], [], h)) rfl
    · rw [if_neg c2, if_neg c2]
      refine jEv.steps 2 (s' := (14, [(0, .ref t), (1, .int g)], [.int g, .ref t], h)) rfl ?_
      refine jEv.hp (i := .putfield 25) (len := 3) rfl rfl rfl rfl (jhp_put jf25 ht hK (Nat.le_of_ble_eq_true rfl) rfl (Or.inl (Nat.le_of_ble_eq_true rfl))) ?_
      exact jEv.ret (s := (17, [(0, .ref t), (1, .int g)], [], h.set t (.inr (6, [.int w, .ref a, .int g])))) rfl
theorem m_max {x y : Int32} : jEv jT0 24 d jm_14_max_181 (0, lv_args 0 [.int x, .int y], [], h) (.inl (some (.int (if x < y then y else x))), h) := by
  refine jEv.steps 3 (s' := (if x < y then 9 else 5, [(0, .int x), (1, .int y)], [], h)) rfl ?_
  by_cases c : x < y
  · rw [if_pos c, if_pos c]
    refine jEv.steps 1 (s' := (10, [(0, .int x), (1, .int y)], [.int y], h)) rfl ?_
    exact jEv.ret (s := (10, [(0, .int x), (1, .int y)], [.int y], h)) rfl
  · rw [if_neg c, if_neg c]
    refine jEv.steps 2 (s' := (10, [(0, .int x), (1, .int y)], [.int x], h)) rfl ?_
    exact jEv.ret (s := (10, [(0, .int x), (1, .int y)], [.int x], h)) rfl
theorem m_min {x y : Int32} : jEv jT0 24 d jm_14_min_182 (0, lv_args 0 [.int x, .int y], [], h) (.inl (some (.int (if y < x then y else x))), h) := by
  refine jEv.steps 3 (s' := (if y < x then 9 else 5, [(0, .int x), (1, .int y)], [], h)) rfl ?_
  by_cases c : y < x
  · rw [if_pos c, if_pos c]
    refine jEv.steps 1 (s' := (10, [(0, .int x), (1, .int y)], [.int y], h)) rfl ?_
    exact jEv.ret (s := (10, [(0, .int x), (1, .int y)], [.int y], h)) rfl
  · rw [if_neg c, if_neg c]
    refine jEv.steps 2 (s' := (10, [(0, .int x), (1, .int y)], [.int x], h)) rfl ?_
    exact jEv.ret (s := (10, [(0, .int x), (1, .int y)], [.int x], h)) rfl
end JTab
