section JTab3
variable {h : jH} {t a len d W : Nat} {w n x y u v : Int32} {f : Nat → Int32}
/-- append, once the array is long enough -/
theorem tab_app2 {h' : jH} {a' len' : Nat} {f' : Nat → Int32} (hu : tUp h h' t a len w n a' len' f') (hK : 24 ≤ t) (hKa : 24 ≤ a') (hne : t ≠ a') {r : Nat} (hr : (n * w).toInt = r) (hr2 : r < 131072) (hi : r + 4 ≤ len') :
    ∃ h2, jEv jT0 24 (d + 3) jm_8_append_61 (69, [(5, .int (n * w)), (0, .ref t), (1, .int x), (2, .int y), (3, .int u), (4, .int v)], [], h') (.inl (some (.int n)), h2) ∧ tUp h h2 t a len w (n + 1) a' len' (upd (upd (upd (upd f' r x) (r + 1) y) (r + 2) u) (r + 3) v) := by
  have e0 : (n * w).toNatClampNeg = r := by rw [inat, hr]; omega
  have k1 : (1 : Int32).toInt = 1 := rfl
  have k2 : (2 : Int32).toInt = 2 := rfl
  have k3 : (3 : Int32).toInt = 3 := rfl
  have q1 : (n * w + 1).toInt = r + 1 := by rw [iadd] <;> rw [hr, k1] <;> omega
  have q2 : (n * w + 2).toInt = r + 2 := by rw [iadd] <;> rw [hr, k2] <;> omega
  have q3 : (n * w + 3).toInt = r + 3 := by rw [iadd] <;> rw [hr, k3] <;> omega
  have e1 : (n * w + 1).toNatClampNeg = r + 1 := by rw [inat, q1]; omega
  have e2 : (n * w + 2).toNatClampNeg = r + 2 := by rw [inat, q2]; omega
  have e3 : (n * w + 3).toNatClampNeg = r + 3 := by rw [inat, q3]; omega
  have b0 : ¬ (n * w < 0 ∨ len' ≤ (n * w).toNatClampNeg) := by rw [ilt, i0, hr, e0]; omega
  have b1 : ¬ (n * w + 1 < 0 ∨ len' ≤ (n * w + 1).toNatClampNeg) := by rw [ilt, i0, q1, e1]; omega
  have b2 : ¬ (n * w + 2 < 0 ∨ len' ≤ (n * w + 2).toNatClampNeg) := by rw [ilt, i0, q2, e2]; omega
  have b3 : ¬ (n * w + 3 < 0 ∨ len' ≤ (n * w + 3).toNatClampNeg) := by rw [ilt, i0, q3, e3]; omega
  have u1 := hu.set (g' := upd f' r x) hne
  have u2 := u1.set (g' := upd (upd f' r x) (r + 1) y) hne
  have u3 := u2.set (g' := upd (upd (upd f' r x) (r + 1) y) (r + 2) u) hne
  have u4 := u3.set (g' := upd (upd (upd (upd f' r x) (r + 1) y) (r + 2) u) (r + 3) v) hne
  refine ⟨_, ?_, u4.rows (n2 := n + 1) hne⟩
  refine jEv.steps 1 (s' := (70, [(5, .int (n * w)), (0, .ref t), (1, .int x), (2, .int y), (3, .int u), (4, .int v)], [.ref t], h')) rfl ?_
  refine jEv.hp (i := .getfield 21) (len := 3) rfl rfl rfl rfl (jhp_get jf21 hu.1 hK rfl) ?_
  refine jEv.steps 2 (s' := (76, [(5, .int (n * w)), (0, .ref t), (1, .int x), (2, .int y), (3, .int u), (4, .int v)], [.int x, .int (n * w), .ref a'], h')) rfl ?_
  refine jEv.hp (i := .iastore) (len := 1) rfl rfl rfl rfl (jhp_iast hu.2.1 b0 hKa) ?_
  rw [e0]
  generalize hE1 : List.set h' a' (Sum.inl (FieldType.int, len', Sum.inl (upd f' r x))) = h1 at *
  refine jEv.steps 1 (s' := (78, [(5, .int (n * w)), (0, .ref t), (1, .int x), (2, .int y), (3, .int u), (4, .int v)], [.ref t], h1)) rfl ?_
  refine jEv.hp (i := .getfield 21) (len := 3) rfl rfl rfl rfl (jhp_get jf21 u1.1 hK rfl) ?_
  refine jEv.steps 4 (s' := (86, [(5, .int (n * w)), (0, .ref t), (1, .int x), (2, .int y), (3, .int u), (4, .int v)], [.int y, .int (n * w + 1), .ref a'], h1)) rfl ?_
  refine jEv.hp (i := .iastore) (len := 1) rfl rfl rfl rfl (jhp_iast u1.2.1 b1 hKa) ?_
  rw [e1]
  generalize hE2 : List.set h1 a' (Sum.inl (FieldType.int, len', Sum.inl (upd (upd f' r x) (r + 1) y))) = h2 at *
  refine jEv.steps 1 (s' := (88, [(5, .int (n * w)), (0, .ref t), (1, .int x), (2, .int y), (3, .int u), (4, .int v)], [.ref t], h2)) rfl ?_
  refine jEv.hp (i := .getfield 21) (len := 3) rfl rfl rfl rfl (jhp_get jf21 u2.1 hK rfl) ?_
  refine jEv.steps 4 (s' := (96, [(5, .int (n * w)), (0, .ref t), (1, .int x), (2, .int y), (3, .int u), (4, .int v)], [.int u, .int (n * w + 2), .ref a'], h2)) rfl ?_
  refine jEv.hp (i := .iastore) (len := 1) rfl rfl rfl rfl (jhp_iast u2.2.1 b2 hKa) ?_
  rw [e2]
  generalize hE3 : List.set h2 a' (Sum.inl (FieldType.int, len', Sum.inl (upd (upd (upd f' r x) (r + 1) y) (r + 2) u))) = h3 at *
  refine jEv.steps 1 (s' := (98, [(5, .int (n * w)), (0, .ref t), (1, .int x), (2, .int y), (3, .int u), (4, .int v)], [.ref t], h3)) rfl ?_
  refine jEv.hp (i := .getfield 21) (len := 3) rfl rfl rfl rfl (jhp_get jf21 u3.1 hK rfl) ?_
  refine jEv.steps 4 (s' := (107, [(5, .int (n * w)), (0, .ref t), (1, .int x), (2, .int y), (3, .int u), (4, .int v)], [.int v, .int (n * w + 3), .ref a'], h3)) rfl ?_
  refine jEv.hp (i := .iastore) (len := 1) rfl rfl rfl rfl (jhp_iast u3.2.1 b3 hKa) ?_
  rw [e3]
  generalize hE4 : List.set h3 a' (Sum.inl (FieldType.int, len', Sum.inl (upd (upd (upd (upd f' r x) (r + 1) y) (r + 2) u) (r + 3) v))) = h4 at *
  refine jEv.steps 2 (s' := (110, [(5, .int (n * w)), (0, .ref t), (1, .int x), (2, .int y), (3, .int u), (4, .int v)], [.ref t, .ref t], h4)) rfl ?_
  refine jEv.hp (i := .getfield 25) (len := 3) rfl rfl rfl rfl (jhp_get jf25 u4.1 hK rfl) ?_
  refine jEv.steps 2 (s' := (115, [(5, .int (n * w)), (0, .ref t), (1, .int x), (2, .int y), (3, .int u), (4, .int v)], [.int (n + 1), .ref t], h4)) rfl ?_
  refine jEv.hp (i := .putfield 25) (len := 3) rfl rfl rfl rfl (jhp_put jf25 u4.1 hK (Nat.le_of_ble_eq_true rfl) rfl (Or.inl (Nat.le_of_ble_eq_true rfl))) ?_
  have u5 := u4.rows (n2 := n + 1) hne
  refine jEv.steps 1 (s' := (119, [(5, .int (n * w)), (0, .ref t), (1, .int x), (2, .int y), (3, .int u), (4, .int v)], [.ref t], _)) rfl ?_
  refine jEv.hp (i := .getfield 25) (len := 3) rfl rfl rfl rfl (jhp_get jf25 u5.1 hK rfl) ?_
  refine jEv.steps 2 (s' := (124, [(5, .int (n * w)), (0, .ref t), (1, .int x), (2, .int y), (3, .int u), (4, .int v)], [.int (n + 1 - 1)], _)) rfl ?_
  have e9 : n + 1 - 1 = n := Int32.add_sub_cancel n 1
  rw [e9]
  refine jEv.ret (T := jT0) (K := 24) (M := jm_8_append_61) (v := some (.int n)) (s := (124, [(5, .int (n * w)), (0, .ref t), (1, .int x), (2, .int y), (3, .int u), (4, .int v)], [.int n], _)) ?_
  rfl
theorem tab_app (hw : w = Int32.ofNat W) (hW : 4 ≤ W ∧ W ≤ 9) (ht : h[t]? = some (.inr (6, [.int w, .ref a, .int n]))) (hK : 24 ≤ t) (ha : h[a]? = some (.inl (.int, len, .inl f))) (hKa : 24 ≤ a) (hne : t ≠ a) (hl0 : 0 < len) (hl : len ≤ 262144) (hx : ¬ n < 0) (hx2 : (n.toNatClampNeg + 1) * W ≤ 131072) :
    ∃ h' a' len' f', jEv jT0 24 (d + 3) jm_8_append_61 (0, lv_args 0 [.ref t, .int x, .int y, .int u, .int v], [], h) (.inl (some (.int n)), h') ∧ tUp h h' t a len w (n + 1) a' len' f' ∧
      (∀ i, (if i < len' then f' i else 0) = if i = n.toNatClampNeg * W + 3 then v else if i = n.toNatClampNeg * W + 2 then u else if i = n.toNatClampNeg * W + 1 then y else if i = n.toNatClampNeg * W then x else if i < len then f i else 0) := by
  have hn : n.toInt = (n.toNatClampNeg : Int) := by
    rw [ilt, i0] at hx
    rw [inat]
    omega
  generalize hN : n.toNatClampNeg = N at *
  have hwI : w.toInt = W := by rw [hw, iof (by omega)]
  have hmulb : N * W ≤ 131072 := by
    have := Nat.le_trans (Nat.mul_le_mul_right W (Nat.le_succ N)) hx2
    exact this
  have hNW : (N + 1) * W = N * W + W := by rw [Nat.add_mul, Nat.one_mul]
  have hr : (n * w).toInt = ((N * W : Nat) : Int) := by
    have e : n.toInt * w.toInt = ((N * W : Nat) : Int) := by rw [hn, hwI]; exact (Int.natCast_mul N W).symm
    rw [imul] <;> rw [e] <;> omega
  generalize hrr : N * W = r at *
  have e8 : (n * w + w).toInt = r + W := by rw [iadd] <;> rw [hr, hwI] <;> omega
  have s1 : ¬ n * w < 0 := by rw [ilt, i0, hr]; omega
  have s2 : n * w + w ≤ 1048576 := by rw [ile, e8]; show _ ≤ (1048576 : Int); omega
  have start : ∀ (pc : Nat) (r0 : jO), (n * w + w ≤ Int32.ofNat len → pc = 69) → (¬ n * w + w ≤ Int32.ofNat len → pc = 45) → jEv jT0 24 (d + 3) jm_8_append_61 (pc, [(5, .int (n * w)), (0, .ref t), (1, .int x), (2, .int y), (3, .int u), (4, .int v)], [], h) r0 → jEv jT0 24 (d + 3) jm_8_append_61 (0, lv_args 0 [.ref t, .int x, .int y, .int u, .int v], [], h) r0 := by
    intro pc r0 p1 p2 k
    refine jEv.steps 1 (s' := (1, [(0, .ref t), (1, .int x), (2, .int y), (3, .int u), (4, .int v)], [.ref t], h)) rfl ?_
    refine jEv.hp (i := .getfield 25) (len := 3) rfl rfl rfl rfl (jhp_get jf25 ht hK rfl) ?_
    refine jEv.steps 1 (s' := (5, [(0, .ref t), (1, .int x), (2, .int y), (3, .int u), (4, .int v)], [.ref t, .int n], h)) rfl ?_
    refine jEv.hp (i := .getfield 17) (len := 3) rfl rfl rfl rfl (jhp_get jf17 ht hK rfl) ?_
    refine jEv.steps 4 (s' := (if n * w < 0 then 28 else 16, [(5, .int (n * w)), (0, .ref t), (1, .int x), (2, .int y), (3, .int u), (4, .int v)], [], h)) rfl ?_
    rw [if_neg s1]
    refine jEv.steps 2 (s' := (19, [(5, .int (n * w)), (0, .ref t), (1, .int x), (2, .int y), (3, .int u), (4, .int v)], [.ref t, .int (n * w)], h)) rfl ?_
    refine jEv.hp (i := .getfield 17) (len := 3) rfl rfl rfl rfl (jhp_get jf17 ht hK rfl) ?_
    refine jEv.steps 1 (s' := (23, [(5, .int (n * w)), (0, .ref t), (1, .int x), (2, .int y), (3, .int u), (4, .int v)], [.int (n * w + w)], h)) rfl ?_
    refine jEv.hp (i := .ldc 28) (len := 2) rfl rfl rfl rfl (jhp_ldc jc8_28) ?_
    refine jEv.steps 1 (s' := (if n * w + w ≤ 1048576 then 30 else 28, [(5, .int (n * w)), (0, .ref t), (1, .int x), (2, .int y), (3, .int u), (4, .int v)], [], h)) rfl ?_
    rw [if_pos s2]
    refine jEv.steps 2 (s' := (33, [(5, .int (n * w)), (0, .ref t), (1, .int x), (2, .int y), (3, .int u), (4, .int v)], [.ref t, .int (n * w)], h)) rfl ?_
    refine jEv.hp (i := .getfield 17) (len := 3) rfl rfl rfl rfl (jhp_get jf17 ht hK rfl) ?_
    refine jEv.steps 2 (s' := (38, [(5, .int (n * w)), (0, .ref t), (1, .int x), (2, .int y), (3, .int u), (4, .int v)], [.ref t, .int (n * w + w)], h)) rfl ?_
    refine jEv.hp (i := .getfield 21) (len := 3) rfl rfl rfl rfl (jhp_get jf21 ht hK rfl) ?_
    refine jEv.hp (i := .arraylength) (len := 1) rfl rfl rfl rfl (jhp_len (x := (len, .inl f)) ha rfl) ?_
    refine jEv.steps 1 (s' := (if n * w + w ≤ Int32.ofNat len then 69 else 45, [(5, .int (n * w)), (0, .ref t), (1, .int x), (2, .int y), (3, .int u), (4, .int v)], [], h)) rfl ?_
    by_cases c : n * w + w ≤ Int32.ofNat len
    · rw [if_pos c]
      rw [p1 c] at k
      exact k
    · rw [if_neg c]
      rw [p2 c] at k
      exact k
  by_cases c3 : n * w + w ≤ Int32.ofNat len
  · have hi : r + W ≤ len := by
      rw [ile, iof (by omega), e8] at c3
      omega
    obtain ⟨h2, r1, r2⟩ := tab_app2 (d := d) (x := x) (y := y) (u := u) (v := v) (tUp.refl ht ha) hK hKa hne hr (by omega) (by omega)
    refine ⟨h2, a, len, _, start 69 _ (fun _ => rfl) (fun z => absurd c3 z) r1, r2, fun i => ?_⟩
    unfold upd
    by_cases c : i < len
    · rw [if_pos c, if_pos c]
    · rw [if_neg c, if_neg c, if_neg (by omega), if_neg (by omega), if_neg (by omega), if_neg (by omega)]
  · have hi : len < r + W := by
      rw [ile, iof (by omega), e8] at c3
      omega
    have e9 : (n * w + w + Int32.ofNat len).toInt = r + W + len := by rw [iadd] <;> rw [e8, iof (by omega)] <;> omega
    generalize hm : n * w + w + Int32.ofNat len = m at *
    have hmn : (m.toNatClampNeg : Int) = m.toInt := by rw [inat]; omega
    have hug := tUp.grow (a := a) (len := len) (m := m.toNatClampNeg) (g := va_cpy f (fun _ => 0) 0 0 len) ht (by omega) (by omega)
    have htl := (List.getElem?_eq_some_iff.mp ht).1
    obtain ⟨h2, r1, r2⟩ := tab_app2 (d := d) (x := x) (y := y) (u := u) (v := v) hug hK (Nat.le_trans hK (Nat.le_of_lt htl)) (Nat.ne_of_lt htl) hr (by omega) (by omega)
    refine ⟨h2, h.length, m.toNatClampNeg, _, start 45 _ (fun z => absurd z c3) (fun _ => rfl) ?_, r2, fun i => ?_⟩
    · refine jEv.steps 2 (s' := (47, [(5, .int (n * w)), (0, .ref t), (1, .int x), (2, .int y), (3, .int u), (4, .int v)], [.ref t, .ref t], h)) rfl ?_
      refine jEv.hp (i := .getfield 21) (len := 3) rfl rfl rfl rfl (jhp_get jf21 ht hK rfl) ?_
      refine jEv.steps 2 (s' := (53, [(5, .int (n * w)), (0, .ref t), (1, .int x), (2, .int y), (3, .int u), (4, .int v)], [.ref t, .int (n * w), .ref a, .ref t], h)) rfl ?_
      refine jEv.hp (i := .getfield 17) (len := 3) rfl rfl rfl rfl (jhp_get jf17 ht hK rfl) ?_
      refine jEv.steps 2 (s' := (58, [(5, .int (n * w)), (0, .ref t), (1, .int x), (2, .int y), (3, .int u), (4, .int v)], [.ref t, .int (n * w + w), .ref a, .ref t], h)) rfl ?_
      refine jEv.hp (i := .getfield 21) (len := 3) rfl rfl rfl rfl (jhp_get jf21 ht hK rfl) ?_
      refine jEv.hp (i := .arraylength) (len := 1) rfl rfl rfl rfl (jhp_len (x := (len, .inl f)) ha rfl) ?_
      refine jEv.steps 1 (s' := (63, [(5, .int (n * w)), (0, .ref t), (1, .int x), (2, .int y), (3, .int u), (4, .int v)], [.int (n * w + w + Int32.ofNat len), .ref a, .ref t], h)) rfl ?_
      rw [hm]
      refine jEv.callJ (Z := jm_16_copyOf_184) (i := .invokestatic 29) (len := 3) (kd := 2) (z := 184) (as := [.ref a, .int m]) (r0 := [.ref t]) (h' := h ++ [.inl (.int, m.toNatClampNeg, .inl (va_cpy f (fun _ => 0) 0 0 len))]) rfl rfl rfl (jcall_s jl8_29 (Nat.le_of_ble_eq_true rfl)) (Nat.le_of_ble_eq_true rfl) (by decide) (by decide) jz184 (Nat.le_of_ble_eq_true rfl) (tab_copy ha hKa (by omega) (by omega) (by omega)) ?_
      refine jEv.hp (i := .putfield 21) (len := 3) rfl rfl rfl rfl (jhp_put jf21 (a := t) (fs := [.int w, .ref a, .int n]) (by rw [List.getElem?_append_left htl]; exact ht) hK (Nat.le_of_ble_eq_true rfl) rfl (Or.inl (Nat.le_of_ble_eq_true rfl))) ?_
      exact r1
    · unfold upd va_cpy
      by_cases e1 : i < m.toNatClampNeg
      · rw [if_pos e1]
        by_cases e2 : i < len
        · rw [if_pos (show 0 ≤ i ∧ i < 0 + len by omega), if_pos e2, show 0 + (i - 0) = i by omega]
        · rw [if_neg (show ¬ (0 ≤ i ∧ i < 0 + len) by omega), if_neg e2]
      · rw [if_neg e1, if_neg (by omega), if_neg (by omega), if_neg (by omega), if_neg (by omega), if_neg (by omega)]
end JTab3
