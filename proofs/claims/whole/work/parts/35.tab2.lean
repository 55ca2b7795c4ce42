section JTab2
variable {h : jH} {t a len d : Nat} {w n row col : Int32} {f : Nat → Int32}
/-- what a Table's word leaves: the table's object, its array (the old one, or a new one at the end), all else as it was -/
def tUp (h h' : jH) (t a len : Nat) (w n' : Int32) (a' len' : Nat) (f' : Nat → Int32) : Prop :=
  h'[t]? = some (.inr (6, [.int w, .ref a', .int n'])) ∧ h'[a']? = some (.inl (.int, len', .inl f')) ∧ (∀ x, x ≠ t → x ≠ a' → x < h.length → h'[x]? = h[x]?) ∧
  ((a' = a ∧ len' = len ∧ h'.length = h.length ∧ jtot h' = jtot h) ∨ (a' = h.length ∧ h'.length = h.length + 1 ∧ jtot h' = jtot h + len' ∧ 2 * len ≤ len' ∧ len' ≤ 262144))
theorem tUp.set {h h' : jH} {n' : Int32} {a' len' : Nat} {f' g' : Nat → Int32} (h0 : tUp h h' t a len w n' a' len' f') (hne : t ≠ a') : tUp h (h'.set a' (.inl (.int, len', .inl g'))) t a len w n' a' len' g' := by
  obtain ⟨h1, h2, h3, h4⟩ := h0
  have hl := (List.getElem?_eq_some_iff.mp h2).1
  refine ⟨by rw [List.getElem?_set_ne (fun z => hne z.symm)]; exact h1, by rw [List.getElem?_set_self hl], fun x hx1 hx2 hx3 => by rw [List.getElem?_set_ne (fun z => hx2 z.symm)]; exact h3 x hx1 hx2 hx3, ?_⟩
  rw [List.length_set, jtot_set (c' := .inl (.int, len', .inl g')) h2 rfl]
  exact h4
theorem tUp.rows {h h' : jH} {n' n2 : Int32} {a' len' : Nat} {f' : Nat → Int32} (h0 : tUp h h' t a len w n' a' len' f') (hne : t ≠ a') : tUp h (h'.set t (.inr (6, [.int w, .ref a', .int n2]))) t a len w n2 a' len' f' := by
  obtain ⟨h1, h2, h3, h4⟩ := h0
  have hl := (List.getElem?_eq_some_iff.mp h1).1
  refine ⟨by rw [List.getElem?_set_self hl], by rw [List.getElem?_set_ne hne]; exact h2, fun x hx1 hx2 hx3 => by rw [List.getElem?_set_ne (fun z => hx1 z.symm)]; exact h3 x hx1 hx2 hx3, ?_⟩
  rw [List.length_set, jtot_set (c' := .inr (6, [.int w, .ref a', .int n2])) h1 rfl]
  exact h4
theorem tUp.refl (ht : h[t]? = some (.inr (6, [.int w, .ref a, .int n]))) (ha : h[a]? = some (.inl (.int, len, .inl f))) : tUp h h t a len w n a len f :=
  ⟨ht, ha, fun _ _ _ _ => rfl, Or.inl ⟨rfl, rfl, rfl, rfl⟩⟩
theorem tUp.grow (ht : h[t]? = some (.inr (6, [.int w, .ref a, .int n]))) {m : Nat} {g : Nat → Int32} (h1 : 2 * len ≤ m) (h2 : m ≤ 262144) : tUp h ((h ++ [.inl (.int, m, .inl g)] : jH).set t (.inr (6, [.int w, .ref h.length, .int n]))) t a len w n h.length m g := by
  have hl := (List.getElem?_eq_some_iff.mp ht).1
  refine ⟨?_, ?_, fun x hx1 hx2 hx3 => ?_, Or.inr ⟨rfl, ?_, ?_, h1, h2⟩⟩
  · rw [List.getElem?_set_self (by rw [List.length_append]; exact Nat.lt_of_lt_of_le hl (Nat.le_add_right _ _))]
  · rw [List.getElem?_set_ne (by omega), List.getElem?_append_right (Nat.le_refl _), Nat.sub_self]
    rfl
  · rw [List.getElem?_set_ne (fun z => hx1 z.symm), List.getElem?_append_left hx3]
  · rw [List.length_set, List.length_append]
    rfl
  · have e := jtot_set (h := (h ++ [Sum.inl (FieldType.int, m, Sum.inl g)] : jH)) (a := t) (c := .inr (6, [.int w, .ref a, .int n])) (c' := .inr (6, [.int w, .ref h.length, .int n])) (by rw [List.getElem?_append_left hl]; exact ht) rfl
    rw [e, jtot_push]
    rfl
set_option maxRecDepth 20000 in
theorem jc8_28 : jT0.1.2.2.2 8 28 = some (.int 1048576) := by decide +kernel
theorem jhp_ldc {G : jG} {K cn : Nat} {ini : Bool} {idx : Nat} {x : Int32} {st : List Value} {h : jH} (hG : G.2.2.2 cn idx = some (.int x)) : jhp G K cn ini (.ldc idx) st h = some (.int x :: st, h, 2) := by
  unfold jhp
  simp only [hG]
/-- put, once the array is long enough -/
theorem tab_put2 {v : Int32} {n' : Int32} {h' : jH} {a' len' : Nat} {f' : Nat → Int32} (hu : tUp h h' t a len w n' a' len' f') (hK : 24 ≤ t) (hKa : 24 ≤ a') (hne : t ≠ a') (hx : ¬ row * w + col < 0) (hi : (row * w + col).toNatClampNeg < len') :
    ∃ h2, jEv jT0 24 (d + 3) jm_8_put_30 (58, [(4, .int (row * w + col)), (0, .ref t), (1, .int row), (2, .int col), (3, .int v)], [], h') (.inl none, h2) ∧ tUp h h2 t a len w n' a' len' (upd f' (row * w + col).toNatClampNeg v) := by
  refine ⟨_, ?_, hu.set hne⟩
  refine jEv.steps 1 (s' := (59, [(4, .int (row * w + col)), (0, .ref t), (1, .int row), (2, .int col), (3, .int v)], [.ref t], h')) rfl ?_
  refine jEv.hp (i := .getfield 21) (len := 3) rfl rfl rfl rfl (jhp_get jf21 hu.1 hK rfl) ?_
  refine jEv.steps 2 (s' := (65, [(4, .int (row * w + col)), (0, .ref t), (1, .int row), (2, .int col), (3, .int v)], [.int v, .int (row * w + col), .ref a'], h')) rfl ?_
  refine jEv.hp (i := .iastore) (len := 1) rfl rfl rfl rfl (jhp_iast hu.2.1 (fun z => z.elim hx (fun z => by omega)) hKa) ?_
  refine jEv.ret (T := jT0) (K := 24) (M := jm_8_put_30) (v := none) (s := (66, [(4, .int (row * w + col)), (0, .ref t), (1, .int row), (2, .int col), (3, .int v)], [], _)) ?_
  rfl
theorem tab_put {v : Int32} (ht : h[t]? = some (.inr (6, [.int w, .ref a, .int n]))) (hK : 24 ≤ t) (ha : h[a]? = some (.inl (.int, len, .inl f))) (hKa : 24 ≤ a) (hne : t ≠ a) (hl0 : 0 < len) (hl : len ≤ 262144) (hx : ¬ row * w + col < 0) (hx2 : (row * w + col).toNatClampNeg < 131072) :
    ∃ h' a' len' f', jEv jT0 24 (d + 3) jm_8_put_30 (0, lv_args 0 [.ref t, .int row, .int col, .int v], [], h) (.inl none, h') ∧ tUp h h' t a len w n a' len' f' ∧ (∀ i, (if i < len' then f' i else 0) = if i = (row * w + col).toNatClampNeg then v else if i < len then f i else 0) := by
  have hi1 : (row * w + col).toInt = ((row * w + col).toNatClampNeg : Int) := by
    rw [ilt, i0] at hx
    rw [inat]
    omega
  by_cases c3 : row * w + col < Int32.ofNat len
  · have hi : (row * w + col).toNatClampNeg < len := by
      rw [ilt, iof (by omega), hi1] at c3
      omega
    obtain ⟨h2, r1, r2⟩ := tab_put2 (d := d) (v := v) (tUp.refl ht ha) hK hKa hne hx hi
    refine ⟨h2, a, len, _, ?_, r2, fun i => ?_⟩
    · refine jEv.steps 2 (s' := (2, [(0, .ref t), (1, .int row), (2, .int col), (3, .int v)], [.ref t, .int row], h)) rfl ?_
      refine jEv.hp (i := .getfield 17) (len := 3) rfl rfl rfl rfl (jhp_get jf17 ht hK rfl) ?_
      refine jEv.steps 6 (s' := (if row * w + col < 0 then 22 else 15, [(4, .int (row * w + col)), (0, .ref t), (1, .int row), (2, .int col), (3, .int v)], [], h)) rfl ?_
      rw [if_neg hx]
      refine jEv.steps 1 (s' := (17, [(4, .int (row * w + col)), (0, .ref t), (1, .int row), (2, .int col), (3, .int v)], [.int (row * w + col)], h)) rfl ?_
      refine jEv.hp (i := .ldc 28) (len := 2) rfl rfl rfl rfl (jhp_ldc jc8_28) ?_
      refine jEv.steps 1 (s' := (if row * w + col < 1048576 then 23 else 22, [(4, .int (row * w + col)), (0, .ref t), (1, .int row), (2, .int col), (3, .int v)], [], h)) rfl ?_
      rw [if_pos (show row * w + col < 1048576 by rw [ilt, hi1]; show _ < (1048576 : Int); omega)]
      refine jEv.steps 2 (s' := (26, [(4, .int (row * w + col)), (0, .ref t), (1, .int row), (2, .int col), (3, .int v)], [.ref t, .int (row * w + col)], h)) rfl ?_
      refine jEv.hp (i := .getfield 21) (len := 3) rfl rfl rfl rfl (jhp_get jf21 ht hK rfl) ?_
      refine jEv.hp (i := .arraylength) (len := 1) rfl rfl rfl rfl (jhp_len (x := (len, .inl f)) ha rfl) ?_
      refine jEv.steps 1 (s' := (if row * w + col < Int32.ofNat len then 58 else 33, [(4, .int (row * w + col)), (0, .ref t), (1, .int row), (2, .int col), (3, .int v)], [], h)) rfl ?_
      rw [if_pos c3]
      exact r1
    · unfold upd
      by_cases e1 : i = (row * w + col).toNatClampNeg
      · subst e1
        simp [hi]
      · simp [e1]
  · have hi : len ≤ (row * w + col).toNatClampNeg := by
      rw [ilt, iof (by omega), hi1] at c3
      omega
    have e5 : (row * w + col + 1).toInt = (row * w + col).toInt + 1 := by
      rw [iadd] <;> rw [hi1] <;> (show _) <;> first | rfl | (have : (1 : Int32).toInt = 1 := rfl; rw [this]; omega)
    have e6 : (2 * Int32.ofNat len).toInt = 2 * (len : Int) := by
      have e7 : (2 : Int32).toInt = 2 := rfl
      rw [imul] <;> rw [iof (by omega), e7] <;> omega
    have hM : ∃ m : Int32, (if row * w + col + 1 < 2 * Int32.ofNat len then 2 * Int32.ofNat len else row * w + col + 1) = m ∧ 2 * (len : Int) ≤ m.toInt ∧ (row * w + col).toInt < m.toInt ∧ m.toInt ≤ 262144 := by
      by_cases c5 : row * w + col + 1 < 2 * Int32.ofNat len
      · refine ⟨_, if_pos c5, ?_, ?_, ?_⟩
        · rw [e6]; omega
        · rw [ilt, e5, e6] at c5; rw [e6]; omega
        · rw [ilt, e5, e6] at c5; rw [e6]; omega
      · refine ⟨_, if_neg c5, ?_, ?_, ?_⟩
        · rw [ilt, e5, e6] at c5; rw [e5]; omega
        · rw [e5]; omega
        · rw [e5, hi1]; omega
    obtain ⟨m, hm, hm1, hm2, hm3⟩ := hM
    have hmn : (m.toNatClampNeg : Int) = m.toInt := by rw [inat]; omega
    have hug := tUp.grow (a := a) (len := len) (m := m.toNatClampNeg) (g := va_cpy f (fun _ => 0) 0 0 len) ht (by omega) (by omega)
    have htl := (List.getElem?_eq_some_iff.mp ht).1
    obtain ⟨h2, r1, r2⟩ := tab_put2 (d := d) (v := v) (row := row) (col := col) hug hK (Nat.le_trans hK (Nat.le_of_lt htl)) (Nat.ne_of_lt htl) hx (by omega)
    refine ⟨h2, h.length, m.toNatClampNeg, _, ?_, r2, fun i => ?_⟩
    · refine jEv.steps 2 (s' := (2, [(0, .ref t), (1, .int row), (2, .int col), (3, .int v)], [.ref t, .int row], h)) rfl ?_
      refine jEv.hp (i := .getfield 17) (len := 3) rfl rfl rfl rfl (jhp_get jf17 ht hK rfl) ?_
      refine jEv.steps 6 (s' := (if row * w + col < 0 then 22 else 15, [(4, .int (row * w + col)), (0, .ref t), (1, .int row), (2, .int col), (3, .int v)], [], h)) rfl ?_
      rw [if_neg hx]
      refine jEv.steps 1 (s' := (17, [(4, .int (row * w + col)), (0, .ref t), (1, .int row), (2, .int col), (3, .int v)], [.int (row * w + col)], h)) rfl ?_
      refine jEv.hp (i := .ldc 28) (len := 2) rfl rfl rfl rfl (jhp_ldc jc8_28) ?_
      refine jEv.steps 1 (s' := (if row * w + col < 1048576 then 23 else 22, [(4, .int (row * w + col)), (0, .ref t), (1, .int row), (2, .int col), (3, .int v)], [], h)) rfl ?_
      rw [if_pos (show row * w + col < 1048576 by rw [ilt, hi1]; show _ < (1048576 : Int); omega)]
      refine jEv.steps 2 (s' := (26, [(4, .int (row * w + col)), (0, .ref t), (1, .int row), (2, .int col), (3, .int v)], [.ref t, .int (row * w + col)], h)) rfl ?_
      refine jEv.hp (i := .getfield 21) (len := 3) rfl rfl rfl rfl (jhp_get jf21 ht hK rfl) ?_
      refine jEv.hp (i := .arraylength) (len := 1) rfl rfl rfl rfl (jhp_len (x := (len, .inl f)) ha rfl) ?_
      refine jEv.steps 1 (s' := (if row * w + col < Int32.ofNat len then 58 else 33, [(4, .int (row * w + col)), (0, .ref t), (1, .int row), (2, .int col), (3, .int v)], [], h)) rfl ?_
      rw [if_neg c3]
      refine jEv.steps 2 (s' := (35, [(4, .int (row * w + col)), (0, .ref t), (1, .int row), (2, .int col), (3, .int v)], [.ref t, .ref t], h)) rfl ?_
      refine jEv.hp (i := .getfield 21) (len := 3) rfl rfl rfl rfl (jhp_get jf21 ht hK rfl) ?_
      refine jEv.steps 5 (s' := (44, [(4, .int (row * w + col)), (0, .ref t), (1, .int row), (2, .int col), (3, .int v)], [.ref t, .int 2, .int (row * w + col + 1), .ref a, .ref t], h)) rfl ?_
      refine jEv.hp (i := .getfield 21) (len := 3) rfl rfl rfl rfl (jhp_get jf21 ht hK rfl) ?_
      refine jEv.hp (i := .arraylength) (len := 1) rfl rfl rfl rfl (jhp_len (x := (len, .inl f)) ha rfl) ?_
      refine jEv.steps 1 (s' := (49, [(4, .int (row * w + col)), (0, .ref t), (1, .int row), (2, .int col), (3, .int v)], [.int (2 * Int32.ofNat len), .int (row * w + col + 1), .ref a, .ref t], h)) rfl ?_
      refine jEv.callJ (Z := jm_14_max_181) (i := .invokestatic 11) (len := 3) (kd := 2) (z := 181) (as := [.int (row * w + col + 1), .int (2 * Int32.ofNat len)]) (r0 := [.ref a, .ref t]) (h' := h) rfl rfl rfl (jcall_s jl8_11 (Nat.le_of_ble_eq_true rfl)) (Nat.le_of_ble_eq_true rfl) (by decide) (by decide) jz181 (Nat.le_of_ble_eq_true rfl) m_max ?_
      rw [hm]
      refine jEv.callJ (Z := jm_16_copyOf_184) (i := .invokestatic 29) (len := 3) (kd := 2) (z := 184) (as := [.ref a, .int m]) (r0 := [.ref t]) (h' := h ++ [.inl (.int, m.toNatClampNeg, .inl (va_cpy f (fun _ => 0) 0 0 len))]) rfl rfl rfl (jcall_s jl8_29 (Nat.le_of_ble_eq_true rfl)) (Nat.le_of_ble_eq_true rfl) (by decide) (by decide) jz184 (Nat.le_of_ble_eq_true rfl) (tab_copy ha hKa (by omega) (by omega) (by omega)) ?_
      refine jEv.hp (i := .putfield 21) (len := 3) rfl rfl rfl rfl (jhp_put jf21 (a := t) (fs := [.int w, .ref a, .int n]) (by rw [List.getElem?_append_left htl]; exact ht) hK (Nat.le_of_ble_eq_true rfl) rfl (Or.inl (Nat.le_of_ble_eq_true rfl))) ?_
      exact r1
    · unfold upd va_cpy
      by_cases e1 : i = (row * w + col).toNatClampNeg
      · subst e1
        rw [if_pos (by omega)]
        simp
      · simp only [e1, if_false]
        by_cases e2 : i < len
        · rw [if_pos (by omega), if_pos ⟨by omega, by omega⟩, if_pos e2]
          congr 1
          omega
        · rw [if_neg e2]
          split
          · rw [if_neg (fun z : 0 ≤ i ∧ i < 0 + len => e2 (by omega))]
          · rfl
end JTab2
