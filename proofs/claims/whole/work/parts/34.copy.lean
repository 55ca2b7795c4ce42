section JCopy
variable {h : jH} {t a len d : Nat} {w n row col m : Int32} {f : Nat → Int32}
set_option maxRecDepth 20000 in
theorem jz182 : jT0.2.2.1 182 = some jm_14_min_182 := by rfl
set_option maxRecDepth 20000 in
theorem jz181 : jT0.2.2.1 181 = some jm_14_max_181 := by rfl
set_option maxRecDepth 20000 in
theorem jz184 : jT0.2.2.1 184 = some jm_16_copyOf_184 := by rfl
set_option maxRecDepth 20000 in
theorem jl16_304 : jT0.2.1 16 304 = some (2, 182, 2, 0) := by decide +kernel
set_option maxRecDepth 20000 in
theorem jl16_150 : jT0.2.1 16 150 = some (5, 0, 5, 0) := by decide +kernel
set_option maxRecDepth 20000 in
theorem jl8_29 : jT0.2.1 8 29 = some (2, 184, 2, 0) := by decide +kernel
set_option maxRecDepth 20000 in
theorem jl8_11 : jT0.2.1 8 11 = some (2, 181, 2, 0) := by decide +kernel
theorem jcall_s {gM : jL} {cn idx z n0 q : Nat} {st : List Value} {h : jH} (hg : gM cn idx = some (2, z, n0, q)) (hn : n0 ≤ st.length) : jcall gM 24 cn (.invokestatic idx) 3 st h = some (2, z, (st.take n0).reverse, st.drop n0) := by
  unfold jcall
  simp only [hg]
  rw [if_pos ⟨trivial, hn⟩]
theorem jcall_c {gM : jL} {cn idx : Nat} {q : Nat × Nat × Nat} {st : List Value} {h : jH} (hg : gM cn idx = some (5, q)) (hn : 5 ≤ st.length) : jcall gM 24 cn (.invokestatic idx) 3 st h = some (5, 0, (st.take 5).reverse, st.drop 5) := by
  unfold jcall
  simp only [hg]
  rw [if_pos ⟨trivial, hn⟩]
theorem tab_copy (ha : h[a]? = some (.inl (.int, len, .inl f))) (hK : 24 ≤ a) (hl : len < 2147483648) (hm : (len : Int) < m.toInt) (hm2 : m.toInt ≤ 60000000) :
    jEv jT0 24 (d + 1) jm_16_copyOf_184 (0, lv_args 0 [.ref a, .int m], [], h) (.inl (some (.ref h.length)), h ++ [.inl (.int, m.toNatClampNeg, .inl (va_cpy f (fun _ => 0) 0 0 len))]) := by
  refine jEv.steps 2 (s' := (2, [(0, .ref a), (1, .int m)], [.ref a, .int m], h)) rfl ?_
  refine jEv.hp (i := .arraylength) (len := 1) rfl rfl rfl rfl (jhp_len (x := (len, .inl f)) ha rfl) ?_
  refine jEv.steps 1 (s' := (if ¬ m = Int32.ofNat len then 14 else 6, [(0, .ref a), (1, .int m)], [], h)) rfl ?_
  have c1 : ¬ m = Int32.ofNat len := by
    rw [ieq, iof hl]
    omega
  have c2 : ¬ m < 0 := by rw [ilt, i0]; omega
  have c3 : m.toNatClampNeg ≤ 60000000 := by rw [inat]; omega
  rw [if_pos c1]
  refine jEv.steps 1 (s' := (15, [(0, .ref a), (1, .int m)], [.int m], h)) rfl ?_
  refine jEv.hp (i := .newarray .int) (len := 2) (st' := [.ref h.length]) (h' := h ++ [.inl (.int, m.toNatClampNeg, .inl (fun _ => 0))]) rfl rfl rfl rfl ?_ ?_
  · unfold jhp
    dsimp only
    rw [if_neg (fun z => z.elim c2 (fun z => by omega))]
    rfl
  have ha2 : (h ++ [.inl (.int, m.toNatClampNeg, .inl (fun _ => 0))] : jH)[a]? = some (.inl (.int, len, .inl f)) := by
    rw [List.getElem?_append_left (List.getElem?_eq_some_iff.mp ha).1]
    exact ha
  have hn2 : (h ++ [.inl (.int, m.toNatClampNeg, .inl (fun _ => 0))] : jH)[h.length]? = some (.inl (.int, m.toNatClampNeg, .inl (fun _ => 0))) := by
    rw [List.getElem?_append_right (Nat.le_refl _), Nat.sub_self]
    rfl
  have hKn : 24 ≤ h.length := Nat.le_trans hK (Nat.le_of_lt (List.getElem?_eq_some_iff.mp ha).1)
  have hset : (h ++ [.inl (.int, m.toNatClampNeg, .inl (fun _ => 0))] : jH).set h.length (.inl (.int, m.toNatClampNeg, .inl (va_cpy f (fun _ => 0) 0 0 len))) = h ++ [.inl (.int, m.toNatClampNeg, .inl (va_cpy f (fun _ => 0) 0 0 len))] := by
    rw [List.set_append_right _ _ (Nat.le_refl _), Nat.sub_self]
    rfl
  generalize hH : (h ++ [.inl (.int, m.toNatClampNeg, .inl (fun _ => 0))] : jH) = h1 at *
  refine jEv.steps 6 (s' := (23, [(2, .ref h.length), (0, .ref a), (1, .int m)], [.ref a, .int 0, .ref h.length, .int 0, .ref a], h1)) rfl ?_
  refine jEv.hp (i := .arraylength) (len := 1) rfl rfl rfl rfl (jhp_len (x := (len, .inl f)) ha2 rfl) ?_
  refine jEv.steps 1 (s' := (25, [(2, .ref h.length), (0, .ref a), (1, .int m)], [.int m, .int (Int32.ofNat len), .int 0, .ref h.length, .int 0, .ref a], h1)) rfl ?_
  refine jEv.callJ (Z := jm_14_min_182) (i := .invokestatic 304) (len := 3) (kd := 2) (z := 182) (as := [.int (Int32.ofNat len), .int m]) (r0 := [.int 0, .ref h.length, .int 0, .ref a]) (h' := h1) rfl rfl rfl (jcall_s jl16_304 (Nat.le_of_ble_eq_true rfl)) (Nat.le_of_ble_eq_true rfl) (by decide) (by decide) jz182 (Nat.le_of_ble_eq_true rfl) m_min ?_
  have c4 : ¬ m < Int32.ofNat len := by rw [ilt, iof hl]; omega
  rw [if_neg c4]
  refine jEv.copy (i := .invokestatic 150) (len := 3) (z := 0) (as := [.ref a, .int 0, .ref h.length, .int 0, .int (Int32.ofNat len)]) (r0 := []) (h' := h ++ [.inl (.int, m.toNatClampNeg, .inl (va_cpy f (fun _ => 0) 0 0 len))]) rfl rfl rfl (jcall_c jl16_150 (Nat.le_of_ble_eq_true rfl)) (Nat.le_of_ble_eq_true rfl) ?_ ?_
  · unfold jcopy
    simp only [ha2, hn2]
    have e1 : (Int32.ofNat len).toNatClampNeg = len := by rw [inat, iof hl]; omega
    have e2 : (0 : Int32).toNatClampNeg = 0 := rfl
    rw [e1, e2, if_neg, hset]
    intro z
    rcases z with (z | z | z) | z | z | z
    · exact absurd z (by decide)
    · exact absurd z (by decide)
    · rw [ilt, iof hl, i0] at z; omega
    · rcases z with z | z
      · omega
      · rw [inat] at z; omega
    · exact absurd z (Nat.not_lt.mpr hK)
    · exact absurd z (Nat.not_lt.mpr hKn)
  refine jEv.steps 1 (s' := (32, [(2, .ref h.length), (0, .ref a), (1, .int m)], [.ref h.length], h ++ [.inl (.int, m.toNatClampNeg, .inl (va_cpy f (fun _ => 0) 0 0 len))])) rfl ?_
  refine jEv.ret (T := jT0) (K := 24) (M := jm_16_copyOf_184) (v := some (.ref h.length)) (s := (32, [(2, .ref h.length), (0, .ref a), (1, .int m)], [.ref h.length], h ++ [.inl (.int, m.toNatClampNeg, .inl (va_cpy f (fun _ => 0) 0 0 len))])) ?_
  rfl
end JCopy
