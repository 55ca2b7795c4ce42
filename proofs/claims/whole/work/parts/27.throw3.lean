section JThr3
theorem va_Zq.jref {C n d : String} {A : Nat → Prop} {s : State} {args : Array Value} (h : va_Zq C n d A s s.heap) : (Jvm.Cond.isRef (.static C n d)).before args s = true := by
  rcases h with ⟨cf, kf, fi, f, a, cell, h1, h2, h3, h4, h5, h6, h7, h8⟩ | ⟨t, cf, kf, fi, f, a, cell, h1, h2, h3, h4, h5, h6, h7, h8⟩
  · have he : (Term.static C n d).eval args s none [] s = some .null := by simp [Term.eval, State.fieldNamed?, h1, h2, h4, h5, h6, h7]
    simp only [Cond.before, Cond.holds, Cond.value, he]
    rfl
  · have he : (Term.static C n d).eval args s none [] s = some (.ref t) := by simp [Term.eval, State.fieldNamed?, h1, h2, h4, h5, h6, h7]
    simp only [Cond.before, Cond.holds, Cond.value, he]
    rfl
variable {b L : Nat} {xs : Nat → Int32} {ad st : Nat → Nat} {sz : Nat}
theorem jXall {s : State} {args : Array Value} (hts : ∀ w ∈ TB0, w.before args s = true) (hSP : jSP b L xs ad st sz s) {q : jXq} (hz : jXz (jXa q) q.2.2.2.2.2.2.2.2 = true) : ∀ w ∈ jXa q, w.before args s = true := by
  intro w hw
  rcases jXz_ok hz hw with ⟨p, hp⟩ | he
  · unfold jAt at hp
    rw [Bool.and_eq_true, Bool.or_eq_true, decide_eq_true_eq] at hp
    rcases hp.2 with h | h
    · exact hts w (List.mem_filter.mpr ⟨jw_mem hp.1, h⟩)
    · have h9 := hSP.2.2.2.2.1 w (jw_mem hp.1) h
      rw [Bool.and_eq_true] at h
      exact va_Nw.use h.1 h9
  · unfold jXe at he
    rw [decide_eq_true_eq] at he
    obtain ⟨-, -, -, -, -, z1, z2, z3, z4, -⟩ := hSP
    simp only [List.mem_cons, List.not_mem_nil, or_false] at he
    rcases he with rfl | rfl | rfl | rfl
    · exact z1.jref
    · exact z2.jref
    · exact z3.word
    · exact z4.word
theorem jx_look {i j ci : Nat} (h : jT0.2.2.2 0 i j = some ci) : ∃ q ∈ jXr, q.1 = ci ∧ q.2.2.1 = i ∧ q.2.2.2.1 = j := by
  have h : (bif Nat.blt j 1000 then (jlk jd_x (i * 1000 + j)).map (fun q => q.1) else none) = some ci := h
  cases hj : Nat.blt j 1000 with
  | false => rw [hj] at h; cases h
  | true =>
    rw [hj] at h
    obtain ⟨q, hq, he⟩ := Option.map_eq_some_iff.mp h
    have hm := jlk_mem hq
    obtain ⟨e1, e2⟩ := jkey (c := i) hj
    have hall : jd_x.all (fun z => jXr.any (fun q => Nat.beq q.1 z.2.1 && Nat.beq q.2.2.1 (z.1 / 1000) && Nat.beq q.2.2.2.1 (z.1 % 1000))) = true := by decide +kernel
    have h1 := List.all_eq_true.mp hall _ hm
    obtain ⟨q', hq', h2⟩ := List.any_eq_true.mp h1
    dsimp only at h2
    rw [e1, e2] at h2
    simp only [Bool.and_eq_true] at h2
    exact ⟨q', hq', by rw [← he]; exact Nat.eq_of_beq_eq_true h2.1.1, Nat.eq_of_beq_eq_true h2.1.2, Nat.eq_of_beq_eq_true h2.2⟩
theorem jx_cn {cn i j ci : Nat} (h : jT0.2.2.2 cn i j = some ci) : cn = 0 := by
  have h : (bif Nat.beq cn 0 then (bif Nat.blt j 1000 then (jlk jd_x (i * 1000 + j)).map (fun q => q.1) else none) else none) = some ci := h
  cases hc : Nat.beq cn 0 with
  | false => rw [hc] at h; cases h
  | true => exact Nat.eq_of_beq_eq_true hc
end JThr3
