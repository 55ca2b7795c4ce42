/-! runs: more rules -/
section JE
variable {T : jT} {K d : Nat} {M Z : jM} {r : jO}
theorem jEv.hp {i : Instr} {len pc : Nat} {lv : List (Nat × Value)} {st st' : List Value} {h h' : jH} (hf : M.2.2.2.2.2.2.1 pc = some (i, len)) (h1 : jstk i st = none) (h2 : jloc i M.2.2.1 lv st = none) (h3 : jjmp i pc len st = none)
    (h4 : jhp T.1 K M.2.2.2.2.1 M.2.2.2.2.2.1 i st h = some (st', h', len)) (kk : jEv T K d M (pc + len, lv, st', h') r) : jEv T K d M (pc, lv, st, h) r := by
  refine jEv.steps 1 ?_ kk
  unfold jit
  simp only [hf]
  unfold jstep
  simp only [h1, h2, h3, h4, if_true]
  rfl
theorem jhp_get {G : jG} {cn : Nat} {ini : Bool} {idx ci k kd a : Nat} {r : List Value} {h : jH} {fs : List Value} {v : Value} (hG : G.1 cn idx = some (ci, k, kd)) (ha : h[a]? = some (.inr (ci, fs))) (hK : K ≤ a) (hv : fs[k]? = some v) : jhp G K cn ini (.getfield idx) (.ref a :: r) h = some (v :: r, h, 3) := by
  unfold jhp
  simp only [hG, ha, hK, hv, and_self, if_true]
theorem jhp_put {G : jG} {cn : Nat} {ini : Bool} {idx ci k kd a : Nat} {r : List Value} {h : jH} {fs : List Value} {v : Value} (hG : G.1 cn idx = some (ci, k, kd)) (ha : h[a]? = some (.inr (ci, fs))) (hK : K ≤ a) (hk : k < fs.length) (hf : jfit (kd % 10) v = true) (hd : kd < 10 ∨ ini = true) : jhp G K cn ini (.putfield idx) (v :: .ref a :: r) h = some (r, h.set a (.inr (ci, fs.set k v)), 3) := by
  unfold jhp
  simp only [hG, ha]
  rw [if_pos ⟨trivial, hK, hk, hf, hd⟩]
theorem jhp_len {G : jG} {cn : Nat} {ini : Bool} {a n : Nat} {ty : FieldType} {x : vp_A} {r : List Value} {h : jH} (ha : h[a]? = some (.inl (ty, n, x.2))) (ht : jatok ty = true) : jhp G K cn ini .arraylength (.ref a :: r) h = some (.int (Int32.ofNat n) :: r, h, 1) := by
  unfold jhp
  simp only [ha, ht, if_true]
theorem jhp_iald {G : jG} {cn : Nat} {ini : Bool} {a n : Nat} {f : Nat → Int32} {j : Int32} {r : List Value} {h : jH} (ha : h[a]? = some (.inl (.int, n, .inl f))) (hj : ¬ (j < 0 ∨ n ≤ j.toNatClampNeg)) : jhp G K cn ini .iaload (.int j :: .ref a :: r) h = some (.int (f j.toNatClampNeg) :: r, h, 1) := by
  unfold jhp
  simp only [ha]
  rw [if_neg hj]
theorem jhp_cald {G : jG} {cn : Nat} {ini : Bool} {a n : Nat} {f : Nat → Int32} {j : Int32} {r : List Value} {h : jH} (ha : h[a]? = some (.inl (.char, n, .inl f))) (hj : ¬ (j < 0 ∨ n ≤ j.toNatClampNeg)) : jhp G K cn ini .caload (.int j :: .ref a :: r) h = some (.int (f j.toNatClampNeg) :: r, h, 1) := by
  unfold jhp
  simp only [ha]
  rw [if_neg hj]
theorem jhp_lald {G : jG} {cn : Nat} {ini : Bool} {a n : Nat} {f : Nat → Int64} {j : Int32} {r : List Value} {h : jH} (ha : h[a]? = some (.inl (.long, n, .inr (.inl f)))) (hj : ¬ (j < 0 ∨ n ≤ j.toNatClampNeg)) : jhp G K cn ini .laload (.int j :: .ref a :: r) h = some (.long (f j.toNatClampNeg) :: r, h, 1) := by
  unfold jhp
  simp only [ha]
  rw [if_neg hj]
theorem jhp_iast {G : jG} {cn : Nat} {ini : Bool} {a n : Nat} {f : Nat → Int32} {j x : Int32} {r : List Value} {h : jH} (ha : h[a]? = some (.inl (.int, n, .inl f))) (hj : ¬ (j < 0 ∨ n ≤ j.toNatClampNeg)) (hK : K ≤ a) : jhp G K cn ini .iastore (.int x :: .int j :: .ref a :: r) h = some (r, h.set a (.inl (.int, n, .inl (upd f j.toNatClampNeg x))), 1) := by
  unfold jhp
  simp only [ha]
  rw [if_neg (fun z => z.elim hj (fun z => Nat.not_lt.mpr hK z))]
theorem jhp_cast {G : jG} {cn : Nat} {ini : Bool} {a n : Nat} {f : Nat → Int32} {j x : Int32} {r : List Value} {h : jH} (ha : h[a]? = some (.inl (.char, n, .inl f))) (hj : ¬ (j < 0 ∨ n ≤ j.toNatClampNeg)) (hK : K ≤ a) : jhp G K cn ini .castore (.int x :: .int j :: .ref a :: r) h = some (r, h.set a (.inl (.char, n, .inl (upd f j.toNatClampNeg (vp_nar .char x)))), 1) := by
  unfold jhp
  simp only [ha]
  rw [if_neg (fun z => z.elim hj (fun z => Nat.not_lt.mpr hK z))]
theorem jhp_last {G : jG} {cn : Nat} {ini : Bool} {a n : Nat} {f : Nat → Int64} {j : Int32} {x : Int64} {r : List Value} {h : jH} (ha : h[a]? = some (.inl (.long, n, .inr (.inl f)))) (hj : ¬ (j < 0 ∨ n ≤ j.toNatClampNeg)) (hK : K ≤ a) : jhp G K cn ini .lastore (.long x :: .int j :: .ref a :: r) h = some (r, h.set a (.inl (.long, n, .inr (.inl (vp_updL f j.toNatClampNeg x)))), 1) := by
  unfold jhp
  simp only [ha]
  rw [if_neg (fun z => z.elim hj (fun z => Nat.not_lt.mpr hK z))]
/-- a call by what jcall says -/
theorem jEv.callJ {i : Instr} {len pc : Nat} {lv : List (Nat × Value)} {st : List Value} {h : jH} {kd z : Nat} {as r0 : List Value} {v : Option Value} {h' : jH} (hf : M.2.2.2.2.2.2.1 pc = some (i, len)) (h1 : jstep T.1 K M.2.2.2.2.1 M.2.2.1 M.2.2.2.2.2.1 i len pc lv st h = none) (h2 : jend M.2.2.2.1 i len st = none)
    (h3 : jcall T.2.1 K M.2.2.2.2.1 i len st h = some (kd, z, as, r0)) (h4 : (r0.map fun v => v.category).sum ≤ 8) (hk : kd ≠ 3) (hk5 : kd ≠ 5) (hz : T.2.2.1 z = some Z) (hl : (lg_sl as).length ≤ Z.2.2.1)
    (hc : jEv T K d Z (0, lv_args 0 as, [], h) (.inl v, h')) (kk : jEv T K (d + 1) M (pc + 3, lv, v.toList ++ r0, h') r) : jEv T K (d + 1) M (pc, lv, st, h) r := by
  refine jEv.call (s := (pc, lv, st, h)) (kd := kd) (z := z) (as := as) (r0 := r0) ?_ hk hk5 hz hl hc kk
  unfold jat
  simp only [hf, h1, h2, h3]
  rw [if_neg (by omega)]
/-- a call that throws -/
theorem jEv.callT {i : Instr} {len pc : Nat} {lv : List (Nat × Value)} {st : List Value} {h : jH} {kd z : Nat} {as r0 : List Value} {a : Nat} {h' : jH} (hf : M.2.2.2.2.2.2.1 pc = some (i, len)) (h1 : jstep T.1 K M.2.2.2.2.1 M.2.2.1 M.2.2.2.2.2.1 i len pc lv st h = none) (h2 : jend M.2.2.2.1 i len st = none)
    (h3 : jcall T.2.1 K M.2.2.2.2.1 i len st h = some (kd, z, as, r0)) (h4 : (r0.map fun v => v.category).sum ≤ 8) (hk : kd ≠ 3) (hk5 : kd ≠ 5) (hz : T.2.2.1 z = some Z) (hl : (lg_sl as).length ≤ Z.2.2.1)
    (hc : jEv T K d Z (0, lv_args 0 as, [], h) (.inr a, h')) (hh : M.2.2.2.2.2.2.2 = []) : jEv T K (d + 1) M (pc, lv, st, h) (.inr a, h') := by
  obtain ⟨n, hn⟩ := hc
  refine ⟨n + 1, ?_⟩
  show jbody T K (jrun T K n) (d + 1) M (pc, lv, st, h) = _
  unfold jbody
  simp only [hf, h1, h2, h3, if_neg (Nat.not_lt.mpr h4), if_neg hk, if_neg hk5, hz, if_neg (Nat.not_lt.mpr hl), hn, hh]
/-- a call that throws into a handler -/
theorem jEv.callC {i : Instr} {len pc : Nat} {lv : List (Nat × Value)} {st : List Value} {h : jH} {kd z : Nat} {as r0 : List Value} {a q : Nat} {h' : jH} (hf : M.2.2.2.2.2.2.1 pc = some (i, len)) (h1 : jstep T.1 K M.2.2.2.2.1 M.2.2.1 M.2.2.2.2.2.1 i len pc lv st h = none) (h2 : jend M.2.2.2.1 i len st = none)
    (h3 : jcall T.2.1 K M.2.2.2.2.1 i len st h = some (kd, z, as, r0)) (h4 : (r0.map fun v => v.category).sum ≤ 8) (hk : kd ≠ 3) (hk5 : kd ≠ 5) (hz : T.2.2.1 z = some Z) (hl : (lg_sl as).length ≤ Z.2.2.1)
    (hc : jEv T K d Z (0, lv_args 0 as, [], h) (.inr a, h')) {b : (Nat × Nat × Nat × Nat) × List Nat} {hs : List ((Nat × Nat × Nat × Nat) × List Nat)} (hh : M.2.2.2.2.2.2.2 = b :: hs) (hq : jhand (b :: hs) pc h' a = some q) (kk : jEv T K (d + 1) M (q, lv, [.ref a], h') r) : jEv T K (d + 1) M (pc, lv, st, h) r := by
  obtain ⟨n1, hn1⟩ := hc
  obtain ⟨n2, hn2⟩ := kk
  have e1 := jrun_le n2 hn1
  have e2 : jrun T K (n1 + n2) (d + 1) M (q, lv, [.ref a], h') = some r := by
    rw [Nat.add_comm]
    exact jrun_le n1 hn2
  refine ⟨n1 + n2 + 1, ?_⟩
  show jbody T K (jrun T K (n1 + n2)) (d + 1) M (pc, lv, st, h) = _
  unfold jbody
  simp only [hf, h1, h2, h3, if_neg (Nat.not_lt.mpr h4), if_neg hk, if_neg hk5, hz, if_neg (Nat.not_lt.mpr hl), e1, hh, hq]
  exact e2
/-- System.arraycopy -/
theorem jEv.copy {i : Instr} {len pc : Nat} {lv : List (Nat × Value)} {st : List Value} {h : jH} {z : Nat} {as r0 : List Value} {h' : jH} (hf : M.2.2.2.2.2.2.1 pc = some (i, len)) (h1 : jstep T.1 K M.2.2.2.2.1 M.2.2.1 M.2.2.2.2.2.1 i len pc lv st h = none) (h2 : jend M.2.2.2.1 i len st = none)
    (h3 : jcall T.2.1 K M.2.2.2.2.1 i len st h = some (5, z, as, r0)) (h4 : (r0.map fun v => v.category).sum ≤ 8) (hc : jcopy K as h = some h') (kk : jEv T K (d + 1) M (pc + 3, lv, r0, h') r) : jEv T K (d + 1) M (pc, lv, st, h) r := by
  obtain ⟨n, hn⟩ := kk
  refine ⟨n + 1, ?_⟩
  show jbody T K (jrun T K n) (d + 1) M (pc, lv, st, h) = _
  unfold jbody
  simp only [hf, h1, h2, h3, if_neg (Nat.not_lt.mpr h4), hc, if_true]
  exact hn
/-- a throw -/
theorem jEv.thr {i : Instr} {len pc : Nat} {lv : List (Nat × Value)} {st : List Value} {h : jH} {ci : Nat} (hf : M.2.2.2.2.2.2.1 pc = some (i, len)) (h1 : jstep T.1 K M.2.2.2.2.1 M.2.2.1 M.2.2.2.2.2.1 i len pc lv st h = none) (h2 : jend M.2.2.2.1 i len st = none)
    (h3 : jcall T.2.1 K M.2.2.2.2.1 i len st h = none) (h5 : jthr T K M i len pc st = some ci) (hd : 8 ≤ d) : jEv T K d M (pc, lv, st, h) (.inr h.length, h ++ [.inr (ci, [.null, .null, .null, .null, .null, .null])]) := by
  refine ⟨1, ?_⟩
  show jbody T K (jrun T K 0) d M (pc, lv, st, h) = _
  unfold jbody
  simp only [hf, h1, h2, h3, h5, if_neg (Nat.not_lt.mpr hd)]
end JE
