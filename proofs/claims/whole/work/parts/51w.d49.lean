/-! D49: the reference takes a clause -/
theorem l84_eq : ∀ (n : Nat) (i2 i5 i6 i7 : Int32) (σ : qC), m_take_153_l84 n i2 i5 i6 i7 σ = m_same_156_l282 (fun σ => (m_unify_155 i6 σ).bind (fun p2 => if p2.1 = 0 ∨ p2.1 = 1 then some (p2.1, p2.2) else none)) n i5 i2 i7 σ := by
  intro n
  induction n with
  | zero => intro i2 i5 i6 i7 σ; rfl
  | succ n ih =>
    intro i2 i5 i6 i7 σ
    unfold m_take_153_l84 m_same_156_l282
    by_cases h : i7 < 0
    · rw [if_pos h, if_pos h]
    · rw [if_neg h, if_neg h]
      congr 1
      funext x5
      congr 1
      funext x7
      congr 1
      funext p9
      exact ih _ _ _ _ _
theorem WUm.out {σ : qC} {nv nc ns v : Nat} {W : Wm} {u : Us} (h : WUm σ nv nc W u) (hS : SlOK nv ns u) (hv : nv ≤ v) : (W.1 v = 2147483647 ∧ W.2.1 v = -1 ∧ W.2.2.1 v = -1) ∧ u.1 v = none ∧ u.2.1 v = -1 ∧ u.2.2.1 v = -1 ∧ u.2.2.2.2.1 v = [] := by
  have hu : u.1 v = none := by
    cases hq : u.1 v with
    | none => rfl
    | some T =>
      have := h.1 v
      rw [hq] at this
      have := this.1
      omega
  have hs := (hS.2.1 v).2.2.1 hv
  obtain ⟨c1, c2⟩ := hS.1 v hu
  rw [hs] at c1 c2
  have c1 : u.2.1 v = -1 := c1
  have c2 : u.2.2.1 v = -1 := c2
  exact ⟨⟨h.nn hu, by rw [h.2.1, c1], by rw [h.2.2.1, c2]⟩, hu, c1, c2, hs⟩
theorem uNew_idm {σ : qC} {nv nc ns : Nat} {W : Wm} {u : Us} (h : WUm σ nv nc W u) (hS : SlOK nv ns u) : uNew u nv = u := by
  obtain ⟨b, hd, tl, nx, sl, wk⟩ := u
  unfold uNew
  dsimp only
  have e1 : (fun v => if nv ≤ v then none else b v) = b := by
    funext v
    split
    · rename_i hv
      exact (h.out hS hv).2.1.symm
    · rfl
  have e2 : (fun v => if nv ≤ v then -1 else hd v) = hd := by
    funext v
    split
    · rename_i hv
      exact (h.out hS hv).2.2.1.symm
    · rfl
  have e3 : (fun v => if nv ≤ v then -1 else tl v) = tl := by
    funext v
    split
    · rename_i hv
      exact (h.out hS hv).2.2.2.1.symm
    · rfl
  have e4 : (fun v => if nv ≤ v then [] else sl v) = sl := by
    funext v
    split
    · rename_i hv
      exact (h.out hS hv).2.2.2.2.symm
    · rfl
  rw [e1, e2, e3, e4]
set_option maxHeartbeats 4000000 in
theorem take_m {σ : qC} {cls : List Cl} {s bn na nc ng c : Nat} {st : Sto} {rest td0 : List Go} {ch : List Ch} {W : Wm} {t : List Em} {X : Tr} {lvl : Nat} {x behind : Int}
    (a1 : MStat σ cls) (hB : MB σ st.1 nc st.2.2.1 na W t st.2.1 s 0) (a3 : SRm σ W t na nc st) (a4 : Bm1 s na nc ng t st) (k1 : σ.1 6427 = Int32.ofInt bn) (k2 : σ.1 6425 = Int32.ofInt nc) (k3 : σ.1 6428 = Int32.ofInt ng) (k4 : σ.1 6433 = Int32.ofInt ch.length) (hT : RTM σ st.1 nc ng rest behind) (hS : SnM σ s ch W t st.1 st.2.2.1 na nc ng) (hch : ch.length ≤ s) (hc : c < cls.length) (hX : MTx (σ.2 72) (σ.2 73) (σ.2 74) st.1 nc x X) (hl : ¬ lab X < 0) (hf : fitA X (cls.getD c clNil) = true) (hlv : lvl ≤ 20000) :
    ∃ σ', m_take_153 (Int32.ofInt c) (Int32.ofInt x) (Int32.ofInt behind) (Int32.ofInt lvl) σ = some (Int32.ofInt (if (aTake cls (s, bn, st, td0, ch) c X rest lvl).1 = 0 then 1 else 0), σ') ∧ MR σ' cls (aTake cls (s, bn, st, td0, ch) c X rest lvl) := by
  obtain ⟨nv, u, ns, sg, ap⟩ := st
  obtain ⟨b1, b2, b3, b4, b5, b6, b7, b8, L, R, b9, b10⟩ := a3
  obtain ⟨d1, d2, d3, d4, d5, d6⟩ := a4
  obtain ⟨m1, m2, m3, m4, ⟨m5, m6, m7⟩, m8, m9⟩ := hB
  have hcx := a1.clx hc
  obtain ⟨hsm, hpt, hle, hnv, hrg, hgo⟩ := (a1.2.2 c hc).2.2.get
  have hn48 := (a1.2.2 c hc).2.2.1
  have hz0 := (a1.2.2 c hc).2.2.2.1
  have h12 := a1.2.1
  dsimp only at *
  have eT : aTake cls (s, bn, (nv, u, ns, sg, ap), td0, ch) c X rest lvl = aSame (s, bn + clNv (cls.getD c clNil), (nv + clNv (cls.getD c clNil), u, ns, sg, ap), td0, ch) (prs (clT (cls.getD c clNil) nv 0) X (ary (clT (cls.getD c clNil) nv 0))) (clGoals (cls.getD c clNil) nv lvl ++ rest) := by
    unfold aTake
    dsimp only
    rw [uNew_idm b1 b4]
  rw [eT]
  clear eT
  generalize hcl : cls.getD c clNil = cl at *
  obtain ⟨tx, n, gs⟩ := cl
  dsimp only at *
  have hnvr : rnk tx n 26 ≤ 24 := hnv
  have hcn : clNv (tx, n, gs) = rnk tx n 26 := rfl
  obtain ⟨w1, w2, w3, w4, w5, w6⟩ := hcx
  unfold m_take_153
  dsimp only [qlet]
  rw [upS_2, agetI (i := c) rfl (by omega) (by omega), Option.bind_some, w1, upS_1, if_pos rfl, zmul, zadd]
  obtain ⟨σ1, hσ1⟩ : ∃ σ1, σ1 = upS (upS σ 6412 (Int32.ofInt ((c : Int) * 48))) 6413 (Int32.ofInt ((c : Int) * 48 + (n : Int))) := ⟨_, rfl⟩
  rw [← hσ1]
  have s11 : ∀ j, j ≠ 6412 → j ≠ 6413 → σ1.1 j = σ.1 j := fun j a b => by rw [hσ1, upS_1, if_neg b, upS_1, if_neg a]
  have s12 : σ1.2 = σ.2 := by rw [hσ1]; rfl
  have hT1 : TXT σ1 (48 * c) n tx := by
    refine ⟨?_, fun p hp => by rw [s12]; exact w2 p hp, by omega, w4, w5, w6⟩
    rw [hσ1, upS_1, if_pos rfl]
    congr 1
    omega
  have hs1 : σ1.1 6412 = Int32.ofInt ((48 * c : Nat) : Int) := by
    rw [hσ1, upS_1, if_neg (by omega), upS_1, if_pos rfl]
    congr 1
    omega
  obtain ⟨σ2, n1, n2⟩ := number_ok hT1 hs1 (nv := nv) (bn := bn) (by omega) (by rw [s11 _ (by omega) (by omega)]; exact m1.2.2.2.1.1) (by rw [s11 _ (by omega) (by omega)]; exact k1)
  rw [n1, Option.bind_some]
  have hmap := n2.map
  obtain ⟨⟨i1, i2⟩, i3, i4, i5, i6, i7⟩ := n2
  have f2 : ∀ k, k ≠ 70 → k ≠ 75 → k ≠ 76 → k ≠ 77 → σ2.2 k = σ.2 k := fun k a b c d => by rw [i6 k a b c d, s12]
  have f1 : ∀ j, j ≠ 6426 → j ≠ 6427 → j ≠ 6412 → j ≠ 6413 → σ2.1 j = σ.1 j := fun j a b c d => by rw [i7 j a b, s11 j c d]
  have hT2 : TXT σ2 (48 * c) n tx := hT1.congr (i7 _ (by omega) (by omega)) (i6 _ (by omega) (by omega) (by omega) (by omega))
  have hne : tx (pT tx 6 0).2.1 ≠ 40 := by
    rcases hgo with ⟨e, -⟩ | ⟨-, e, -⟩
    · rw [e, hz0 _ (Nat.le_refl _)]; omega
    · rw [e]; omega
  have hB2 : BP0 σ2 (48 * c) n nv (nv + rnk tx n 26) tx 0 nc := ⟨hT2, hmap, by rw [i7 _ (by omega) (by omega), hs1, Nat.add_zero], by rw [f1 _ (by omega) (by omega) (by omega) (by omega), k2], Nat.le_refl _, by omega⟩
  obtain ⟨σ3, nc3, h, e1, e2, e3, e4, e5, e6⟩ := build_ok hpt hne hB2 (by omega) (by omega)
  rw [e1, Option.bind_some]
  dsimp only
  have hT3 : TXT σ3 (48 * c) n tx := hT2.congr (e6.2.2.2.2.2.2 _ (by omega) (by omega)) (e6.2.2.2.2.2.1 _ (by omega) (by omega) (by omega) (by omega))
  rw [e5, at_ok hT3 rfl (by omega), Option.bind_some]
  -- what is left to do from the state with goals
  have fin : ∀ (σ4 : qC) (nc4 ng4 : Nat) (first : Int), FrG σ2 σ4 nc nc4 ng ng4 → (∀ i, i < ng → σ4.2 82 i = σ.2 82 i) → nc3 ≤ nc4 → nc4 ≤ nc + 24 → ng4 ≤ ng + 24 → MTx (σ4.2 72) (σ4.2 73) (σ4.2 74) (nv + rnk tx n 26) nc4 h (clT (tx, n, gs) nv 0) → RTM σ4 (nv + rnk tx n 26) nc4 ng4 (clGoals (tx, n, gs) nv lvl ++ rest) first →
      ∃ σ', (aget ((upS σ4 6436 (Int32.ofInt 0)).2 73) 24000 (Int32.ofInt h)).bind (fun x24 => m_take_153_l84 qF (Int32.ofInt x) (Int32.ofInt h) (Int32.ofInt first) (x24 - (Int32.ofInt 1)) (upS σ4 6436 (Int32.ofInt 0))) = some (Int32.ofInt (if (aSame (s, bn + rnk tx n 26, (nv + rnk tx n 26, u, ns, sg, ap), td0, ch) (prs (clT (tx, n, gs) nv 0) X (ary (clT (tx, n, gs) nv 0))) (clGoals (tx, n, gs) nv lvl ++ rest)).1 = 0 then 1 else 0), σ') ∧ MR σ' cls (aSame (s, bn + rnk tx n 26, (nv + rnk tx n 26, u, ns, sg, ap), td0, ch) (prs (clT (tx, n, gs) nv 0) X (ary (clT (tx, n, gs) nv 0))) (clGoals (tx, n, gs) nv lvl ++ rest)) := by
    intro σ4 nc4 ng4 first g0 g82 g3 g4 g5 g6 g7
    obtain ⟨f41, f42, f43, f44, f45, f46, f47, f48, f49, f4a⟩ := g0
    have ht0 := tt_sm (n := n) (k := 5) (env := nv) hsm
    have hH0 : ¬ lab (clT (tx, n, gs) nv 0) < 0 := by
      show ¬ lab (tt tx n 6 0 nv) < 0
      rw [ht0.1]
      omega
    have hary : ary (clT (tx, n, gs) nv 0) = ary X := by
      unfold fitA at hf
      rw [Bool.and_eq_true, decide_eq_true_eq, decide_eq_true_eq] at hf
      have h2 := hf.2
      have h3 : ary (clT (tx, n, gs) 0 0) = (pT tx 6 0).2.2.length := (tt_sm (n := n) (k := 5) (env := 0) hsm).2
      have h4 : ary (clT (tx, n, gs) nv 0) = (pT tx 6 0).2.2.length := ht0.2
      rw [h4, ← h3, h2]
    obtain ⟨σ5, hσ5⟩ : ∃ σ5, σ5 = upS σ4 6436 (Int32.ofInt 0) := ⟨_, rfl⟩
    rw [← hσ5]
    have s51 : ∀ j, j ≠ 6436 → σ5.1 j = σ4.1 j := fun j a => by rw [hσ5, upS_1, if_neg a]
    have s52 : σ5.2 = σ4.2 := by rw [hσ5]; rfl
    have hX4 : MTx (σ5.2 72) (σ5.2 73) (σ5.2 74) (nv + rnk tx n 26) nc4 x X := by
      refine hX.mono (by omega) f41 (fun i hi => ?_) (fun i hi => ?_) (fun i hi => ?_)
      · rw [s52, f45 i hi, f2 _ (by omega) (by omega) (by omega) (by omega)]
      · rw [s52, f46 i hi, f2 _ (by omega) (by omega) (by omega) (by omega)]
      · rw [s52, f47 i hi, f2 _ (by omega) (by omega) (by omega) (by omega)]
    have hH4 : MTx (σ5.2 72) (σ5.2 73) (σ5.2 74) (nv + rnk tx n 26) nc4 h (clT (tx, n, gs) nv 0) := by rw [s52]; exact g6
    rcases hX4.cases with ⟨z, -, z2⟩ | ⟨xa, xb, xar, xc, xe, xs, xf, xg, xg1, xg2, xg3⟩
    · exact absurd (hX4.rng.2.2.1.mp z) hl
    rcases hH4.cases with ⟨z, -, z2⟩ | ⟨ya, yb, yar, yc, ye, ys, yf, yg, yg1, yg2, yg3⟩
    · exact absurd (hH4.rng.2.2.1.mp z) hH0
    have hx' : x = (x.toNat : Nat) := by omega
    have hh' : h = (h.toNat : Nat) := by omega
    rw [agetI (i := h.toNat) (by omega) (by omega) (by omega), Option.bind_some, ye, l84_eq, zsub, hh', hx', ← yg2]
    rw [← yg2] at yc yg3
    rw [← xg2, ← hary] at xg3
    obtain ⟨σ6, p1, p2, p3, p4, p5⟩ := pairsL_ok (nv := nv + rnk tx n 26) (nc := nc4) (x := h.toNat) (y := x.toNat) (X := clT (tx, n, gs) nv 0) (Y := X) (K := (fun σ => (m_unify_155 (Int32.ofInt first) σ).bind (fun p2 => if p2.1 = 0 ∨ p2.1 = 1 then some (p2.1, p2.2) else none))) (by omega) (by omega) (ary (clT (tx, n, gs) nv 0)) qF σ5 [] trivial (by rw [hσ5, upS_1, if_pos rfl]; rfl) (by simp; omega) yc (by unfold qF; omega) yg3 xg3
    rw [p1]
    rw [List.append_nil] at p2 p3
    have F2 : ∀ k, k ≠ 68 → k ≠ 70 → k ≠ 72 → k ≠ 73 → k ≠ 74 → k ≠ 75 → k ≠ 76 → k ≠ 77 → (k < 78 ∨ 82 < k) → k ≠ 90 → k ≠ 91 → σ6.2 k = σ.2 k := fun k x1 x2 x3 x4 x5 x6 x7 x8 x9 xa xb => by rw [p4 k xa xb, s52, f49 k x1 x3 x4 x5 x9, f2 k x2 x6 x7 x8]
    have F1 : ∀ j, j ≠ 6412 → j ≠ 6413 → j ≠ 6425 → j ≠ 6426 → j ≠ 6427 → j ≠ 6428 → j ≠ 6436 → σ6.1 j = σ.1 j := fun j x1 x2 x3 x4 x5 x6 x7 => by rw [p5 j x7, s51 j x7, f4a j x1 x3 x6, f1 j x4 x5 x1 x2]
    have C72 : ∀ i, i < nc → σ6.2 72 i = σ.2 72 i := fun i hi => by rw [p4 _ (by omega) (by omega), s52, f45 i hi, f2 _ (by omega) (by omega) (by omega) (by omega)]
    have C73 : ∀ i, i < nc → σ6.2 73 i = σ.2 73 i := fun i hi => by rw [p4 _ (by omega) (by omega), s52, f46 i hi, f2 _ (by omega) (by omega) (by omega) (by omega)]
    have C74 : ∀ i, i < 3 * nc → σ6.2 74 i = σ.2 74 i := fun i hi => by rw [p4 _ (by omega) (by omega), s52, f47 i hi, f2 _ (by omega) (by omega) (by omega) (by omega)]
    have G75 : ∀ k, k = 75 ∨ k = 76 ∨ k = 77 → σ6.2 k = σ2.2 k := fun k hk => by rw [p4 _ (by omega) (by omega), s52, f49 k (by omega) (by omega) (by omega) (by omega) (by omega)]
    have hMW : MW σ6 W t (nv + rnk tx n 26) ns na := by
      obtain ⟨x1, x2, x3, ⟨x4, x5, x6, x7⟩, x8, x9⟩ := m1
      refine ⟨fun v hv => ?_, fun k hk => by rw [F2 86 (by omega) (by omega) (by omega) (by omega) (by omega) (by omega) (by omega) (by omega) (by omega) (by omega) (by omega)]; exact x2 k hk, fun k hk => by rw [F2 89 (by omega) (by omega) (by omega) (by omega) (by omega) (by omega) (by omega) (by omega) (by omega) (by omega) (by omega)]; exact x3 k hk, ⟨?_, ?_, ?_, ?_⟩, ?_, by omega⟩
      · rw [G75 75 (by omega), G75 76 (by omega), G75 77 (by omega)]
        by_cases hvn : v < nv
        · obtain ⟨y1, y2, y3⟩ := i4 v hvn
          rw [y1, y2, y3, s12]
          exact x1 v hvn
        · obtain ⟨y1, y2, y3⟩ := i5 v (by omega) (by omega)
          obtain ⟨⟨z1, z2, z3⟩, -⟩ := b1.out b4 (by omega : nv ≤ v)
          rw [y1, y2, y3, z1, z2, z3]
          exact ⟨rfl, rfl, rfl⟩
      · rw [p5 _ (by omega), s51 _ (by omega), f4a _ (by omega) (by omega) (by omega), i1]
      · rw [F1 _ (by omega) (by omega) (by omega) (by omega) (by omega) (by omega) (by omega), x5]
      · rw [F1 _ (by omega) (by omega) (by omega) (by omega) (by omega) (by omega) (by omega), x6]
      · rw [F1 _ (by omega) (by omega) (by omega) (by omega) (by omega) (by omega) (by omega), x7]
      · rw [F2 83 (by omega) (by omega) (by omega) (by omega) (by omega) (by omega) (by omega) (by omega) (by omega) (by omega) (by omega), F2 84 (by omega) (by omega) (by omega) (by omega) (by omega) (by omega) (by omega) (by omega) (by omega) (by omega) (by omega)]
        exact x8
    have hWU : WUm σ6 (nv + rnk tx n 26) nc4 W u := b1.congr (by omega) f41 C72 C73 C74
    have hbo : bOrd (nv + rnk tx n 26) u.1 := by
      intro v hv T hT' hlT
      by_cases hvn : v < nv
      · exact b3 v hvn T hT' hlT
      · have := (b1.out b4 (by omega : nv ≤ v)).2.1
        rw [this] at hT'
        cases hT'
    have hSlo : SlOK (nv + rnk tx n 26) ns u := by
      obtain ⟨q1, q2, q3⟩ := b4
      exact ⟨q1, fun v => ⟨(q2 v).1, (q2 v).2.1, fun z => (q2 v).2.2.1 (by omega), (q2 v).2.2.2⟩, q3⟩
    have hpot : pot (nv + rnk tx n 26) u.2.2.2.2.1 = pot nv u.2.2.2.2.1 := pot_ext (fun v hv => (b1.out b4 hv).2.2.2.2) _
    have c78 : ∀ i, i < ng → σ6.2 78 i = σ.2 78 i ∧ σ6.2 79 i = σ.2 79 i ∧ σ6.2 80 i = σ.2 80 i ∧ σ6.2 81 i = σ.2 81 i ∧ σ6.2 82 i = σ.2 82 i := by
      intro i hi
      rw [p4 78 (by omega) (by omega), p4 79 (by omega) (by omega), p4 80 (by omega) (by omega), p4 81 (by omega) (by omega), p4 82 (by omega) (by omega), s52]
      obtain ⟨y1, y2, y3, y4⟩ := f48 i hi
      exact ⟨by rw [y1, f2 _ (by omega) (by omega) (by omega) (by omega)], by rw [y2, f2 _ (by omega) (by omega) (by omega) (by omega)], by rw [y3, f2 _ (by omega) (by omega) (by omega) (by omega)], by rw [y4, f2 _ (by omega) (by omega) (by omega) (by omega)], g82 i hi⟩
    have c94 : ∀ k i, 94 ≤ k → k ≤ 102 → i < ch.length → σ6.2 k i = σ.2 k i := fun k i a b _ => by rw [F2 k (by omega) (by omega) (by omega) (by omega) (by omega) (by omega) (by omega) (by omega) (by omega) (by omega) (by omega)]
    have F85 := F2 85 (by omega) (by omega) (by omega) (by omega) (by omega) (by omega) (by omega) (by omega) (by omega) (by omega) (by omega)
    have F87 := F2 87 (by omega) (by omega) (by omega) (by omega) (by omega) (by omega) (by omega) (by omega) (by omega) (by omega) (by omega)
    have F88 := F2 88 (by omega) (by omega) (by omega) (by omega) (by omega) (by omega) (by omega) (by omega) (by omega) (by omega) (by omega)
    obtain ⟨σ', q1, q2⟩ := unify_m (σ := σ6) (cls := cls) (s := s) (bn := bn + rnk tx n 26) (na := na) (nc := nc4) (ng := ng4) (st := (nv + rnk tx n 26, u, ns, sg, ap)) (rest := clGoals (tx, n, gs) nv lvl ++ rest) (td0 := td0) (ch := ch) (W := W) (t := t) (ps := prs (clT (tx, n, gs) nv 0) X (ary (clT (tx, n, gs) nv 0))) (behind := first)
      (a1.congr (F1 _ (by omega) (by omega) (by omega) (by omega) (by omega) (by omega) (by omega)) (F2 _ (by omega) (by omega) (by omega) (by omega) (by omega) (by omega) (by omega) (by omega) (by omega) (by omega) (by omega)) (F2 _ (by omega) (by omega) (by omega) (by omega) (by omega) (by omega) (by omega) (by omega) (by omega) (by omega) (by omega)))
      ⟨hMW, hWU, m3.mono (by dsimp only; omega) (Nat.le_refl _) (Nat.le_refl _), hbo, ⟨by rw [F1 _ (by omega) (by omega) (by omega) (by omega) (by omega) (by omega) (by omega), m5], by rw [F1 _ (by omega) (by omega) (by omega) (by omega) (by omega) (by omega) (by omega), m6], by rw [F1 _ (by omega) (by omega) (by omega) (by omega) (by omega) (by omega) (by omega), m7]⟩, by omega, m9⟩
      ⟨hWU, b2.mono (by dsimp only; omega) (Nat.le_refl _) (Nat.le_refl _), hbo, hSlo, b5, b6, b7, fun e he => (b8 e he).congr (by dsimp only; omega) f41 C72 C73 C74 (by rw [F85]), L, R, fun a ha => (b9 a ha).mono (by dsimp only; omega) f41 C72 C73 C74 (by rw [F87]) (by rw [F88]), b10⟩
      ⟨by (try dsimp only); omega, by (try dsimp only); omega, by dsimp only; rw [hpot]; omega, by (try dsimp only); omega, by (try dsimp only); omega, by (try dsimp only); omega⟩
      (by rw [p5 _ (by omega), s51 _ (by omega), f4a _ (by omega) (by omega) (by omega), i2])
      (by rw [p5 _ (by omega), s51 _ (by omega), f43])
      (by rw [p5 _ (by omega), s51 _ (by omega), f44])
      (by rw [F1 _ (by omega) (by omega) (by omega) (by omega) (by omega) (by omega) (by omega), k4])
      p2 p3 (by rw [prs_len]; exact yc)
      (g7.mono (σ' := σ6) (Nat.le_refl _) (Nat.le_refl _) (Nat.le_refl _) (fun i _ => by rw [p4 _ (by omega) (by omega), s52]) (fun i _ => by rw [p4 _ (by omega) (by omega), s52]) (fun i _ => by rw [p4 _ (by omega) (by omega), s52]) (fun i _ => ⟨by rw [p4 _ (by omega) (by omega), s52], by rw [p4 _ (by omega) (by omega), s52], by rw [p4 _ (by omega) (by omega), s52], by rw [p4 _ (by omega) (by omega), s52], by rw [p4 _ (by omega) (by omega), s52]⟩))
      ((hS.congr (σ' := σ6) C72 C73 C74 (fun e _ => by rw [F85]) (fun a _ => ⟨by rw [F87], by rw [F88]⟩) c78 c94).mono (Nat.le_refl _) (by dsimp only; omega) (Nat.le_refl _) (Nat.le_refl _) f41 f42)
      hch
    rw [q1, Option.bind_some]
    refine ⟨σ', ?_, q2⟩
    rw [if_pos (by split; exact Or.inr rfl; exact Or.inl rfl)]
  have hrest : ∀ (σ4 : qC) (nc4 ng4 : Nat), FrG σ2 σ4 nc nc4 ng ng4 → (∀ i, i < ng → σ4.2 82 i = σ.2 82 i) → RTM σ4 (nv + rnk tx n 26) nc4 ng4 rest behind := by
    intro σ4 nc4 ng4 g0 g82
    obtain ⟨f41, f42, f43, f44, f45, f46, f47, f48, f49, f4a⟩ := g0
    refine hT.mono (by omega) f41 f42 (fun i hi => by rw [f45 i hi, f2 _ (by omega) (by omega) (by omega) (by omega)]) (fun i hi => by rw [f46 i hi, f2 _ (by omega) (by omega) (by omega) (by omega)]) (fun i hi => by rw [f47 i hi, f2 _ (by omega) (by omega) (by omega) (by omega)]) (fun i hi => ?_)
    obtain ⟨y1, y2, y3, y4⟩ := f48 i hi
    exact ⟨by rw [y1, f2 _ (by omega) (by omega) (by omega) (by omega)], by rw [y2, f2 _ (by omega) (by omega) (by omega) (by omega)], by rw [y3, f2 _ (by omega) (by omega) (by omega) (by omega)], by rw [y4, f2 _ (by omega) (by omega) (by omega) (by omega)], g82 i hi⟩
  have hFB : ∀ v, FrG σ2 (upS σ3 6412 v) nc nc3 ng ng := fun v => by
    obtain ⟨q1, q2, q3, q4, q5, q6, q7⟩ := e6
    exact ⟨q1, Nat.le_refl _, by rw [upS_1, if_neg (by omega), q2], by rw [upS_1, if_neg (by omega), q7 _ (by omega) (by omega), f1 _ (by omega) (by omega) (by omega) (by omega), k3], q3, q4, q5, fun i hi => ⟨by rw [upS_2, q6 _ (by omega) (by omega) (by omega) (by omega)], by rw [upS_2, q6 _ (by omega) (by omega) (by omega) (by omega)], by rw [upS_2, q6 _ (by omega) (by omega) (by omega) (by omega)], by rw [upS_2, q6 _ (by omega) (by omega) (by omega) (by omega)]⟩, fun k a b c d _ => by rw [upS_2, q6 k a b c d], fun j a b c => by rw [upS_1, if_neg a, q7 j a b]⟩
  have h82 : ∀ i, σ3.2 82 i = σ.2 82 i := fun i => by rw [e6.2.2.2.2.2.1 82 (by omega) (by omega) (by omega) (by omega), f2 _ (by omega) (by omega) (by omega) (by omega)]
  have h6e := w6 (pT tx 6 0).2.1
  rcases hgo with ⟨c1, c2⟩ | ⟨c1, c2, c3, c4⟩
  · have h0 := hz0 _ (Nat.le_of_eq c1.symm)
    rw [if_neg (zeqN (by omega) (by omega) (by omega) (by omega) (by omega))]
    have hFB3 : FrG σ2 σ3 nc nc3 ng ng := by
      obtain ⟨q1, q2, q3, q4, q5, q6, q7⟩ := e6
      exact ⟨q1, Nat.le_refl _, q2, by rw [q7 _ (by omega) (by omega), f1 _ (by omega) (by omega) (by omega) (by omega), k3], q3, q4, q5, fun i hi => ⟨by rw [q6 _ (by omega) (by omega) (by omega) (by omega)], by rw [q6 _ (by omega) (by omega) (by omega) (by omega)], by rw [q6 _ (by omega) (by omega) (by omega) (by omega)], by rw [q6 _ (by omega) (by omega) (by omega) (by omega)]⟩, fun k a b c d _ => by rw [q6 k a b c d], fun j a b c => by rw [q7 j a b]⟩
    refine fin σ3 nc3 ng behind hFB3 (fun i _ => h82 i) (Nat.le_refl _) (by omega) (by omega) e4 ?_
    have : clGoals (tx, n, gs) nv lvl = [] := by
      unfold clGoals
      rw [c2]
      rfl
    rw [this, List.nil_append]
    exact hrest σ3 nc3 ng hFB3 (fun i _ => h82 i)
  · rw [if_pos (by rw [c2]), zadd]
    obtain ⟨σ4, hσ4⟩ : ∃ σ4, σ4 = upS σ3 6412 (Int32.ofInt ((48 * c + (pT tx 6 0).2.1 : Nat) + 1 : Int)) := ⟨_, rfl⟩
    have hFB4 := hFB (Int32.ofInt ((48 * c + (pT tx 6 0).2.1 : Nat) + 1 : Int))
    rw [← hσ4] at hFB4 ⊢
    have s42 : σ4.2 = σ3.2 := by rw [hσ4]; rfl
    have hB4 : BP0 σ4 (48 * c) n nv (nv + rnk tx n 26) tx ((pT tx 6 0).2.1 + 1) nc3 := ⟨hT3.congr (by rw [hσ4, upS_1, if_neg (by omega)]) (by rw [s42]), fun p' hp' hc' => by rw [s42, e6.2.2.2.2.2.1 70 (by omega) (by omega) (by omega) (by omega)]; exact hmap p' hp' hc', by rw [hσ4, upS_1, if_pos rfl]; rfl, hFB4.2.2.1, Nat.le_refl _, by omega⟩
    obtain ⟨σ5, nc5, ng5, g1, g2, g3, g4, g5, g6, g7⟩ := goals_t (behind := Int32.ofInt behind) hlv 48 ((pT tx 6 0).2.1 + 1) nc3 ng (qF - 1) (-1) (-1) σ4 c3 hB4 hFB4.2.2.2.1 (by omega) (by omega) (Or.inl (by omega)) (by unfold qF; omega)
    unfold m_buildGoals_142
    rw [show qF = qF - 1 + 1 from rfl, g1, Option.bind_some, show qF - 1 + 1 = qF from rfl]
    dsimp only
    have h825 : ∀ i, i < ng → σ5.2 82 i = σ.2 82 i := fun i hi => by rw [g6 i hi, if_neg (by omega), s42, h82 i]
    have fr5 := hFB4.trans g7
    have hr5 := hrest σ5 nc5 ng5 fr5 h825
    have hg2 : clGoals (tx, n, gs) nv lvl = (pGs tx n 48 ((pT tx 6 0).2.1 + 1)).2.2.map (mkG tx n nv lvl) := by
      unfold clGoals
      rw [c4]
      rfl
    rw [if_neg (by omega)]
    refine fin σ5 nc5 ng5 ng fr5 h825 g7.1 (by omega) (by omega) ?_ ?_
    · refine e4.mono (Nat.le_refl _) g7.1 (fun i hi => ?_) (fun i hi => ?_) (fun i hi => ?_)
      · rw [g7.2.2.2.2.1 i hi, s42]
      · rw [g7.2.2.2.2.2.1 i hi, s42]
      · rw [g7.2.2.2.2.2.2.1 i hi, s42]
    · rw [hg2]
      exact GL.rtm hr5 g5 (by simpa using (pGs_ne _ _ c3).1) (by rw [List.length_map]; omega)
