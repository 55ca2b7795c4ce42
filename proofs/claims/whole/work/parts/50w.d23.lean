/-! D23: the class's SLEEP -/
theorem wJoin_wa {W : Wc} {v : Nat} {a z : Int} : (wJoin W v a z).2.2.2.2 = W.2.2.2.2 := by
  unfold wJoin
  split
  · rfl
  · split <;> rfl
set_option maxHeartbeats 2000000 in
theorem sleep_ok [Pg] {σ : qC} {cls : List Cl} {s bn na nc n e m : Nat} {st : Sto} {rest : List Go} {ch : List Ch} {W : Wc} {t : List Ec} {X Y : Tr} (h : CP1 σ cls s bn st rest ch W t na nc) (hn : n < 624) (hX : CTx (σ.2 28) st.1 n e X) (hm : σ.2 28 (9 * n + 6) = Int32.ofInt m) (hY : CTx (σ.2 28) st.1 m e Y) (hm5 : σ.2 28 (9 * m + 5) = Int32.ofInt 40) (hm7 : σ.2 28 (9 * m + 7) = Int32.ofInt (-1)) (hvm : pgv m) :
    ∃ σ', c_doSleep_74 (Int32.ofInt n) (Int32.ofInt e) σ = some (1, σ') ∧ CS σ' cls (if lab (fnd (st.1 + 1) st.2.1.1 X) < 0 then (s, bn, (st.1, uJoin (st.2.1.1, st.2.1.2.1, st.2.1.2.2.1, gup st.2.1.2.2.2.1 st.2.2.1 (-1), st.2.1.2.2.2.2) (vnum (fnd (st.1 + 1) st.2.1.1 X)) st.2.2.1 st.2.2.1 [st.2.2.1], st.2.2.1 + 1, gup st.2.2.2.1 st.2.2.1 Y, st.2.2.2.2), rest, ch) else (s, bn, st, (1, Y, Y, 0) :: rest, ch)) := by
  unfold c_doSleep_74
  rw [f56]
  obtain ⟨σ1, q1, q2, q3, q4, n1, e1, q5, q6, q7, q8, q9⟩ := h.fnd (K := 5600) (Or.inl rfl) hX
  rw [q1, Option.bind_some, rd_right hn, q3, hm, q7]
  obtain ⟨a1, a2, a3, ⟨⟨d1, d2, d3, d4, d5⟩, d6⟩, ⟨k1, k2, k3, k4, k5, w, k6, k7⟩, a6, a7, a8, a9⟩ := q2
  rw [← q3] at hY hm5 hm7
  generalize hR : fnd (st.1 + 1) st.2.1.1 X = R at *
  have hcw := a2.2.2.2.2.2
  by_cases hl : lab R < 0
  · obtain ⟨hv1, hv2⟩ := q9 hl
    unfold vnI
    rw [if_pos hl, if_neg (zeqN (by omega) (by omega) (by omega) (by omega) (by omega)), if_pos hl]
    obtain ⟨nv, u, ns, sg, ap⟩ := st
    obtain ⟨b1, b2, b3, b4, b5, b6, b7, b8, L, R', b9, b10⟩ := a3
    obtain ⟨c1, c2, c3, ⟨c4, c5, c6, c7⟩, c8, c9⟩ := a2
    dsimp only at *
    unfold c_putToSleep_76
    rw [tappI (n := ns) c5 (by omega) (by omega), Option.bind_some, c5]
    obtain ⟨σ2, hσ2⟩ : ∃ σ2, σ2 = upS (tap4 σ1 38 (ns * 4) (Int32.ofInt m) (Int32.ofInt e) (Int32.ofInt (-1)) (Int32.ofInt (-1))) (100 * 38 + 2) (Int32.ofInt ((ns : Int) + 1)) := ⟨_, rfl⟩
    rw [← hσ2]
    have f1 : ∀ j, j ≠ 3802 → σ2.1 j = σ1.1 j := fun j hj => by rw [hσ2, upS_1, if_neg (by omega)]; rfl
    have f2 : ∀ k, k ≠ 38 → σ2.2 k = σ1.2 k := fun k hk => by rw [hσ2, upS_2, tap4_2, if_neg hk]
    have f38 : σ2.2 38 = fup (fup (fup (fup (σ1.2 38) (ns * 4) (Int32.ofInt m)) (ns * 4 + 1) (Int32.ofInt e)) (ns * 4 + 2) (Int32.ofInt (-1))) (ns * 4 + 3) (Int32.ofInt (-1)) := by rw [hσ2, upS_2, tap4_2, if_pos rfl]
    have f38o : ∀ k, k < 4 * ns → σ2.2 38 k = σ1.2 38 k := fun k hk => by rw [f38, fup_at, if_neg (by omega), fup_at, if_neg (by omega), fup_at, if_neg (by omega), fup_at, if_neg (by omega)]
    have f3802 : σ2.1 3802 = Int32.ofInt ((ns + 1 : Nat) : Int) := by rw [hσ2, upS_1, if_pos (by omega)]; rfl
    have hnx : u.2.2.2.1 ns = -1 := b4.2.2.2.2.2.2 ns (Nat.le_refl _)
    have hC2 : CW σ2 W t nv (ns + 1) na := by
      refine ⟨by rw [f2 _ (by omega)]; exact c1, fun k hk => ?_, by rw [f2 _ (by omega)]; exact c3, ⟨by rw [f1 _ (by omega), c4], f3802, by rw [f1 _ (by omega), c6], by rw [f1 _ (by omega), c7]⟩, by rw [f2 _ (by omega)]; exact c8, by omega⟩
      by_cases hlt : k < ns
      · rw [f38o _ (by omega)]
        exact c2 k hlt
      · have : k = ns := by omega
        subst this
        rw [b1.2.2.2, hnx, f38, fup_at, if_neg (by omega), fup_at, if_pos (by omega)]
    have tv := b4.tail hv2
    obtain ⟨σ3, t3, j1, j2, j3, j4, j5, j6, j7⟩ := join_ok (v := vnum R) (a := ns) (z := ns) hC2 hv1 (by omega) (by omega) (by
      rw [b1.2.1, b1.2.2.1, b1.2.2.2]
      rcases tv with ⟨z1, z2, -⟩ | ⟨z1, z2, -, -, z3, -⟩
      · exact Or.inl ⟨z1, z2⟩
      · exact Or.inr ⟨z1, by omega, z3⟩) (by omega)
    rw [j1, Option.bind_some, Option.bind_some]
    have e28 : σ3.2 28 = σ1.2 28 := by rw [j3 28 (by omega) (by omega) (by omega), f2 28 (by omega)]
    have g2 : ∀ k, k ≠ 42 → k ≠ 36 → k ≠ 38 → σ3.2 k = σ1.2 k := fun k x1 x2 x3 => by rw [j3 k x1 x2 x3, f2 k x3]
    have g1 : ∀ j, j ≠ 4202 → j ≠ 3802 → σ3.1 j = σ1.1 j := fun j x1 x2 => by rw [j5 j x1, f1 j x2]
    have g38 : ∀ k, k < 4 * ns → k % 4 ≠ 2 → σ3.2 38 k = σ1.2 38 k := fun k x1 x2 => by rw [j4 k x2, f38o k x1]
    have hgn : gup u.2.2.2.1 ns (-1) = u.2.2.2.1 := gup_self hnx
    have hS' := b4.sleep hv2 hv1 b5
    have hp' := pot_sleep b4 hv2 hv1
    have hb' := uJoin_b (u := (u.1, u.2.1, u.2.2.1, gup u.2.2.2.1 ns (-1), u.2.2.2.2)) (v := vnum R) (a := ns) (z := ns) (l := [ns])
    have hWU : WU (σ3.2 28) nv (wJoin W (vnum R) ns ns) (uJoin (u.1, u.2.1, u.2.2.1, gup u.2.2.2.1 ns (-1), u.2.2.2.2) (vnum R) ns ns [ns]) := by
      rw [e28]
      have hn0 : ¬ (ns : Int) < 0 := by omega
      unfold wJoin
      rw [if_neg hn0]
      by_cases k2 : u.2.2.1 (vnum R) < 0
      · have eJ : uJoin (u.1, u.2.1, u.2.2.1, gup u.2.2.2.1 ns (-1), u.2.2.2.2) (vnum R) ns ns [ns] = (u.1, gup u.2.1 (vnum R) ns, gup u.2.2.1 (vnum R) ns, gup u.2.2.2.1 ns (-1), gup u.2.2.2.2.1 (vnum R) [ns], u.2.2.2.2.2) := (if_neg hn0).trans (if_pos k2)
        rw [eJ, if_pos (by rw [b1.2.2.1]; exact k2)]
        refine ⟨b1.1, ?_, ?_, ?_⟩
        · dsimp only
          rw [b1.2.1]
        · dsimp only
          rw [b1.2.2.1]
        · dsimp only
          rw [b1.2.2.2, hgn]
      · have eJ : uJoin (u.1, u.2.1, u.2.2.1, gup u.2.2.2.1 ns (-1), u.2.2.2.2) (vnum R) ns ns [ns] = (u.1, u.2.1, gup u.2.2.1 (vnum R) ns, gup (gup u.2.2.2.1 ns (-1)) (u.2.2.1 (vnum R)).toNat ns, gup u.2.2.2.2.1 (vnum R) (u.2.2.2.2.1 (vnum R) ++ [ns]), u.2.2.2.2.2) := (if_neg hn0).trans (if_neg k2)
        rw [eJ, if_neg (by rw [b1.2.2.1]; exact k2)]
        refine ⟨b1.1, b1.2.1, ?_, ?_⟩
        · dsimp only
          rw [b1.2.2.1]
        · dsimp only
          rw [b1.2.2.1, b1.2.2.2, hgn]
    have hEV : EV t3 nv (ns + 1) na := by
      rcases j7 with z | z
      · rw [z]
        exact b2.mono (Nat.le_refl _) (by omega) (Nat.le_refl _)
      · rw [z]
        intro y hy
        rcases List.mem_cons.mp hy with rfl | hy
        · refine ⟨(fun q => by cases q), (fun _ => ⟨hv1, ?_⟩), (fun q => by cases q)⟩
          dsimp only
          rw [b1.2.2.1]
          omega
        · exact (b2.mono (Nat.le_refl _) (by omega) (Nat.le_refl _)) y hy
    have htl : t3.length ≤ t.length + 1 := by
      rcases j7 with z | z <;> rw [z] <;> simp
    obtain ⟨x, x1, x2⟩ := a6
    refine ⟨σ3, rfl, wJoin W (vnum R) ns ns, t3, na, nc, a1.congr e28 (g2 _ (by omega) (by omega) (by omega)) (g2 _ (by omega) (by omega) (by omega)) (g1 _ (by omega) (by omega)), j2, ⟨hWU, hEV, by rw [hb'.1]; exact b3, hS', by rw [hb'.2]; exact b5, ?_, ?_, fun z hz => ?_, L, R', fun a ha => (b9 a ha).congr (Nat.le_refl _) e28 (by rw [g2 40 (by omega) (by omega) (by omega)]) (by rw [g2 40 (by omega) (by omega) (by omega)]), ?_⟩, ⟨by dsimp only; omega, by dsimp only; omega, by dsimp only; omega, by dsimp only; omega, by dsimp only; omega⟩, ⟨by rw [g1 _ (by omega) (by omega), k1], by rw [g1 _ (by omega) (by omega), k2], by rw [g1 _ (by omega) (by omega), k3]; rfl, by rw [g1 _ (by omega) (by omega), k4], by rw [g1 _ (by omega) (by omega), k5], w, by rw [g1 _ (by omega) (by omega), k6], k7⟩, trivial, ⟨x, by rw [g1 _ (by omega) (by omega), x1], by rw [e28, g2 52 (by omega) (by omega) (by omega)]; exact x2⟩, ?_, a8, by dsimp only; omega⟩
    · intro a
      rw [wJoin_wa]
      exact b6 a
    · rw [wJoin_wa]
      exact b7
    · dsimp only at hz ⊢
      rw [gup_at]
      by_cases hlt : z = ns
      · rw [if_pos hlt, hlt]
        refine ⟨m, e, ⟨hY.cases.1, hvm⟩, ?_, ?_, by rw [e28]; exact hY, by rw [e28, hm5], by rw [e28, hm7]⟩
        · rw [j4 _ (by omega), f38, fup_at, if_neg (by omega), fup_at, if_neg (by omega), fup_at, if_neg (by omega), fup_at, if_pos (by omega)]
        · rw [j4 _ (by omega), f38, fup_at, if_neg (by omega), fup_at, if_neg (by omega), fup_at, if_pos (by omega)]
      · rw [if_neg hlt]
        exact (b8 z (by omega)).congr (Nat.le_refl _) e28 (g38 _ (by omega) (by omega)) (g38 _ (by omega) (by omega))
    · rw [wJoin_wa]
      exact b10
    · exact ((a7.congr e28 (fun k y1 y2 => g38 k y1 y2) (fun k _ _ => by rw [g2 40 (by omega) (by omega) (by omega)]) (fun k _ => by rw [g2 52 (by omega) (by omega) (by omega)]) (fun k _ => by rw [g2 54 (by omega) (by omega) (by omega)])).mono (Nat.le_refl _) (Nat.le_refl _) (Nat.le_succ _) (Nat.le_refl _) (Nat.le_refl _)).und j6
  · unfold vnI
    rw [if_neg hl, if_pos rfl, if_neg hl]
    obtain ⟨σ2, p1, p2, p3, p4, p5, p6⟩ := front_ok a6 k4 (by omega) ⟨hY.cases.1, hvm⟩ hY hm5 hm7
    rw [p1, Option.bind_some]
    have e28 := p4 28 (by omega)
    refine ⟨σ2, rfl, W, t, na, nc + 1, a1.congr e28 (p4 _ (by omega)) (p4 _ (by omega)) (p6 _ (by omega) (by omega)), a2.congr (p4 _ (by omega)) (p4 _ (by omega)) (p4 _ (by omega)) (p4 _ (by omega)) (p6 _ (by omega) (by omega)) (p6 _ (by omega) (by omega)) (p6 _ (by omega) (by omega)) (p6 _ (by omega) (by omega)), a3.congr e28 (fun k _ _ => by rw [p4 38 (by omega)]) (fun k _ _ => by rw [p4 40 (by omega)]), ⟨by (try dsimp only); omega, by (try dsimp only); omega, by (try dsimp only); omega, by omega, by omega⟩, ⟨by rw [p6 _ (by omega) (by omega), k1], by rw [p6 _ (by omega) (by omega), k2], by rw [p6 _ (by omega) (by omega), k3]; rfl, p3, by rw [p6 _ (by omega) (by omega), k5], w, by rw [p6 _ (by omega) (by omega), k6], k7⟩, trivial, p2, ?_, a8, by dsimp only; omega⟩
    exact (a7.congr e28 (fun k _ _ => by rw [p4 38 (by omega)]) (fun k _ _ => by rw [p4 40 (by omega)]) p5 (fun k _ => by rw [p4 54 (by omega)])).mono (Nat.le_refl _) (Nat.le_refl _) (Nat.le_refl _) (Nat.le_refl _) (by omega)
