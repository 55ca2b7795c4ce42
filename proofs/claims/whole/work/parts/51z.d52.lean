/-! D52: the reference performs a goal; goes back to the newest choice -/
theorem bool01 (b : Prop) [Decidable b] : (Int32.ofInt (if b then 1 else 0) = 0 ∨ Int32.ofInt (if b then 1 else 0) = 1) := by
  split
  · exact Or.inr rfl
  · exact Or.inl rfl
theorem MP1.cut {σ : qC} {cls : List Cl} {s bn na nc ng k c : Nat} {st : Sto} {rest : List Go} {ch : List Ch} {W : Wm} {t : List Em} {behind : Int} (h : MP1 σ cls s bn st rest ch W t na nc ng behind) (hc : c = (ch.drop k).length) : MP1 (upS σ 6433 (Int32.ofInt c)) cls s bn st rest (ch.drop k) W t na nc ng behind := by
  obtain ⟨a1, ⟨m1, m2, m3, m4, ⟨m5, m6, m7⟩, m8, m9⟩, a3, d, ⟨k1, k2, k3, k4⟩, a6, a7, a8⟩ := h
  have e1 : ∀ j, j ≠ 6433 → (upS σ 6433 (Int32.ofInt c)).1 j = σ.1 j := fun j hj => by rw [upS_1, if_neg hj]
  have hl : (ch.drop k).length ≤ ch.length := by rw [List.length_drop]; omega
  refine ⟨a1.congr (e1 _ (by omega)) rfl rfl, ⟨m1.congr (fun _ _ => rfl) (fun j hj => e1 j (by omega)), m2, m3, m4, ⟨by rw [e1 _ (by omega)]; exact m5, by rw [e1 _ (by omega)]; exact m6, by rw [e1 _ (by omega)]; exact m7⟩, m8, m9⟩, a3, d, ⟨by rw [e1 _ (by omega)]; exact k1, by rw [e1 _ (by omega)]; exact k2, by rw [e1 _ (by omega)]; exact k3, by rw [upS_1, if_pos rfl, hc]⟩, ?_, ?_, by omega⟩
  · exact RTM.mono (σ := σ) (σ' := upS σ 6433 (Int32.ofInt c)) (Nat.le_refl _) (Nat.le_refl _) (Nat.le_refl _) (fun _ _ => rfl) (fun _ _ => rfl) (fun _ _ => rfl) (fun _ _ => ⟨rfl, rfl, rfl, rfl, rfl⟩) a6
  · exact SnM.congr (σ := σ) (σ' := upS σ 6433 (Int32.ofInt c)) (a7.drop k) (fun _ _ => rfl) (fun _ _ => rfl) (fun _ _ => rfl) (fun _ _ => rfl) (fun _ _ => ⟨rfl, rfl⟩) (fun _ _ => ⟨rfl, rfl, rfl, rfl, rfl⟩) (fun _ _ _ _ _ => rfl)
set_option maxHeartbeats 4000000 in
theorem perform_m {σ : qC} {cls : List Cl} {s bn na nc ng : Nat} {st : Sto} {g : Go} {rest : List Go} {ch : List Ch} {W : Wm} {t : List Em} {gi : Nat} {x y g' : Int} (h : MP1 σ cls s bn st rest ch W t na nc ng g') (hgi : gi < ng) (hg : σ.2 78 gi = Int32.ofInt g.1 ∧ g.1 ≤ 5 ∧ σ.2 79 gi = Int32.ofInt x ∧ σ.2 80 gi = Int32.ofInt y ∧ σ.2 81 gi = Int32.ofInt g.2.2.2 ∧ g.2.2.2 ≤ 20000 ∧ σ.2 82 gi = Int32.ofInt g') (hX : g.1 ≠ 0 → MTx (σ.2 72) (σ.2 73) (σ.2 74) st.1 nc x g.2.1) (hY : 2 ≤ g.1 → MTx (σ.2 72) (σ.2 73) (σ.2 74) st.1 nc y g.2.2.1) (hcall : g.1 = 1 → ¬ lab g.2.1 < 0) :
    ∃ σ', m_perform_163 (Int32.ofInt gi) σ = some (Int32.ofInt (if (aDo cls g (s, bn, st, rest, ch)).1 = 0 then 1 else 0), σ') ∧ MR σ' cls (aDo cls g (s, bn, st, rest, ch)) := by
  obtain ⟨kd, X, Y, lvl⟩ := g
  obtain ⟨nv, u, ns, sg, ap⟩ := st
  obtain ⟨g1, g2, g3, g4, g5, g6, g7⟩ := hg
  have hng : ng < 14000 := by
    obtain ⟨-, hB, -, ⟨hd, -⟩, -⟩ := h
    obtain ⟨d1, d2, d3, -⟩ := hd
    have := hB.2.2.2.2.2.2
    omega
  dsimp only at *
  unfold m_perform_163
  rw [agetI (i := gi) rfl (by omega) (by omega), Option.bind_some, agetI (i := gi) rfl (by omega) (by omega), Option.bind_some, agetI (i := gi) rfl (by omega) (by omega), Option.bind_some, agetI (i := gi) rfl (by omega) (by omega), Option.bind_some, g7, g3, g4, g1, agetI (i := gi) rfl (by omega) (by omega), Option.bind_some, g5]
  have nk : ∀ j : Int, 0 ≤ j ∧ j ≤ 5 → (kd : Int) ≠ j → ¬ Int32.ofInt (kd : Int) = Int32.ofInt j := fun j hj hk => zeqN hk (by omega) (by omega) (by omega) (by omega)
  by_cases k0 : kd = 0
  · subst k0
    have e : aDo cls (0, X, Y, lvl) (s, bn, (nv, u, ns, sg, ap), rest, ch) = (0, (s, bn, (nv, u, ns, sg, ap), rest, ch.drop (ch.length - lvl))) := rfl
    rw [e, if_pos rfl]
    have hch := h.2.2.2.2.1.2.2.2
    have hcl := h.2.2.2.2.2.2.2
    have hs5 := h.2.1.2.2.2.2.2.2
    rw [hch]
    dsimp only [qlet]
    by_cases hle : ch.length ≤ lvl
    · rw [if_pos (zleP (by omega) (by omega) (by omega) (by omega) (by omega)), show ch.length - lvl = 0 by omega, List.drop_zero]
      exact ⟨_, rfl, Or.inl ⟨rfl, h.done⟩⟩
    · rw [if_neg (zleN (by omega) (by omega) (by omega) (by omega) (by omega)), Option.bind_some]
      exact ⟨_, rfl, Or.inl ⟨rfl, (h.cut (k := ch.length - lvl) (c := lvl) (by rw [List.length_drop]; omega)).done⟩⟩
  rw [if_neg (nk 0 (by omega) (by omega))]
  by_cases k1 : kd = 1
  · subst k1
    rw [if_pos (show Int32.ofInt ((1 : Nat) : Int) = Int32.ofInt 1 from rfl)]
    obtain ⟨σ', p1, p2⟩ := call_m h (hX (by omega)) (hcall rfl) (aDo cls (1, X, Y, lvl) (s, bn, (nv, u, ns, sg, ap), rest, ch)) rfl
    rw [p1, Option.bind_some, if_pos (bool01 _)]
    exact ⟨σ', rfl, p2⟩
  rw [if_neg (nk 1 (by omega) (by omega))]
  by_cases k2 : kd = 2
  · subst k2
    rw [if_pos (show Int32.ofInt ((2 : Nat) : Int) = Int32.ofInt 2 from rfl)]
    have e : aDo cls (2, X, Y, lvl) (s, bn, (nv, u, ns, sg, ap), rest, ch) = aSame (s, bn, (nv, u, ns, sg, ap), rest, ch) [(X, Y)] rest := rfl
    rw [e]
    obtain ⟨a1, ⟨m1, m2, m3, m4, ⟨m5, m6, m7⟩, m8, m9⟩, a3, ⟨⟨d1, d2, d3, d4, d5, d6⟩, d7⟩, ⟨kk1, kk2, kk3, kk4⟩, a6, a7, a8⟩ := h
    dsimp only at d1 d2 d3 d4 d5 d6
    dsimp only [qlet]
    obtain ⟨σ1, hσ1⟩ : ∃ σ1, σ1 = upS σ 6436 (Int32.ofInt 0) := ⟨_, rfl⟩
    rw [← hσ1]
    have s1 : ∀ j, j ≠ 6436 → σ1.1 j = σ.1 j := fun j hj => by rw [hσ1, upS_1, if_neg hj]
    have s2 : σ1.2 = σ.2 := by rw [hσ1]; rfl
    obtain ⟨σ2, p1, p2, p3, p4, p5⟩ := pair_ok (σ := σ1) (nv := nv) (nc := nc) (ps := []) (x := x) (y := y) (X := X) (Y := Y) trivial (by rw [hσ1, upS_1, if_pos rfl]; rfl) (by simp) (by rw [s2]; exact hX (by omega)) (by rw [s2]; exact hY (by omega))
    rw [p1, Option.bind_some]
    have t1 : ∀ j, j ≠ 6436 → σ2.1 j = σ.1 j := fun j hj => by rw [p5 j hj, s1 j hj]
    have t2 : ∀ k, k ≠ 90 → k ≠ 91 → σ2.2 k = σ.2 k := fun k ha hb => by rw [p4 k ha hb, s2]
    have e72 := t2 72 (by omega) (by omega)
    have e73 := t2 73 (by omega) (by omega)
    have e74 := t2 74 (by omega) (by omega)
    have e78 : ∀ i, σ2.2 78 i = σ.2 78 i ∧ σ2.2 79 i = σ.2 79 i ∧ σ2.2 80 i = σ.2 80 i ∧ σ2.2 81 i = σ.2 81 i ∧ σ2.2 82 i = σ.2 82 i := fun i => ⟨by rw [t2 78 (by omega) (by omega)], by rw [t2 79 (by omega) (by omega)], by rw [t2 80 (by omega) (by omega)], by rw [t2 81 (by omega) (by omega)], by rw [t2 82 (by omega) (by omega)]⟩
    obtain ⟨σ', q1, q2⟩ := unify_m (σ := σ2) (cls := cls) (s := s) (bn := bn) (na := na) (nc := nc) (ng := ng) (st := (nv, u, ns, sg, ap)) (rest := rest) (td0 := rest) (ch := ch) (W := W) (t := t) (ps := [(X, Y)]) (behind := g')
      (a1.congr (t1 _ (by omega)) (t2 _ (by omega) (by omega)) (t2 _ (by omega) (by omega)))
      ⟨m1.congr (fun k hk => t2 k (by omega) (by omega)) (fun j hj => t1 j (by omega)), m2.congr (Nat.le_refl _) (Nat.le_refl _) (fun _ _ => by rw [e72]) (fun _ _ => by rw [e73]) (fun _ _ => by rw [e74]), m3, m4, ⟨by rw [t1 _ (by omega), m5], by rw [t1 _ (by omega), m6], by rw [t1 _ (by omega), m7]⟩, m8, m9⟩
      (a3.congr (fun _ _ => by rw [e72]) (fun _ _ => by rw [e73]) (fun _ _ => by rw [e74]) (fun _ _ => by rw [t2 85 (by omega) (by omega)]) (fun _ _ => ⟨by rw [t2 87 (by omega) (by omega)], by rw [t2 88 (by omega) (by omega)]⟩))
      ⟨by (try dsimp only); omega, by (try dsimp only); omega, by (try dsimp only); omega, by (try dsimp only); omega, by (try dsimp only); omega, by (try dsimp only); omega⟩
      (by rw [t1 _ (by omega), kk1]) (by rw [t1 _ (by omega), kk2]) (by rw [t1 _ (by omega), kk3]) (by rw [t1 _ (by omega), kk4]) p2 p3 (by simp)
      (a6.mono (Nat.le_refl _) (Nat.le_refl _) (Nat.le_refl _) (fun _ _ => by rw [e72]) (fun _ _ => by rw [e73]) (fun _ _ => by rw [e74]) (fun i _ => e78 i))
      (a7.congr (fun _ _ => by rw [e72]) (fun _ _ => by rw [e73]) (fun _ _ => by rw [e74]) (fun _ _ => by rw [t2 85 (by omega) (by omega)]) (fun _ _ => ⟨by rw [t2 87 (by omega) (by omega)], by rw [t2 88 (by omega) (by omega)]⟩) (fun i _ => e78 i) (fun k i ha hb hi => by rw [t2 k (by omega) (by omega)]))
      (by omega)
    rw [q1, Option.bind_some, if_pos (bool01 _)]
    exact ⟨σ', rfl, q2⟩
  rw [if_neg (nk 2 (by omega) (by omega))]
  by_cases k3 : kd = 3
  · subst k3
    rw [if_pos (show Int32.ofInt ((3 : Nat) : Int) = Int32.ofInt 3 from rfl)]
    obtain ⟨σ', p1, p2⟩ := apartM h (hX (by omega)) (hY (by omega)) (aDo cls (3, X, Y, lvl) (s, bn, (nv, u, ns, sg, ap), rest, ch)) rfl
    rw [p1, Option.bind_some, if_pos (bool01 _)]
    exact ⟨σ', rfl, p2⟩
  rw [if_neg (nk 3 (by omega) (by omega))]
  by_cases k4 : kd = 4
  · subst k4
    rw [if_pos (show Int32.ofInt ((4 : Nat) : Int) = Int32.ofInt 4 from rfl)]
    obtain ⟨σ', c, p1, p2, p3⟩ := lessM h (hX (by omega)) (hY (by omega))
    have e : aDo cls (4, X, Y, lvl) (s, bn, (nv, u, ns, sg, ap), rest, ch) = (c, (s, bn, (nv, u, ns, sg, ap), rest, ch)) := p2
    rw [e, p1, Option.bind_some, if_pos (bool01 _)]
    exact ⟨σ', rfl, p3⟩
  rw [if_neg (nk 4 (by omega) (by omega))]
  have k5 : kd = 5 := by omega
  subst k5
  obtain ⟨σ', p1, p2⟩ := sleepM h (hX (by omega)) (hY (by omega))
  rw [p1, Option.bind_some, if_pos (show Int32.ofInt 1 = 0 ∨ Int32.ofInt 1 = 1 from Or.inr rfl)]
  dsimp only at p2
  by_cases hl : lab (fnd (nv + 1) u.1 X) < 0
  · have e : aDo cls (5, X, Y, lvl) (s, bn, (nv, u, ns, sg, ap), rest, ch) = (0, (s, bn, (nv, uJoin (u.1, u.2.1, u.2.2.1, gup u.2.2.2.1 ns (-1), u.2.2.2.2) (vnum (fnd (nv + 1) u.1 X)) ns ns [ns], ns + 1, gup sg ns Y, ap), rest, ch)) := if_pos hl
    rw [if_pos hl] at p2
    rw [e]
    exact ⟨σ', rfl, Or.inl ⟨rfl, p2⟩⟩
  · have e : aDo cls (5, X, Y, lvl) (s, bn, (nv, u, ns, sg, ap), rest, ch) = (0, (s, bn, (nv, u, ns, sg, ap), (1, Y, Y, 0) :: rest, ch)) := if_neg hl
    rw [if_neg hl] at p2
    rw [e]
    exact ⟨σ', rfl, Or.inl ⟨rfl, p2⟩⟩
