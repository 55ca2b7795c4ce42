/-! D41: the reference's SLEEP -/
theorem wmJoin_go {W : Wm} {v : Nat} {a z : Int} : (wmJoin W v a z).2.2.2.2 = W.2.2.2.2 := by
  unfold wmJoin
  split
  · rfl
  · split <;> rfl
set_option maxHeartbeats 2000000 in
theorem sleepM {σ : qC} {cls : List Cl} {s bn na nc ng : Nat} {st : Sto} {rest : List Go} {ch : List Ch} {W : Wm} {t : List Em} {behind x y : Int} {X Y : Tr} (h : MP1 σ cls s bn st rest ch W t na nc ng behind) (hX : MTx (σ.2 72) (σ.2 73) (σ.2 74) st.1 nc x X) (hY : MTx (σ.2 72) (σ.2 73) (σ.2 74) st.1 nc y Y) :
    ∃ σ', m_sleep_167 (Int32.ofInt x) (Int32.ofInt y) (Int32.ofInt behind) σ = some (Int32.ofInt 1, σ') ∧ MS σ' cls (if lab (fnd (st.1 + 1) st.2.1.1 X) < 0 then (s, bn, (st.1, uJoin (st.2.1.1, st.2.1.2.1, st.2.1.2.2.1, gup st.2.1.2.2.2.1 st.2.2.1 (-1), st.2.1.2.2.2.2) (vnum (fnd (st.1 + 1) st.2.1.1 X)) st.2.2.1 st.2.2.1 [st.2.2.1], st.2.2.1 + 1, gup st.2.2.2.1 st.2.2.1 Y, st.2.2.2.2), rest, ch) else (s, bn, st, (1, Y, Y, 0) :: rest, ch)) := by
  obtain ⟨x', v1, v2, v3⟩ := h.val hX
  have rx := v2.rng
  unfold m_sleep_167
  rw [v1, Option.bind_some]
  dsimp only [qlet]
  obtain ⟨a1, ⟨m1, m2, m3, m4, ⟨m5, m6, m7⟩, m8, m9⟩, a3, ⟨⟨d1, d2, d3, d4, d5, d6⟩, d7⟩, ⟨k1, k2, k3, k4⟩, a6, a7, a8⟩ := h
  generalize hR : fnd (st.1 + 1) st.2.1.1 X = R at *
  have h6 := m1.2.2.2.2.2
  have hbl := a6.lt
  by_cases hx0 : x' < 0
  · have lR := rx.2.2.1.mp hx0
    obtain ⟨ev, hvn⟩ := rx.2.2.2 hx0
    have uv := v3 lR
    obtain ⟨nv, u, ns, sg, ap⟩ := st
    obtain ⟨b1, b2, b3, b4, b5, b6, b7, b8, L, R', b9, b10⟩ := a3
    dsimp only at *
    rw [z0, if_pos (zltP hx0 (by omega) (by omega) (by omega) (by omega)), if_pos lR]
    have hns : (upS σ 6429 (Int32.ofInt behind)).1 6434 = Int32.ofInt ns := by rw [upS_1, if_neg (by omega), m1.2.2.2.1.2.1]
    rw [hns, aputI (i := ns) rfl (by omega) (by omega), Option.bind_some, upA_1, hns, aputI (i := ns) rfl (by omega) (by omega), Option.bind_some, upA_1, upA_1, hns, zadd]
    obtain ⟨σ1, hσ1⟩ : ∃ σ1, σ1 = upS (upA (upA (upS σ 6429 (Int32.ofInt behind)) 85 ns (Int32.ofInt y)) 86 ns (Int32.ofInt (-1))) 6434 (Int32.ofInt ((ns : Int) + 1)) := ⟨_, rfl⟩
    rw [← hσ1]
    have f1 : ∀ j, j ≠ 6429 → j ≠ 6434 → σ1.1 j = σ.1 j := fun j a b => by rw [hσ1, upS_1, if_neg b, upA_1, upA_1, upS_1, if_neg a]
    have f2 : ∀ k, k ≠ 85 → k ≠ 86 → σ1.2 k = σ.2 k := fun k a b => by rw [hσ1, upS_2, upA_ne b, upA_ne a]; rfl
    have f85 : ∀ a, σ1.2 85 a = if a = ns then Int32.ofInt y else σ.2 85 a := fun a => by rw [hσ1, upS_2, upA_ne (by omega), upA_eq, fup_at]; rfl
    have f86 : ∀ a, σ1.2 86 a = if a = ns then Int32.ofInt (-1) else σ.2 86 a := fun a => by rw [hσ1, upS_2, upA_eq, fup_at, upA_ne (by omega)]; rfl
    have f6434 : σ1.1 6434 = Int32.ofInt ((ns + 1 : Nat) : Int) := by rw [hσ1, upS_1, if_pos rfl]; rfl
    have f6429 : σ1.1 6429 = Int32.ofInt behind := by rw [hσ1, upS_1, if_neg (by omega), upA_1, upA_1, upS_1, if_pos rfl]
    have hnx : u.2.2.2.1 ns = -1 := b4.2.2.2.2.2.2 ns (Nat.le_refl _)
    have hW1 : MW σ1 W t nv (ns + 1) na := by
      obtain ⟨e1, e2, e3, e4, e5, e6⟩ := m1
      refine ⟨by rw [f2 75 (by omega) (by omega), f2 76 (by omega) (by omega), f2 77 (by omega) (by omega)]; exact e1, fun k hk => ?_, by rw [f2 89 (by omega) (by omega)]; exact e3, ⟨by rw [f1 _ (by omega) (by omega)]; exact e4.1, f6434, by rw [f1 _ (by omega) (by omega)]; exact e4.2.2.1, by rw [f1 _ (by omega) (by omega)]; exact e4.2.2.2⟩, by rw [f2 83 (by omega) (by omega), f2 84 (by omega) (by omega)]; exact e5, by omega⟩
      rw [f86]
      by_cases e : k = ns
      · rw [if_pos e, e, m2.2.2.2, hnx]
      · rw [if_neg e]
        exact e2 k (by omega)
    have tv := b4.tail uv
    rw [f6434, zsub, zsub, show ((ns + 1 : Nat) : Int) - 1 = (ns : Nat) by omega]
    obtain ⟨σ2, t2, p1, p2, p3, p4, p5, p6, p7, p8⟩ := follow_ok (v := vnum R) (i := -1 - x') (a := (ns : Int)) (z := (ns : Int)) hW1 (by omega) hvn (by omega) (by omega) (by
      rw [m2.2.1, m2.2.2.1]
      rcases tv with ⟨z1, z2, -⟩ | ⟨z1, z2, z3, z4, -⟩
      · exact Or.inl ⟨z1, z2⟩
      · exact Or.inr ⟨z1, by omega, z3, by omega⟩) (by omega)
    rw [p1, Option.bind_some]
    have g2 : ∀ k, k ≠ 85 → k ≠ 86 → k ≠ 83 → k ≠ 84 → k ≠ 76 → k ≠ 77 → σ2.2 k = σ.2 k := fun k a b c d e f => by rw [p6 k c d e f b, f2 k a b]
    have g1 : ∀ j, j ≠ 6429 → j ≠ 6434 → j ≠ 6432 → σ2.1 j = σ.1 j := fun j a b c => by rw [p7 j c, f1 j a b]
    have g72 := g2 72 (by omega) (by omega) (by omega) (by omega) (by omega) (by omega)
    have g73 := g2 73 (by omega) (by omega) (by omega) (by omega) (by omega) (by omega)
    have g74 := g2 74 (by omega) (by omega) (by omega) (by omega) (by omega) (by omega)
    have g85 : ∀ a, σ2.2 85 a = if a = ns then Int32.ofInt y else σ.2 85 a := fun a => by rw [p6 85 (by omega) (by omega) (by omega) (by omega) (by omega), f85]
    have hgn : gup u.2.2.2.1 ns (-1) = u.2.2.2.1 := gup_self hnx
    have hS' := b4.sleep uv hvn b5
    have hp' := pot_sleep b4 uv hvn
    have hb' := uJoin_b (u := (u.1, u.2.1, u.2.2.1, gup u.2.2.2.1 ns (-1), u.2.2.2.2)) (v := vnum R) (a := ns) (z := ns) (l := [ns])
    have hWU : WUm σ2 nv nc (wmJoin W (vnum R) ns ns) (uJoin (u.1, u.2.1, u.2.2.1, gup u.2.2.2.1 ns (-1), u.2.2.2.2) (vnum R) ns ns [ns]) := by
      have q := m2.congr (σ' := σ2) (Nat.le_refl nv) (Nat.le_refl nc) (fun i _ => by rw [g72]) (fun i _ => by rw [g73]) (fun i _ => by rw [g74])
      have hn0 : ¬ (ns : Int) < 0 := by omega
      unfold wmJoin
      rw [if_neg hn0]
      by_cases k2 : u.2.2.1 (vnum R) < 0
      · have eJ : uJoin (u.1, u.2.1, u.2.2.1, gup u.2.2.2.1 ns (-1), u.2.2.2.2) (vnum R) ns ns [ns] = (u.1, gup u.2.1 (vnum R) ns, gup u.2.2.1 (vnum R) ns, gup u.2.2.2.1 ns (-1), gup u.2.2.2.2.1 (vnum R) [ns], u.2.2.2.2.2) := (if_neg hn0).trans (if_pos k2)
        rw [eJ, if_pos (by rw [q.2.2.1]; exact k2)]
        refine ⟨q.1, ?_, ?_, ?_⟩
        · dsimp only
          rw [q.2.1]
        · dsimp only
          rw [q.2.2.1]
        · dsimp only
          rw [q.2.2.2, hgn]
      · have eJ : uJoin (u.1, u.2.1, u.2.2.1, gup u.2.2.2.1 ns (-1), u.2.2.2.2) (vnum R) ns ns [ns] = (u.1, u.2.1, gup u.2.2.1 (vnum R) ns, gup (gup u.2.2.2.1 ns (-1)) (u.2.2.1 (vnum R)).toNat ns, gup u.2.2.2.2.1 (vnum R) (u.2.2.2.2.1 (vnum R) ++ [ns]), u.2.2.2.2.2) := (if_neg hn0).trans (if_neg k2)
        rw [eJ, if_neg (by rw [q.2.2.1]; exact k2)]
        refine ⟨q.1, q.2.1, ?_, ?_⟩
        · dsimp only
          rw [q.2.2.1]
        · dsimp only
          rw [q.2.2.1, q.2.2.2, hgn]
    have hEV : EVm t2 nv (ns + 1) na := fun e he => by
      rcases p8 e he with z | z
      · exact (m3.mono (Nat.le_refl _) (Nat.le_succ _) (Nat.le_refl _)) e z
      · exact z
    refine ⟨σ2, rfl, wmJoin W (vnum R) ns ns, t2, na, nc, ng, a1.congr (g1 _ (by omega) (by omega) (by omega)) (g2 _ (by omega) (by omega) (by omega) (by omega) (by omega) (by omega)) (g2 _ (by omega) (by omega) (by omega) (by omega) (by omega) (by omega)), ⟨p2, hWU, hEV, by rw [hb'.1]; exact b3, ⟨by rw [g1 _ (by omega) (by omega) (by omega)]; exact m5, by rw [g1 _ (by omega) (by omega) (by omega)]; exact m6, by rw [g1 _ (by omega) (by omega) (by omega)]; exact m7⟩, m8, m9⟩, ⟨hWU, hEV, by rw [hb'.1]; exact b3, hS', by rw [hb'.2]; exact b5, ?_, ?_, fun e he => ?_, L, R', fun a ha => (b9 a ha).congr g72 g73 g74 (by rw [g2 87 (by omega) (by omega) (by omega) (by omega) (by omega) (by omega)]) (by rw [g2 88 (by omega) (by omega) (by omega) (by omega) (by omega) (by omega)]), ?_⟩, ⟨by dsimp only; omega, by dsimp only; omega, by dsimp only; omega, by dsimp only; omega, by dsimp only; omega, by dsimp only; omega⟩, ⟨by rw [g1 _ (by omega) (by omega) (by omega)]; exact k1, by rw [g1 _ (by omega) (by omega) (by omega)]; exact k2, by rw [g1 _ (by omega) (by omega) (by omega)]; exact k3, by rw [g1 _ (by omega) (by omega) (by omega)]; exact k4⟩, ⟨behind, by rw [p7 _ (by omega), f6429], ?_⟩, ?_, by dsimp only; omega⟩
    · intro a
      rw [wmJoin_go]
      exact b6 a
    · rw [wmJoin_go]
      exact b7
    · dsimp only at he ⊢
      rw [gup_at]
      by_cases e1 : e = ns
      · rw [if_pos e1, e1]
        exact ⟨y, by rw [g85, if_pos rfl], by rw [g72, g73, g74]; exact hY⟩
      · rw [if_neg e1]
        exact (b8 e (by omega)).congr (Nat.le_refl _) (Nat.le_refl _) (fun i _ => by rw [g72]) (fun i _ => by rw [g73]) (fun i _ => by rw [g74]) (by rw [g85, if_neg e1])
    · rw [wmJoin_go]
      exact b10
    · exact a6.mono (Nat.le_refl _) (Nat.le_refl _) (Nat.le_refl _) (fun i _ => by rw [g72]) (fun i _ => by rw [g73]) (fun i _ => by rw [g74]) (fun i _ => ⟨by rw [g2 78 (by omega) (by omega) (by omega) (by omega) (by omega) (by omega)], by rw [g2 79 (by omega) (by omega) (by omega) (by omega) (by omega) (by omega)], by rw [g2 80 (by omega) (by omega) (by omega) (by omega) (by omega) (by omega)], by rw [g2 81 (by omega) (by omega) (by omega) (by omega) (by omega) (by omega)], by rw [g2 82 (by omega) (by omega) (by omega) (by omega) (by omega) (by omega)]⟩)
    · exact ((a7.congr (fun i _ => by rw [g72]) (fun i _ => by rw [g73]) (fun i _ => by rw [g74]) (fun i hi => by rw [g85, if_neg (by omega)]) (fun i _ => ⟨by rw [g2 87 (by omega) (by omega) (by omega) (by omega) (by omega) (by omega)], by rw [g2 88 (by omega) (by omega) (by omega) (by omega) (by omega) (by omega)]⟩) (fun i _ => ⟨by rw [g2 78 (by omega) (by omega) (by omega) (by omega) (by omega) (by omega)], by rw [g2 79 (by omega) (by omega) (by omega) (by omega) (by omega) (by omega)], by rw [g2 80 (by omega) (by omega) (by omega) (by omega) (by omega) (by omega)], by rw [g2 81 (by omega) (by omega) (by omega) (by omega) (by omega) (by omega)], by rw [g2 82 (by omega) (by omega) (by omega) (by omega) (by omega) (by omega)]⟩) (fun k i a b _ => by rw [g2 k (by omega) (by omega) (by omega) (by omega) (by omega) (by omega)])).mono (Nat.le_refl _) (Nat.le_refl _) (Nat.le_succ _) (Nat.le_refl _) (Nat.le_refl _) (Nat.le_refl _)).und p3
  · have lR : ¬ lab R < 0 := fun z => hx0 (rx.2.2.1.mpr z)
    rw [z0, if_neg (zltN (by omega) (by omega) (by omega) (by omega) (by omega)), if_neg lR]
    obtain ⟨σ1, q1, q2, ⟨q3, q4, q5, q6, q7⟩, q8, q9, q10⟩ := goal_ok (σ := upS σ 6429 (Int32.ofInt behind)) (ng := ng) (a1 := Int32.ofInt 1) (a2 := Int32.ofInt y) (a3 := Int32.ofInt 0) (a4 := Int32.ofInt 0) (a5 := Int32.ofInt behind) (by rw [upS_1, if_neg (by omega), k3]) (by omega)
    rw [q1, Option.bind_some]
    dsimp only
    have f1 : ∀ j, j ≠ 6428 → j ≠ 6429 → (upS σ1 6429 (Int32.ofInt ng)).1 j = σ.1 j := fun j a b => by rw [upS_1, if_neg b, q10 j a, upS_1, if_neg b]
    have f2 : ∀ k, k < 78 ∨ 82 < k → σ1.2 k = σ.2 k := fun k hk => q9 k hk
    have g72 := f2 72 (by omega)
    have g73 := f2 73 (by omega)
    have g74 := f2 74 (by omega)
    have hRT : RTM σ1 st.1 nc (ng + 1) rest behind := RTM.mono (σ := σ) (Nat.le_refl _) (Nat.le_refl _) (Nat.le_succ _) (fun i _ => by rw [g72]) (fun i _ => by rw [g73]) (fun i _ => by rw [g74]) q8 a6
    refine ⟨_, rfl, W, t, na, nc, ng + 1, a1.congr (f1 _ (by omega) (by omega)) (f2 66 (by omega)) (f2 67 (by omega)), ⟨m1.congr (fun k hk => f2 k (by omega)) (fun j hj => f1 j (by omega) (by omega)), m2.congr (Nat.le_refl _) (Nat.le_refl _) (fun i _ => by rw [upS_2, g72]) (fun i _ => by rw [upS_2, g73]) (fun i _ => by rw [upS_2, g74]), m3, m4, ⟨by rw [f1 _ (by omega) (by omega)]; exact m5, by rw [f1 _ (by omega) (by omega)]; exact m6, by rw [f1 _ (by omega) (by omega)]; exact m7⟩, m8, m9⟩, a3.congr (fun i _ => by rw [upS_2, g72]) (fun i _ => by rw [upS_2, g73]) (fun i _ => by rw [upS_2, g74]) (fun e _ => by rw [upS_2, f2 85 (by omega)]) (fun a _ => ⟨by rw [upS_2, f2 87 (by omega)], by rw [upS_2, f2 88 (by omega)]⟩), ⟨by (try dsimp only); omega, by (try dsimp only); omega, by (try dsimp only); omega, by (try dsimp only); omega, by (try dsimp only); omega, by (try dsimp only); omega⟩, ⟨by rw [f1 _ (by omega) (by omega)]; exact k1, by rw [f1 _ (by omega) (by omega)]; exact k2, by rw [upS_1, if_neg (by omega), q2], by rw [f1 _ (by omega) (by omega)]; exact k4⟩, ⟨ng, by rw [upS_1, if_pos rfl], ?_⟩, ?_, by dsimp only; omega⟩
    · refine ⟨ng, y, 0, behind, rfl, by omega, ⟨q3, by dsimp only; omega, q4, q5, q6, by dsimp only; omega, q7⟩, by omega, fun _ => by rw [upS_2, g72, g73, g74]; exact hY, fun z => by dsimp only at z; omega, ?_⟩
      exact RTM.mono (σ := σ1) (σ' := upS σ1 6429 (Int32.ofInt ng)) (Nat.le_refl _) (Nat.le_refl _) (Nat.le_refl _) (fun _ _ => rfl) (fun _ _ => rfl) (fun _ _ => rfl) (fun _ _ => ⟨rfl, rfl, rfl, rfl, rfl⟩) hRT
    · exact (SnM.congr (σ := σ) (σ' := upS σ1 6429 (Int32.ofInt ng)) a7 (fun i _ => by rw [upS_2, g72]) (fun i _ => by rw [upS_2, g73]) (fun i _ => by rw [upS_2, g74]) (fun e _ => by rw [upS_2, f2 85 (by omega)]) (fun a _ => ⟨by rw [upS_2, f2 87 (by omega)], by rw [upS_2, f2 88 (by omega)]⟩) q8 (fun k i a b _ => by rw [upS_2, f2 k (by omega)])).mono (Nat.le_refl _) (Nat.le_refl _) (Nat.le_refl _) (Nat.le_refl _) (Nat.le_refl _) (Nat.le_succ _)
