/-! D40: the reference's APART and SLEEP -/
theorem apFm_snoc {go : Nat → Int} {L R L' R' : Nat → Tr} : ∀ {k i : Nat}, (∀ a, a < i + k → L' a = L a ∧ R' a = R a) → apFm go L' R' (k + 1) i = apFm go L R k i ++ (if go (i + k) = 0 then [(L' (i + k), R' (i + k))] else [])
  | 0, i, _ => by
    unfold apFm apFm
    rw [Nat.add_zero]
    split <;> rfl
  | k + 1, i, h => by
    have := apFm_snoc (go := go) (L := L) (R := R) (L' := L') (R' := R') (k := k) (i := i + 1) (fun a ha => h a (by omega))
    conv => lhs; unfold apFm
    conv => rhs; unfold apFm
    rw [this, show i + 1 + k = i + (k + 1) by omega, (h i (by omega)).1, (h i (by omega)).2]
    split <;> rfl
set_option maxHeartbeats 2000000 in
theorem apartM {σ : qC} {cls : List Cl} {s bn na nc ng : Nat} {st : Sto} {rest : List Go} {ch : List Ch} {W : Wm} {t : List Em} {behind x y : Int} {X Y : Tr} (h : MP1 σ cls s bn st rest ch W t na nc ng behind) (hX : MTx (σ.2 72) (σ.2 73) (σ.2 74) st.1 nc x X) (hY : MTx (σ.2 72) (σ.2 73) (σ.2 74) st.1 nc y Y) (r : Nat × Ma)
    (hr : r = (match uni st.1 false 502 s st.2.1 false [(X, Y)] with
      | (c, s1, _, bd) => if c = 2 then (2, (s1, bn, st, rest, ch)) else if c = 1 then (0, (s1, bn, st, rest, ch)) else if bd = false then (1, (s1, bn, st, rest, ch)) else (0, (s1, bn, (st.1, st.2.1, st.2.2.1, st.2.2.2.1, st.2.2.2.2 ++ [(X, Y)]), rest, ch)))) :
    ∃ σ', m_apart_165 (Int32.ofInt x) (Int32.ofInt y) (Int32.ofInt behind) σ = some (Int32.ofInt (if r.1 = 0 then 1 else 0), σ') ∧ MR σ' cls r := by
  obtain ⟨a1, hB, a3, ⟨⟨d1, d2, d3, d4, d5, d6⟩, d7⟩, ⟨k1, k2, k3, k4⟩, a6, a7, a8⟩ := h
  obtain ⟨σ1, g1, g2, g3, g4, g5⟩ := test_m hB hX hY (by omega)
  obtain ⟨nv, u, ns, sg, ap⟩ := st
  obtain ⟨b1, b2, b3, b4, b5, b6, b7, b8, L, R, b9, b10⟩ := a3
  dsimp only at *
  unfold m_apart_165
  rw [g1, Option.bind_some]
  dsimp only [qlet]
  have hst : (uni nv false 502 s u false [(X, Y)]).1 ≠ 2 → s < (uni nv false 502 s u false [(X, Y)]).2.1 := by
    intro z
    by_cases h5 : 500 ≤ s
    · exfalso
      apply z
      have : uni nv false 502 s u false [(X, Y)] = (2, s, u, false) := by
        unfold uni
        rw [if_pos h5]
      rw [this]
    · cases h1 : uni1 false u false (fnd (nv + 1) u.1 X) (fnd (nv + 1) u.1 Y) with
      | none => rw [uni_none h5 h1]; dsimp only; omega
      | some q =>
        obtain ⟨u', bd', ps'⟩ := q
        rw [uni_some h5 h1]
        have := uni_steps (nv := nv) (stir := false) 501 (s + 1) u' bd' (ps' ++ [])
        omega
  obtain ⟨c, s1, u1, bd, hq⟩ : ∃ c s1 u1 bd, uni nv false 502 s u false [(X, Y)] = (c, s1, u1, bd) := ⟨_, _, _, _, rfl⟩
  rw [hq] at g2 g4 g5 hr hst ⊢
  dsimp only at g2 g4 g5 hr hst
  have hsn1 : SnM σ1 s1 ch W t nv ns na nc ng := (g3.snm a7).mono (by omega) (Nat.le_refl _) (Nat.le_refl _) (Nat.le_refl _) (Nat.le_refl _) (Nat.le_refl _)
  have e72 : ∀ k, k = 72 ∨ k = 73 ∨ k = 74 ∨ k = 85 ∨ k = 87 ∨ k = 88 → σ1.2 k = σ.2 k := fun k hk => g3.1 k (by omega) (by omega) (by omega) (by omega) (by omega) (by omega) (by omega) (by omega) (by omega) (by omega)
  have hfl : MFl σ1 cls s1 bn ch (if c = 2 then 3 else 0) := ⟨W, t, nv, ns, na, nc, ng, g3.stat a1, g2.1, g2.2.2.1, g2.2.2.2.2.1, ⟨by rw [g3.sc (by omega), k1], by rw [g3.sc (by omega), k4]⟩, hsn1, g2.2.2.2.2.2.2, by omega⟩
  unfold tm
  by_cases c2 : c = 2
  · rw [if_pos c2] at hr hfl
    rw [if_pos c2, if_pos rfl, hr]
    exact ⟨σ1, rfl, Or.inr ⟨by dsimp only; omega, by dsimp only; omega, hfl⟩⟩
  · rw [if_neg c2] at hr g2 hfl
    rw [if_neg c2]
    have hlt := hst c2
    have hSR1 : SRm σ1 W t na nc (nv, u, ns, sg, ap) := ⟨g2.2.1, b2, b3, b4, b5, b6, b7, fun e he => (b8 e he).congr (Nat.le_refl _) (Nat.le_refl _) (fun i _ => by rw [e72 72 (by omega)]) (fun i _ => by rw [e72 73 (by omega)]) (fun i _ => by rw [e72 74 (by omega)]) (by rw [e72 85 (by omega)]), L, R, fun a ha => (b9 a ha).congr (e72 72 (by omega)) (e72 73 (by omega)) (e72 74 (by omega)) (by rw [e72 87 (by omega)]) (by rw [e72 88 (by omega)]), b10⟩
    have hMP : MP1 σ1 cls s1 bn (nv, u, ns, sg, ap) rest ch W t na nc ng behind := ⟨g3.stat a1, g2, hSR1, ⟨⟨by dsimp only; omega, by omega, by dsimp only; omega, by dsimp only; omega, by omega, by omega⟩, by omega, by dsimp only; omega, by omega, by omega⟩, ⟨by rw [g3.sc (by omega), k1], by rw [g3.sc (by omega), k2], by rw [g3.sc (by omega), k3], by rw [g3.sc (by omega), k4]⟩, g3.rtm a6, hsn1, by omega⟩
    by_cases c1 : c = 1
    · rw [if_pos c1] at hr
      rw [if_pos c1, if_neg (by decide), if_pos (by rfl), hr]
      exact ⟨_, rfl, Or.inl ⟨rfl, hMP.done⟩⟩
    · rw [if_neg c1] at hr
      rw [if_neg c1]
      by_cases hb : bd = false
      · rw [if_pos hb] at hr
        rw [if_pos hb, if_pos rfl, hr]
        exact ⟨σ1, rfl, Or.inr ⟨by dsimp only; omega, by dsimp only; omega, hfl⟩⟩
      · rw [if_neg hb] at hr
        rw [if_neg hb, if_neg (by decide), if_neg (by decide), hr]
        obtain ⟨W0, t0, na0, nc0, ng0, -⟩ := hMP.done
        obtain ⟨m1, m2, m3, m4, ⟨m5, m6, m7⟩, m8, m9⟩ := g2
        have h6 := m1.2.2.2.2.2
        have hna : (upS σ1 6429 (Int32.ofInt behind)).1 6435 = Int32.ofInt na := by rw [upS_1, if_neg (by omega), m1.2.2.2.1.2.2.1]
        rw [hna, aputI (i := na) rfl (by omega) (by omega), Option.bind_some, upA_1, hna, aputI (i := na) rfl (by omega) (by omega), Option.bind_some, upA_1, upA_1, hna, aputI (i := na) rfl (by omega) (by omega), Option.bind_some, upA_1, upA_1, upA_1, hna, zadd]
        obtain ⟨σ2, hσ2⟩ : ∃ σ2, σ2 = upS (upA (upA (upA (upS σ1 6429 (Int32.ofInt behind)) 87 na (Int32.ofInt x)) 88 na (Int32.ofInt y)) 89 na (Int32.ofInt 0)) 6435 (Int32.ofInt ((na : Int) + 1)) := ⟨_, rfl⟩
        rw [← hσ2]
        have f1 : ∀ j, j ≠ 6429 → j ≠ 6435 → σ2.1 j = σ1.1 j := fun j a b => by rw [hσ2, upS_1, if_neg b, upA_1, upA_1, upA_1, upS_1, if_neg a]
        have f2 : ∀ k, k ≠ 87 → k ≠ 88 → k ≠ 89 → σ2.2 k = σ1.2 k := fun k a b c => by rw [hσ2, upS_2, upA_ne c, upA_ne b, upA_ne a]; rfl
        have f87 : ∀ a, σ2.2 87 a = if a = na then Int32.ofInt x else σ1.2 87 a := fun a => by rw [hσ2, upS_2, upA_ne (by omega), upA_ne (by omega), upA_eq, fup_at]; rfl
        have f88 : ∀ a, σ2.2 88 a = if a = na then Int32.ofInt y else σ1.2 88 a := fun a => by rw [hσ2, upS_2, upA_ne (by omega), upA_eq, fup_at, upA_ne (by omega)]; rfl
        have f89 : ∀ a, σ2.2 89 a = if a = na then Int32.ofInt 0 else σ1.2 89 a := fun a => by rw [hσ2, upS_2, upA_eq, fup_at, upA_ne (by omega), upA_ne (by omega)]; rfl
        have g72 := f2 72 (by omega) (by omega) (by omega)
        have g73 := f2 73 (by omega) (by omega) (by omega)
        have g74 := f2 74 (by omega) (by omega) (by omega)
        have f6435 : σ2.1 6435 = Int32.ofInt ((na + 1 : Nat) : Int) := by rw [hσ2, upS_1, if_pos rfl]; rfl
        have hW2 : MW σ2 W t nv ns (na + 1) := by
          obtain ⟨e1, e2, e3, e4, e5, e6⟩ := m1
          refine ⟨by rw [f2 75 (by omega) (by omega) (by omega), f2 76 (by omega) (by omega) (by omega), f2 77 (by omega) (by omega) (by omega)]; exact e1, by rw [f2 86 (by omega) (by omega) (by omega)]; exact e2, fun a ha => ?_, ⟨by rw [f1 _ (by omega) (by omega)]; exact e4.1, by rw [f1 _ (by omega) (by omega)]; exact e4.2.1, f6435, by rw [f1 _ (by omega) (by omega)]; exact e4.2.2.2⟩, by rw [f2 83 (by omega) (by omega) (by omega), f2 84 (by omega) (by omega) (by omega)]; exact e5, by omega⟩
          rw [f89]
          by_cases e : a = na
          · rw [if_pos e, e, b7 na (Nat.le_refl _)]
          · rw [if_neg e]
            exact e3 a (by omega)
        have hWU2 : WUm σ2 nv nc W u := m2.congr (Nat.le_refl _) (Nat.le_refl _) (fun i _ => by rw [g72]) (fun i _ => by rw [g73]) (fun i _ => by rw [g74])
        have hEV2 : EVm t nv ns (na + 1) := m3.mono (Nat.le_refl _) (Nat.le_refl _) (by omega)
        refine ⟨σ2, rfl, Or.inl ⟨rfl, W, t, na + 1, nc, ng, (g3.stat a1).congr (f1 _ (by omega) (by omega)) (f2 _ (by omega) (by omega) (by omega)) (f2 _ (by omega) (by omega) (by omega)), ⟨hW2, hWU2, hEV2, m4, ⟨by rw [f1 _ (by omega) (by omega)]; exact m5, by rw [f1 _ (by omega) (by omega)]; exact m6, by rw [f1 _ (by omega) (by omega)]; exact m7⟩, m8, m9⟩, ⟨hWU2, hEV2, b3, b4, b5, b6, fun a ha => b7 a (by omega), fun e he => (hSR1.2.2.2.2.2.2.2.1 e he).congr (Nat.le_refl _) (Nat.le_refl _) (fun i _ => by rw [g72]) (fun i _ => by rw [g73]) (fun i _ => by rw [g74]) (by rw [f2 85 (by omega) (by omega) (by omega)]), gup L na X, gup R na Y, fun a ha => ?_, ?_⟩, ⟨by dsimp only; omega, by dsimp only; omega, by dsimp only; omega, by dsimp only; omega, by dsimp only; omega, by dsimp only; omega⟩, ⟨by rw [f1 _ (by omega) (by omega), g3.sc (by omega), k1], by rw [f1 _ (by omega) (by omega), g3.sc (by omega), k2], by rw [f1 _ (by omega) (by omega), g3.sc (by omega), k3], by rw [f1 _ (by omega) (by omega), g3.sc (by omega), k4]⟩, ⟨behind, by rw [hσ2, upS_1, if_neg (by omega), upA_1, upA_1, upA_1, upS_1, if_pos rfl], ?_⟩, ?_, by dsimp only; omega⟩⟩
        · rw [gup_at, gup_at]
          by_cases e : a = na
          · rw [if_pos e, if_pos e, e]
            exact ⟨x, y, by rw [f87, if_pos rfl], by rw [f88, if_pos rfl], by rw [g72, g73, g74, e72 72 (by omega), e72 73 (by omega), e72 74 (by omega)]; exact hX, by rw [g72, g73, g74, e72 72 (by omega), e72 73 (by omega), e72 74 (by omega)]; exact hY⟩
          · rw [if_neg e, if_neg e]
            exact (b9 a (by omega)).congr (by rw [g72, e72 72 (by omega)]) (by rw [g73, e72 73 (by omega)]) (by rw [g74, e72 74 (by omega)]) (by rw [f87, if_neg e, e72 87 (by omega)]) (by rw [f88, if_neg e, e72 88 (by omega)])
        · rw [apFm_snoc (L := L) (R := R) (fun a ha => ⟨by rw [gup_at, if_neg (by omega)], by rw [gup_at, if_neg (by omega)]⟩), Nat.zero_add, if_pos (b7 na (Nat.le_refl _)), gup_at, if_pos rfl, gup_at, if_pos rfl, b10]
        · exact (g3.rtm a6).mono (Nat.le_refl _) (Nat.le_refl _) (Nat.le_refl _) (fun i _ => by rw [g72]) (fun i _ => by rw [g73]) (fun i _ => by rw [g74]) (fun i _ => ⟨by rw [f2 78 (by omega) (by omega) (by omega)], by rw [f2 79 (by omega) (by omega) (by omega)], by rw [f2 80 (by omega) (by omega) (by omega)], by rw [f2 81 (by omega) (by omega) (by omega)], by rw [f2 82 (by omega) (by omega) (by omega)]⟩)
        · exact (hsn1.congr (fun i _ => by rw [g72]) (fun i _ => by rw [g73]) (fun i _ => by rw [g74]) (fun i _ => by rw [f2 85 (by omega) (by omega) (by omega)]) (fun i hi => ⟨by rw [f87, if_neg (by omega)], by rw [f88, if_neg (by omega)]⟩) (fun i _ => ⟨by rw [f2 78 (by omega) (by omega) (by omega)], by rw [f2 79 (by omega) (by omega) (by omega)], by rw [f2 80 (by omega) (by omega) (by omega)], by rw [f2 81 (by omega) (by omega) (by omega)], by rw [f2 82 (by omega) (by omega) (by omega)]⟩) (fun k i a b _ => by rw [f2 k (by omega) (by omega) (by omega)])).mono (Nat.le_refl _) (Nat.le_refl _) (Nat.le_refl _) (Nat.le_succ _) (Nat.le_refl _) (Nat.le_refl _)
