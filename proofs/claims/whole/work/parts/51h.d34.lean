/-! D34: the reference tests -/
def MB (σ : qC) (nv nc ns na : Nat) (W : Wm) (t : List Em) (u : Us) (s : Nat) (th : Int) : Prop :=
  MW σ W t nv ns na ∧ WUm σ nv nc W u ∧ EVm t nv ns na ∧ bOrd nv u.1 ∧ (σ.1 6430 = Int32.ofInt s ∧ σ.1 6440 = Int32.ofInt 0 ∧ σ.1 6411 = Int32.ofInt th) ∧ nc ≤ 24000 ∧ s ≤ 500
def FrX (σ σ' : qC) : Prop := (∀ k, k ≠ 75 → k ≠ 76 → k ≠ 77 → k ≠ 86 → k ≠ 89 → k ≠ 83 → k ≠ 84 → k ≠ 90 → k ≠ 91 → k ≠ 92 → σ'.2 k = σ.2 k) ∧ (∀ j, j ≠ 6432 → j ≠ 6439 → j ≠ 6430 → j ≠ 6411 → j ≠ 6436 → j ≠ 6437 → j ≠ 6440 → σ'.1 j = σ.1 j)
theorem FrX.refl {σ : qC} : FrX σ σ := ⟨fun _ _ _ _ _ _ _ _ _ _ _ => rfl, fun _ _ _ _ _ _ _ _ => rfl⟩
theorem FrX.trans {σ σ' σ'' : qC} (h : FrX σ σ') (g : FrX σ' σ'') : FrX σ σ'' :=
  ⟨fun k a b c d e f i j l m => by rw [g.1 k a b c d e f i j l m, h.1 k a b c d e f i j l m], fun j a b c d e f g' => by rw [g.2 j a b c d e f g', h.2 j a b c d e f g']⟩
theorem FrM.X {σ σ' : qC} (h : FrM σ σ') : FrX σ σ' := ⟨fun k a b c d _ e f g i j => h.1 k a b c d e f g i j, fun j a b c d e f _ => h.2 j a b c d e f⟩
def tm (r : Nat × Nat × Us × Bool) : Int := if r.1 = 2 then 2 else if r.1 = 1 then 0 else if r.2.2.2 = false then 2 else 1
set_option maxHeartbeats 2000000 in
theorem test_m {σ : qC} {nv nc ns na s : Nat} {W : Wm} {t : List Em} {u : Us} {x y : Int} {X Y : Tr} (h : MB σ nv nc ns na W t u s 0) (hx : MTx (σ.2 72) (σ.2 73) (σ.2 74) nv nc x X) (hy : MTx (σ.2 72) (σ.2 73) (σ.2 74) nv nc y Y) (ht : t.length ≤ 4 * s + 2000) :
    ∃ σ', m_test_162 (Int32.ofInt x) (Int32.ofInt y) σ = some (Int32.ofInt (tm (uni nv false 502 s u false [(X, Y)])), σ') ∧ MB σ' nv nc ns na W t u (uni nv false 502 s u false [(X, Y)]).2.1 (if (uni nv false 502 s u false [(X, Y)]).1 = 2 then 3 else 0) ∧ FrX σ σ' ∧ s ≤ (uni nv false 502 s u false [(X, Y)]).2.1 ∧ (uni nv false 502 s u false [(X, Y)]).1 ≤ 2 := by
  obtain ⟨m1, m2, m3, m4, ⟨m5, m6, m7⟩, m8, m9⟩ := h
  unfold m_test_162
  dsimp only [qlet]
  obtain ⟨σ1, hσ1⟩ : ∃ σ1, σ1 = upS (upS σ 6440 (Int32.ofInt 1)) 6436 (Int32.ofInt 0) := ⟨_, rfl⟩
  rw [← hσ1]
  have a1 : ∀ j, j ≠ 6440 → j ≠ 6436 → σ1.1 j = σ.1 j := fun j a b => by rw [hσ1, upS_1, if_neg b, upS_1, if_neg a]
  have a2 : σ1.2 = σ.2 := by rw [hσ1]; rfl
  obtain ⟨σ2, p1, p2, p3, p4, p5⟩ := pair_ok (σ := σ1) (nv := nv) (nc := nc) (ps := []) (X := X) (Y := Y) trivial (by rw [hσ1, upS_1, if_pos rfl]; rfl) (by simp) (by rw [a2]; exact hx) (by rw [a2]; exact hy)
  rw [p1, Option.bind_some]
  unfold m_same_156
  dsimp only [qlet]
  obtain ⟨σ3, hσ3⟩ : ∃ σ3, σ3 = upS (upS σ2 6439 (Int32.ofInt 0)) 6437 (Int32.ofInt 0) := ⟨_, rfl⟩
  rw [← hσ3]
  have b1 : ∀ j, j ≠ 6439 → j ≠ 6437 → σ3.1 j = σ2.1 j := fun j a b => by rw [hσ3, upS_1, if_neg b, upS_1, if_neg a]
  have b2 : σ3.2 = σ2.2 := by rw [hσ3]; rfl
  have c2 : ∀ k, k ≠ 90 → k ≠ 91 → σ3.2 k = σ.2 k := fun k a b => by rw [b2, p4 k a b, a2]
  have c1 : ∀ j, j ≠ 6439 → j ≠ 6437 → j ≠ 6436 → j ≠ 6440 → σ3.1 j = σ.1 j := fun j a b c d => by rw [b1 j a b, p5 j c, a1 j d c]
  have hU : MU σ3 false nv nc ns na W t u s [] := by
    refine ⟨m1.congr (fun k hk => c2 k (by omega) (by omega)) (fun j hj => c1 j (by omega) (by omega) (by omega) (by omega)), m2.congr (Nat.le_refl _) (Nat.le_refl _) (fun i _ => by rw [c2 72 (by omega) (by omega)]) (fun i _ => by rw [c2 73 (by omega) (by omega)]) (fun i _ => by rw [c2 74 (by omega) (by omega)]), m3, m4, ⟨by rw [c1 _ (by omega) (by omega) (by omega) (by omega), m5], ?_, ?_⟩, fun i hi => absurd hi (by simp), (fun z => by cases z), by simp, m8, m9⟩
    · rw [hσ3, upS_1, if_pos rfl]
      rfl
    · rw [b1 _ (by omega) (by omega), p5 _ (by omega), hσ1, upS_1, if_neg (by omega), upS_1, if_pos rfl]
      rfl
  obtain ⟨σ4, W4, t4, hs4, g1, g2, g3, g4, g5, g6, g7, g8, g9, g10, g11, g12, g13⟩ := sameL_ok (nv := nv) (nc := nc) (ns := ns) (na := na) false 502 qF s u false [(X, Y)] W t σ3 [] hU (p2.congr (by rw [b2]) (by rw [b2]) (by rw [b2]) (fun i _ => ⟨by rw [b2], by rw [b2]⟩)) (by rw [b1 _ (by omega) (by omega), p3]) (by rw [hσ3, upS_1, if_neg (by omega), upS_1, if_pos rfl]; rfl) (by rw [c1 _ (by omega) (by omega) (by omega) (by omega), m7]) (fun z => by cases z) (by omega) (by unfold qF; omega) (by simp; omega) (by omega)
  rw [g1, Option.bind_some]
  dsimp only
  obtain ⟨es, f1, f2⟩ := g4
  obtain ⟨σ5, hσ5⟩ : ∃ σ5, σ5 = upS σ4 6440 (Int32.ofInt 0) := ⟨_, rfl⟩
  rw [← hσ5]
  have d1 : ∀ j, j ≠ 6440 → σ5.1 j = σ4.1 j := fun j a => by rw [hσ5, upS_1, if_neg a]
  have d2 : σ5.2 = σ4.2 := by rw [hσ5]; rfl
  have hC5 : MW σ5 W4 t4 nv ns na := g2.1.congr (fun k _ => by rw [d2]) (fun j _ => d1 j (by omega))
  have hE5 := g2.2.2.1
  rw [f1] at hC5 hE5
  unfold m_undo_152
  rw [m1.2.2.2.1.2.2.2]
  have h6 := g2.1.2.2.2.2.2
  have hlen : es.length < qF := by
    rw [f1, List.length_append] at h6
    unfold qF
    omega
  obtain ⟨σ6, q1, q2, q3, q4⟩ := undoL_ok es t qF σ5 W4 nv ns na hC5 hE5 hlen
  rw [q1, Option.bind_some, f2] at *
  have e2 : ∀ k, k ≠ 75 → k ≠ 76 → k ≠ 77 → k ≠ 86 → k ≠ 89 → k ≠ 83 → k ≠ 84 → k ≠ 90 → k ≠ 91 → k ≠ 92 → σ6.2 k = σ.2 k := fun k a b c d e f g h i j => by rw [q3 k a b c d e, d2, g5.1 k a b c d f g h i j, c2 k h i]
  have e1 : ∀ j, j ≠ 6432 → j ≠ 6439 → j ≠ 6430 → j ≠ 6411 → j ≠ 6436 → j ≠ 6437 → j ≠ 6440 → σ6.1 j = σ.1 j := fun j a b c d e f g => by rw [q4 j a, d1 j g, g5.2 j a b c d e f, c1 j b f e g]
  have hthr : σ6.1 6411 = Int32.ofInt (if (uni nv false 502 s u false [(X, Y)]).1 = 2 then 3 else 0) := by rw [q4 _ (by omega), d1 _ (by omega), g7]
  have hMB : MB σ6 nv nc ns na W t u (uni nv false 502 s u false [(X, Y)]).2.1 (if (uni nv false 502 s u false [(X, Y)]).1 = 2 then 3 else 0) := by
    refine ⟨q2, m2.congr (Nat.le_refl _) (Nat.le_refl _) (fun i _ => by rw [e2 72 (by omega) (by omega) (by omega) (by omega) (by omega) (by omega) (by omega) (by omega) (by omega) (by omega)]) (fun i _ => by rw [e2 73 (by omega) (by omega) (by omega) (by omega) (by omega) (by omega) (by omega) (by omega) (by omega) (by omega)]) (fun i _ => by rw [e2 74 (by omega) (by omega) (by omega) (by omega) (by omega) (by omega) (by omega) (by omega) (by omega) (by omega)]), m3, m4, ⟨?_, ?_, hthr⟩, m8, g2.2.2.2.2.2.2.2.2.2⟩
    · rw [q4 _ (by omega), d1 _ (by omega)]
      exact g2.2.2.2.2.1.1
    · rw [q4 _ (by omega), hσ5, upS_1, if_pos rfl]
  have h39 : σ4.1 6439 = Int32.ofInt (b2i (uni nv false 502 s u false [(X, Y)]).2.2.2) := g6
  refine ⟨σ6, ?_, hMB, ⟨e2, e1⟩, g10, g11⟩
  rw [hthr]
  clear g1 g2 g3 g5 g6 g7 g9 g12 g13 hMB hthr
  generalize uni nv false 502 s u false [(X, Y)] = Q at *
  unfold tm
  by_cases c2' : Q.1 = 2
  · rw [if_pos c2', if_pos c2', if_neg (by decide)]
  · rw [if_neg c2', if_neg c2', if_pos (by decide)]
    by_cases c1' : Q.1 = 1
    · have e0 : (if Q.1 = 0 then (1 : Int) else 0) = 0 := if_neg (by omega)
      rw [if_pos c1', e0, if_pos (by rfl)]
    · have c0 : Q.1 = 0 := by omega
      have e0 : (if Q.1 = 0 then (1 : Int) else 0) = 1 := if_pos c0
      rw [if_neg c1', e0, if_neg (by decide), h39]
      cases hb : Q.2.2.2 with
      | false =>
        rw [if_pos (by rfl), if_pos rfl]
      | true =>
        rw [if_neg (by decide), if_neg (by decide)]
