/-! D45: the reference builds goals -/
/-- what building leaves alone -/
def FrB (σ σ' : qC) (nc nc' : Nat) : Prop := nc ≤ nc' ∧ σ'.1 6425 = Int32.ofInt nc' ∧ (∀ i, i < nc → σ'.2 72 i = σ.2 72 i) ∧ (∀ i, i < nc → σ'.2 73 i = σ.2 73 i) ∧ (∀ i, i < 3 * nc → σ'.2 74 i = σ.2 74 i) ∧ (∀ k, k ≠ 68 → k ≠ 72 → k ≠ 73 → k ≠ 74 → σ'.2 k = σ.2 k) ∧ (∀ j, j ≠ 6412 → j ≠ 6425 → σ'.1 j = σ.1 j)
def BP0 (σ : qC) (base n env nv : Nat) (tx : Nat → Int) (p nc : Nat) : Prop := TXT σ base n tx ∧ MAP σ n env tx ∧ σ.1 6412 = Int32.ofInt (base + p : Nat) ∧ σ.1 6425 = Int32.ofInt nc ∧ env + rnk tx n 26 ≤ nv ∧ nv ≤ 13000
theorem build_ok {base n env nv p nc : Nat} {tx : Nat → Int} {σ : qC} (hok : (pT tx 6 p).1 = true) (hne : tx (pT tx 6 p).2.1 ≠ 40) (hpre : BP0 σ base n env nv tx p nc) (hcap : 2 * nc + (pT tx 6 p).2.1 + 1 ≤ 48000 + p) (hlen : (pT tx 6 p).2.1 - p < 1000) :
    ∃ (σ' : qC) (nc' : Nat) (t : Int), m_build_145 σ = some (Int32.ofInt t, σ') ∧ 2 * nc' + p ≤ 2 * nc + (pT tx 6 p).2.1 + 1 ∧ (pT tx 6 p).2.1 ≤ n ∧ MTx (σ'.2 72) (σ'.2 73) (σ'.2 74) nv nc' t (tt tx n 6 p env) ∧ σ'.1 6412 = Int32.ofInt (base + (pT tx 6 p).2.1 : Nat) ∧ FrB σ σ' nc nc' := by
  obtain ⟨h1, h2, h3, h4, h5, h6⟩ := hpre
  obtain ⟨σ', fuel', q, nc', t, b1, b2, b3, b4, b5, b6, p1, p2, p3, p4, p5, p6, p7, p8, p9, p10, p11⟩ := build_t 6 p 0 nc 0 0 qF σ hok hne ⟨h1, h2, h3, h4, h5, h6, fun z => by omega⟩ hcap (by omega) (by unfold qF; omega)
  refine ⟨σ', nc', t, ?_, b4, b5, ⟨6, b6.MT⟩, p1, p3, p2, p4, fun i hi => p5 i hi (Or.inl rfl), fun i hi => p7 i hi (Or.inl rfl), p10, p11⟩
  unfold m_build_145
  rw [show Int32.ofInt 0 = Int32.ofInt ((0 : Nat) : Int) from rfl, b1]
  obtain ⟨q', rfl⟩ : ∃ q', q = q' + 1 := ⟨q - 1, by unfold qF at b3; omega⟩
  unfold m_build_145_l102
  rw [z0, if_pos (zleP (by omega) (by omega) (by omega) (by omega) (by omega))]
  exact if_pos rfl
theorem pT_le {tx : Nat → Int} {n : Nat} (h0 : ∀ p, n ≤ p → tx p = 0) : ∀ (k i : Nat), (pT tx k i).1 = true → (pT tx k i).2.1 ≤ n := by
  intro k
  induction k with
  | zero => intro i h; cases h
  | succ k ih =>
    have hpA : ∀ (j i : Nat), (pA tx (pT tx k) j i).1 = true → (pA tx (pT tx k) j i).2.1 ≤ n := by
      intro j
      induction j with
      | zero => intro i h; cases h
      | succ j ihj =>
        intro i h
        unfold pA at h ⊢
        by_cases h1 : (pT tx k i).1 = false
        · rw [if_pos h1] at h; cases h
        rw [if_neg h1] at h ⊢
        have h1' : (pT tx k i).1 = true := by simpa using h1
        by_cases h2 : tx (pT tx k i).2.1 = 41
        · rw [if_pos h2]
          dsimp only
          apply Classical.byContradiction
          intro z
          have := h0 (pT tx k i).2.1 (by omega)
          omega
        rw [if_neg h2] at h ⊢
        by_cases h3 : j = 0 ∨ tx (pT tx k i).2.1 ≠ 44
        · rw [if_pos h3] at h; cases h
        rw [if_neg h3] at h ⊢
        exact ihj _ h
    intro i h
    unfold pT at h ⊢
    by_cases h1 : ¬ isSm (tx i) ∧ ¬ isCa (tx i) ∧ ¬ isDi (tx i)
    · rw [if_pos h1] at h; cases h
    rw [if_neg h1] at h ⊢
    by_cases h2 : ¬ isSm (tx i) ∨ k = 0 ∨ tx (i + 1) ≠ 40
    · rw [if_pos h2]
      dsimp only
      apply Classical.byContradiction
      intro z
      have := h0 i (by omega)
      apply h1
      rw [this]
      exact ⟨by omega, by omega, by omega⟩
    · rw [if_neg h2] at h ⊢
      exact hpA 3 (i + 2) h
/-- the sign between two terms -/
def sgn2 (k : Nat) : Int := if k = 2 then 61 else if k = 3 then 126 else if k = 4 then 60 else 63
theorem pG_cases {tx : Nat → Int} {i : Nat} (h : (pG tx i).1 = true) :
    (tx i = 33 ∧ pG tx i = (true, i + 1, 0, i, i)) ∨
    (tx i ≠ 33 ∧ (pT tx 6 i).1 = true ∧ ∃ k, 2 ≤ k ∧ k ≤ 5 ∧ tx (pT tx 6 i).2.1 = sgn2 k ∧ (pT tx 6 ((pT tx 6 i).2.1 + 1)).1 = true ∧ pG tx i = (true, (pT tx 6 ((pT tx 6 i).2.1 + 1)).2.1, k, i, (pT tx 6 i).2.1 + 1) ∧ (k = 5 → isSm (tx ((pT tx 6 i).2.1 + 1)))) ∨
    (tx i ≠ 33 ∧ (pT tx 6 i).1 = true ∧ (tx (pT tx 6 i).2.1 ≠ 61 ∧ tx (pT tx 6 i).2.1 ≠ 126 ∧ tx (pT tx 6 i).2.1 ≠ 60 ∧ tx (pT tx 6 i).2.1 ≠ 63) ∧ isSm (tx i) ∧ pG tx i = (true, (pT tx 6 i).2.1, 1, i, i)) := by
  unfold pG at h ⊢
  by_cases h0 : tx i = 33
  · exact Or.inl ⟨h0, by rw [if_pos h0]⟩
  rw [if_neg h0] at h ⊢
  by_cases h1 : (pT tx 6 i).1 = false
  · rw [if_pos h1] at h; cases h
  rw [if_neg h1] at h ⊢
  have h1' : (pT tx 6 i).1 = true := by simpa using h1
  refine Or.inr ?_
  by_cases h2 : tx (pT tx 6 i).2.1 = 61
  · rw [if_pos h2] at h ⊢
    dsimp only at h
    exact Or.inl ⟨h0, h1', 2, by omega, by omega, h2, h, by rw [h], fun z => by omega⟩
  rw [if_neg h2] at h ⊢
  by_cases h3 : tx (pT tx 6 i).2.1 = 126
  · rw [if_pos h3] at h ⊢
    dsimp only at h
    exact Or.inl ⟨h0, h1', 3, by omega, by omega, h3, h, by rw [h], fun z => by omega⟩
  rw [if_neg h3] at h ⊢
  by_cases h4 : tx (pT tx 6 i).2.1 = 60
  · rw [if_pos h4] at h ⊢
    dsimp only at h
    exact Or.inl ⟨h0, h1', 4, by omega, by omega, h4, h, by rw [h], fun z => by omega⟩
  rw [if_neg h4] at h ⊢
  by_cases h5 : tx (pT tx 6 i).2.1 = 63
  · rw [if_pos h5] at h ⊢
    by_cases h6 : isSm (tx ((pT tx 6 i).2.1 + 1))
    · rw [if_pos h6] at h ⊢
      dsimp only at h
      exact Or.inl ⟨h0, h1', 5, by omega, by omega, h5, h, by rw [h], fun _ => h6⟩
    · rw [if_neg h6] at h; cases h
  rw [if_neg h5] at h ⊢
  dsimp only at h
  have h7 : isSm (tx i) := of_decide_eq_true h
  exact Or.inr ⟨h0, h1', ⟨h2, h3, h4, h5⟩, h7, by rw [h]⟩
theorem pG_ends {tx : Nat → Int} {i : Nat} (h : (pG tx i).1 = true) : i < (pG tx i).2.1 := by
  rcases pG_cases h with ⟨-, e⟩ | ⟨-, h1, k, -, -, -, h2, e, -⟩ | ⟨-, h1, -, -, e⟩
  · rw [e]; dsimp only; omega
  · rw [e]
    have a := pT_ends _ _ h1
    have b := pT_ends _ _ h2
    dsimp only; omega
  · rw [e]
    exact pT_ends _ _ h1
/-- what building goals leaves alone -/
def FrG (σ σ' : qC) (nc nc' ng ng' : Nat) : Prop := nc ≤ nc' ∧ ng ≤ ng' ∧ σ'.1 6425 = Int32.ofInt nc' ∧ σ'.1 6428 = Int32.ofInt ng' ∧ (∀ i, i < nc → σ'.2 72 i = σ.2 72 i) ∧ (∀ i, i < nc → σ'.2 73 i = σ.2 73 i) ∧ (∀ i, i < 3 * nc → σ'.2 74 i = σ.2 74 i) ∧ (∀ i, i < ng → σ'.2 78 i = σ.2 78 i ∧ σ'.2 79 i = σ.2 79 i ∧ σ'.2 80 i = σ.2 80 i ∧ σ'.2 81 i = σ.2 81 i) ∧ (∀ k, k ≠ 68 → k ≠ 72 → k ≠ 73 → k ≠ 74 → (k < 78 ∨ 82 < k) → σ'.2 k = σ.2 k) ∧ (∀ j, j ≠ 6412 → j ≠ 6425 → j ≠ 6428 → σ'.1 j = σ.1 j)
/-- a goal stands at ng -/
def G1 (σ : qC) (nv nc ng : Nat) (q : Go) : Prop := ∃ x y : Int, σ.2 78 ng = Int32.ofInt q.1 ∧ σ.2 79 ng = Int32.ofInt x ∧ σ.2 80 ng = Int32.ofInt y ∧ σ.2 81 ng = Int32.ofInt q.2.2.2 ∧ (q.1 ≠ 0 → MTx (σ.2 72) (σ.2 73) (σ.2 74) nv nc x q.2.1) ∧ (2 ≤ q.1 → MTx (σ.2 72) (σ.2 73) (σ.2 74) nv nc y q.2.2.1)
theorem G1.mono {σ σ' : qC} {nv nc nc' ng ng' i : Nat} {q : Go} (h : G1 σ nv nc i q) (hf : FrG σ σ' nc nc' ng ng') (hi : i < ng) : G1 σ' nv nc' i q := by
  obtain ⟨x, y, h1, h2, h3, h4, h5, h6⟩ := h
  obtain ⟨f1, f2, -, -, f3, f4, f5, f6, -⟩ := hf
  obtain ⟨e1, e2, e3, e4⟩ := f6 i hi
  exact ⟨x, y, by rw [e1, h1], by rw [e2, h2], by rw [e3, h3], by rw [e4, h4], fun z => (h5 z).mono (Nat.le_refl _) f1 f3 f4 f5, fun z => (h6 z).mono (Nat.le_refl _) f1 f3 f4 f5⟩
/-- the goal is made and hung -/
theorem goal_x {σ0 σ1 : qC} {nv nc nc' ng lvl k : Nat} {x y : Int} {X Y : Tr} {behind : Int32} (hf : FrB σ0 σ1 nc nc') (hN : σ0.1 6428 = Int32.ofInt ng) (hng : ng < 14000) (hx : k ≠ 0 → MTx (σ1.2 72) (σ1.2 73) (σ1.2 74) nv nc' x X) (hy : 2 ≤ k → MTx (σ1.2 72) (σ1.2 73) (σ1.2 74) nv nc' y Y) :
    ∃ σ', m_goal_144 (Int32.ofInt k) (Int32.ofInt x) (Int32.ofInt y) (Int32.ofInt lvl) behind σ1 = some (Int32.ofInt ng, σ') ∧ G1 σ' nv nc' ng (k, X, Y, lvl) ∧ (σ'.2 82 ng = behind ∧ ∀ i, i < ng → σ'.2 82 i = σ0.2 82 i) ∧ σ'.1 6412 = σ1.1 6412 ∧ FrG σ0 σ' nc nc' ng (ng + 1) := by
  obtain ⟨f1, f2, f3, f4, f5, f6, f7⟩ := hf
  obtain ⟨σ', q1, q2, ⟨q3, q4, q5, q6, q7⟩, q8, q9, q10⟩ := goal_ok (σ := σ1) (ng := ng) (a1 := Int32.ofInt k) (a2 := Int32.ofInt x) (a3 := Int32.ofInt y) (a4 := Int32.ofInt lvl) (a5 := behind) (by rw [f7 _ (by omega) (by omega), hN]) hng
  have e72 := q9 72 (by omega)
  have e73 := q9 73 (by omega)
  have e74 := q9 74 (by omega)
  refine ⟨σ', q1, ⟨x, y, q3, q4, q5, q6, fun z => by rw [e72, e73, e74]; exact hx z, fun z => by rw [e72, e73, e74]; exact hy z⟩, ?_, q10 _ (by omega), f1, by omega, by rw [q10 _ (by omega), f2], q2, fun i hi => by rw [e72, f3 i hi], fun i hi => by rw [e73, f4 i hi], fun i hi => by rw [e74, f5 i hi], fun i hi => ?_, fun k a b c d e => by rw [q9 k e, f6 k a b c d], fun j a b c => by rw [q10 j c, f7 j a b]⟩
  · exact ⟨q7, fun i hi => by rw [(q8 i hi).2.2.2.2, f6 82 (by omega) (by omega) (by omega) (by omega)]⟩
  · obtain ⟨g1, g2, g3, g4, g5⟩ := q8 i hi
    exact ⟨by rw [g1, f6 78 (by omega) (by omega) (by omega) (by omega)], by rw [g2, f6 79 (by omega) (by omega) (by omega) (by omega)], by rw [g3, f6 80 (by omega) (by omega) (by omega) (by omega)], by rw [g4, f6 81 (by omega) (by omega) (by omega) (by omega)]⟩
theorem FrB.src {σ σ' : qC} {nc nc' : Nat} {v : Int32} (h : FrB σ σ' nc nc') : FrB σ (upS σ' 6412 v) nc nc' := by
  obtain ⟨f1, f2, f3, f4, f5, f6, f7⟩ := h
  exact ⟨f1, by rw [upS_1, if_neg (by omega), f2], f3, f4, f5, f6, fun j a b => by rw [upS_1, if_neg a, f7 j a b]⟩
theorem FrB.trans {σ σ' σ'' : qC} {nc nc' nc'' : Nat} (h : FrB σ σ' nc nc') (g : FrB σ' σ'' nc' nc'') : FrB σ σ'' nc nc'' := by
  obtain ⟨f1, f2, f3, f4, f5, f6, f7⟩ := h
  obtain ⟨g1, g2, g3, g4, g5, g6, g7⟩ := g
  exact ⟨by omega, g2, fun i hi => by rw [g3 i (by omega), f3 i hi], fun i hi => by rw [g4 i (by omega), f4 i hi], fun i hi => by rw [g5 i (by omega), f5 i hi], fun k a b c d => by rw [g6 k a b c d, f6 k a b c d], fun j a b => by rw [g7 j a b, f7 j a b]⟩
/-- one turn of the loop: the goal at i is built -/
theorem goal_t {base n env nv i nc ng lvl fuel : Nat} {tx : Nat → Int} {σ : qC} {behind first last : Int32} (hok : (pG tx i).1 = true) (hne : tx (pG tx i).2.1 ≠ 40) (hpre : BP0 σ base n env nv tx i nc) (hN : σ.1 6428 = Int32.ofInt ng) (hng : ng < 14000) (hcap : 2 * nc + 100 ≤ 48000) :
    ∃ (σ' : qC) (nc' : Nat), m_buildGoals_142_l5 (fuel + 1) (Int32.ofInt lvl) behind first last σ = m_buildGoals_142_j158 (m_buildGoals_142_l5 fuel) (Int32.ofInt lvl) behind first last (Int32.ofInt ng) σ' ∧ 2 * nc' + i ≤ 2 * nc + (pG tx i).2.1 + 1 ∧ (pG tx i).2.1 ≤ n ∧ G1 σ' nv nc' ng ((pG tx i).2.2.1, tt tx n 6 (pG tx i).2.2.2.1 env, tt tx n 6 (pG tx i).2.2.2.2 env, lvl) ∧ (σ'.2 82 ng = behind ∧ ∀ i, i < ng → σ'.2 82 i = σ.2 82 i) ∧ σ'.1 6412 = Int32.ofInt (base + (pG tx i).2.1 : Nat) ∧ FrG σ σ' nc nc' ng (ng + 1) := by
  have hpre' := hpre
  obtain ⟨h1, h2, h3, h4, h5, h6⟩ := hpre
  have hb := h1.2.2.1
  have hn48 := h1.2.2.2.1
  have hz := h1.2.2.2.2.1
  have h61 := h1.2.2.2.2.2 i
  have hin : i < n := by
    apply Classical.byContradiction
    intro z
    have hi0 := hz i (by omega)
    rcases pG_cases hok with ⟨a, -⟩ | ⟨-, a, -⟩ | ⟨-, a, -⟩
    · omega
    all_goals
      unfold pT at a
      rw [if_pos (by rw [hi0]; exact ⟨by omega, by omega, by omega⟩)] at a
      cases a
  have fr0 : FrB σ σ nc nc := ⟨Nat.le_refl _, h4, fun _ _ => rfl, fun _ _ => rfl, fun _ _ => rfl, fun _ _ _ _ _ => rfl, fun _ _ _ => rfl⟩
  unfold m_buildGoals_142_l5
  rw [h1.1, h3, if_neg (zleN (by omega) (by omega) (by omega) (by omega) (by omega)), at_ok h1 rfl (by omega), Option.bind_some]
  rcases pG_cases hok with ⟨a, e⟩ | ⟨a, b, k, k1, k2, k3, k4, e, -⟩ | ⟨a, b, c, d, e⟩
  · rw [e] at hne ⊢
    dsimp only at hne ⊢
    rw [if_pos (by rw [a]), zadd]
    dsimp only [qlet]
    obtain ⟨σ', q1, q2, q3, q4, q5⟩ := goal_x (σ0 := σ) (σ1 := upS σ 6412 (Int32.ofInt ((base + i : Nat) + 1))) (nv := nv) (nc := nc) (nc' := nc) (ng := ng) (lvl := lvl) (k := 0) (x := 0) (y := 0) (X := tt tx n 6 i env) (Y := tt tx n 6 i env) (behind := behind) fr0.src hN hng (fun z => absurd rfl z) (fun z => by omega)
    rw [show Int32.ofInt 0 = Int32.ofInt ((0 : Nat) : Int) from rfl] at *
    rw [q1, Option.bind_some]
    exact ⟨σ', nc, rfl, by omega, by omega, q2, q3, by rw [q4, upS_1, if_pos rfl]; rfl, q5⟩
  · rw [e] at hne ⊢
    dsimp only at hne ⊢
    have e1 := pT_ends _ _ b
    have e2 := pT_ends _ _ k4
    have l1 := pT_le hz _ _ b
    have l2 := pT_le hz _ _ k4
    have hk33 : tx i ≠ 33 := a
    rw [if_neg (zeqN a (by omega) (by omega) (by omega) (by omega))]
    obtain ⟨σ1, nc1, x, b1, b2, b3, b4, b5, b6⟩ := build_ok b (by rw [k3]; unfold sgn2; split <;> (try split) <;> (try split) <;> omega) hpre' (by omega) (by omega)
    have hT1 : TXT σ1 base n tx := h1.congr (b6.2.2.2.2.2.2 _ (by omega) (by omega)) (b6.2.2.2.2.2.1 _ (by omega) (by omega) (by omega) (by omega))
    rw [b1, Option.bind_some]
    dsimp only
    rw [b5, at_ok hT1 rfl (by omega), Option.bind_some, k3, zadd]
    obtain ⟨σ2, hσ2⟩ : ∃ σ2, σ2 = upS σ1 6412 (Int32.ofInt ((base + (pT tx 6 i).2.1 : Nat) + 1 : Int)) := ⟨_, rfl⟩
    have eq2 : ∀ (A B C D E : qC → Option (Int32 × qC)), (if Int32.ofInt (sgn2 k) = Int32.ofInt 61 then qlet σ2 A else if Int32.ofInt (sgn2 k) = Int32.ofInt 126 then qlet σ2 B else if Int32.ofInt (sgn2 k) = Int32.ofInt 60 then qlet σ2 C else if Int32.ofInt (sgn2 k) = Int32.ofInt 63 then qlet σ2 D else E σ1) = (if k = 2 then A else if k = 3 then B else if k = 4 then C else D) σ2 := by
      intro A B C D E
      rcases (by omega : k = 2 ∨ k = 3 ∨ k = 4 ∨ k = 5) with z | z | z | z <;> subst z <;> rfl
    rw [← hσ2]
    have s21 : ∀ j, j ≠ 6412 → σ2.1 j = σ1.1 j := fun j a => by rw [hσ2, upS_1, if_neg a]
    have s22 : σ2.2 = σ1.2 := by rw [hσ2]; rfl
    have hB2 : BP0 σ2 base n env nv tx ((pT tx 6 i).2.1 + 1) nc1 := ⟨hT1.congr (s21 _ (by omega)) (by rw [s22]), fun p' hp' hc' => by rw [s22, b6.2.2.2.2.2.1 70 (by omega) (by omega) (by omega) (by omega)]; exact h2 p' hp' hc', by rw [hσ2, upS_1, if_pos rfl]; rfl, by rw [s21 _ (by omega), b6.2.1], h5, h6⟩
    obtain ⟨σ3, nc3, y, c1, c2, c3, c4, c5, c6⟩ := build_ok k4 hne hB2 (by omega) (by omega)
    have fr3 : FrB σ σ3 nc nc3 := FrB.trans (σ' := σ2) (by rw [hσ2]; exact b6.src) c6
    have hx3 : MTx (σ3.2 72) (σ3.2 73) (σ3.2 74) nv nc3 x (tt tx n 6 i env) := by
      refine b4.mono (Nat.le_refl _) c6.1 (fun i hi => ?_) (fun i hi => ?_) (fun i hi => ?_)
      · rw [c6.2.2.1 i hi, s22]
      · rw [c6.2.2.2.1 i hi, s22]
      · rw [c6.2.2.2.2.1 i hi, s22]
    obtain ⟨σ', q1, q2, q3, q4, q5⟩ := goal_x (σ0 := σ) (σ1 := σ3) (nv := nv) (nc := nc) (nc' := nc3) (ng := ng) (lvl := lvl) (k := k) (x := x) (y := y) (X := tt tx n 6 i env) (Y := tt tx n 6 ((pT tx 6 i).2.1 + 1) env) (behind := behind) fr3 hN hng (fun _ => hx3) (fun _ => c4)
    have j132 : m_buildGoals_142_j132 (m_buildGoals_142_l5 fuel) (Int32.ofInt lvl) behind first last (Int32.ofInt x) (Int32.ofInt k) σ2 = m_buildGoals_142_j158 (m_buildGoals_142_l5 fuel) (Int32.ofInt lvl) behind first last (Int32.ofInt ng) σ' := by
      unfold m_buildGoals_142_j132
      rw [if_neg (zeqN (by omega) (by omega) (by omega) (by omega) (by omega)), c1, Option.bind_some]
      dsimp only
      rw [q1, Option.bind_some]
    refine ⟨σ', nc3, ?_, by omega, c3, q2, q3, by rw [q4, c5], q5⟩
    rw [← j132]
    refine (eq2 _ _ _ _ (fun s => m_buildGoals_142_j132 (m_buildGoals_142_l5 fuel) (Int32.ofInt lvl) behind first last (Int32.ofInt x) (Int32.ofInt 1) s)).trans ?_
    rcases (by omega : k = 2 ∨ k = 3 ∨ k = 4 ∨ k = 5) with z | z | z | z <;> subst z <;> rfl
  · rw [e] at hne ⊢
    dsimp only at hne ⊢
    have e1 := pT_ends _ _ b
    have l1 := pT_le hz _ _ b
    have h6e := h1.2.2.2.2.2 (pT tx 6 i).2.1
    rw [if_neg (zeqN a (by omega) (by omega) (by omega) (by omega))]
    obtain ⟨σ1, nc1, x, b1, b2, b3, b4, b5, b6⟩ := build_ok b hne hpre' (by omega) (by omega)
    have hT1 : TXT σ1 base n tx := h1.congr (b6.2.2.2.2.2.2 _ (by omega) (by omega)) (b6.2.2.2.2.2.1 _ (by omega) (by omega) (by omega) (by omega))
    rw [b1, Option.bind_some]
    dsimp only
    rw [b5, at_ok hT1 rfl (by omega), Option.bind_some, if_neg (zeqN c.1 (by omega) (by omega) (by omega) (by omega)), if_neg (zeqN c.2.1 (by omega) (by omega) (by omega) (by omega)), if_neg (zeqN c.2.2.1 (by omega) (by omega) (by omega) (by omega)), if_neg (zeqN c.2.2.2 (by omega) (by omega) (by omega) (by omega))]
    obtain ⟨σ', q1, q2, q3, q4, q5⟩ := goal_x (σ0 := σ) (σ1 := σ1) (nv := nv) (nc := nc) (nc' := nc1) (ng := ng) (lvl := lvl) (k := 1) (x := x) (y := 0) (X := tt tx n 6 i env) (Y := tt tx n 6 i env) (behind := behind) b6 hN hng (fun _ => b4) (fun z => by omega)
    unfold m_buildGoals_142_j132
    rw [if_pos rfl]
    rw [show Int32.ofInt 1 = Int32.ofInt ((1 : Nat) : Int) from rfl, q1, Option.bind_some]
    exact ⟨σ', nc1, rfl, by omega, b3, q2, q3, by rw [q4, b5], q5⟩
