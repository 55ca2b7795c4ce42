/-! D46: the reference builds a text's goals -/
theorem FrG.trans {σ σ' σ'' : qC} {nc nc' nc'' ng ng' ng'' : Nat} (h : FrG σ σ' nc nc' ng ng') (g : FrG σ' σ'' nc' nc'' ng' ng'') : FrG σ σ'' nc nc'' ng ng'' := by
  obtain ⟨f1, f2, f3, f4, f5, f6, f7, f8, f9, f10⟩ := h
  obtain ⟨g1, g2, g3, g4, g5, g6, g7, g8, g9, g10⟩ := g
  refine ⟨by omega, by omega, g3, g4, fun i hi => by rw [g5 i (by omega), f5 i hi], fun i hi => by rw [g6 i (by omega), f6 i hi], fun i hi => by rw [g7 i (by omega), f7 i hi], fun i hi => ?_, fun k a b c d e => by rw [g9 k a b c d e, f9 k a b c d e], fun j a b c => by rw [g10 j a b c, f10 j a b c]⟩
  obtain ⟨a1, a2, a3, a4⟩ := g8 i (by omega)
  obtain ⟨b1, b2, b3, b4⟩ := f8 i hi
  exact ⟨by rw [a1, b1], by rw [a2, b2], by rw [a3, b3], by rw [a4, b4]⟩
/-- goals q, q+1, .. one after the other, then behind -/
def GL (σ : qC) (nv nc : Nat) : List Go → Nat → Int32 → Prop
  | [], _, _ => True
  | q :: r, g, b => G1 σ nv nc g q ∧ q.1 ≤ 5 ∧ q.2.2.2 ≤ 20000 ∧ (σ.2 82 g = if r = [] then b else Int32.ofInt (g + 1 : Nat)) ∧ GL σ nv nc r (g + 1) b
theorem GL.rtm {σ : qC} {nv nc ng : Nat} {rest : List Go} {b : Int} (hr : RTM σ nv nc ng rest b) : ∀ {l : List Go} {g : Nat}, GL σ nv nc l g (Int32.ofInt b) → l ≠ [] → g + l.length ≤ ng → RTM σ nv nc ng (l ++ rest) g
  | [], g, h, hl, _ => absurd rfl hl
  | q :: r, g, h, hl, hg => by
    obtain ⟨⟨x, y, a1, a2, a3, a4, a5, a6⟩, h1, h1b, h2, h3⟩ := h
    rw [List.length_cons] at hg
    have hb := hr.lt
    by_cases hr0 : r = []
    · subst hr0
      rw [if_pos rfl] at h2
      exact ⟨g, x, y, b, rfl, by omega, ⟨a1, h1, a2, a3, a4, h1b, h2⟩, hb, a5, a6, hr⟩
    · rw [if_neg hr0] at h2
      have := GL.rtm hr h3 hr0 (by omega)
      have hlen : 0 < r.length := List.length_pos_iff.mpr hr0
      exact ⟨g, x, y, (g + 1 : Nat), rfl, by omega, ⟨a1, h1, a2, a3, a4, h1b, h2⟩, by omega, a5, a6, this⟩
theorem GL.mono {σ σ' : qC} {nv nc nc' ng ng' : Nat} {b : Int32} (hf : FrG σ σ' nc nc' ng ng') : ∀ {l : List Go} {g : Nat}, GL σ nv nc l g b → g + l.length ≤ ng → (∀ i, g ≤ i → i < g + l.length → σ'.2 82 i = σ.2 82 i) → GL σ' nv nc' l g b
  | [], _, _, _, _ => trivial
  | q :: r, g, h, hg, h82 => by
    obtain ⟨h0, h1, h1b, h2, h3⟩ := h
    rw [List.length_cons] at hg h82
    exact ⟨h0.mono hf (by omega), h1, h1b, by rw [h82 g (by omega) (by omega), h2], GL.mono hf h3 (by omega) (fun i a b => h82 i (by omega) (by omega))⟩
def mkG (tx : Nat → Int) (n env lvl : Nat) (g : Nat × Nat × Nat) : Go := (g.1, tt tx n 6 g.2.1 env, tt tx n 6 g.2.2 env, lvl)
theorem pG_kind {tx : Nat → Int} {i : Nat} (h : (pG tx i).1 = true) : (pG tx i).2.2.1 ≤ 5 := by
  rcases pG_cases h with ⟨-, e⟩ | ⟨-, h1, k, -, hk, -, h2, e, -⟩ | ⟨-, h1, -, -, e⟩ <;> rw [e] <;> dsimp only <;> omega
theorem pG_le {tx : Nat → Int} {n i : Nat} (h0 : ∀ p, n ≤ p → tx p = 0) (h : (pG tx i).1 = true) : (pG tx i).2.1 ≤ n := by
  rcases pG_cases h with ⟨a, e⟩ | ⟨-, h1, k, -, hk, -, h2, e, -⟩ | ⟨-, h1, -, -, e⟩
  · rw [e]
    dsimp only
    apply Classical.byContradiction
    intro z
    have := h0 i (by omega)
    omega
  · rw [e]; exact pT_le h0 _ _ h2
  · rw [e]; exact pT_le h0 _ _ h1
theorem pGs_ne {tx : Nat → Int} {n : Nat} : ∀ (f i : Nat), (pGs tx n f i).1 = true → (pGs tx n f i).2.2 ≠ [] ∧ i < (pGs tx n f i).2.1 := by
  intro f
  induction f with
  | zero => intro i h; cases h
  | succ f ih =>
    intro i h
    unfold pGs at h ⊢
    by_cases h1 : (pG tx i).1 = false
    · rw [if_pos h1] at h; cases h
    rw [if_neg h1] at h ⊢
    have e1 := pG_ends (tx := tx) (i := i) (by simpa using h1)
    by_cases h2 : n ≤ (pG tx i).2.1
    · rw [if_pos h2]
      exact ⟨by simp, e1⟩
    rw [if_neg h2] at h ⊢
    by_cases h3 : tx (pG tx i).2.1 ≠ 44
    · rw [if_pos h3] at h; cases h
    rw [if_neg h3] at h ⊢
    have := ih _ h
    exact ⟨by simp, by dsimp only; omega⟩
set_option maxHeartbeats 1000000 in
theorem goals_t {base n env nv lvl : Nat} {tx : Nat → Int} {behind : Int32} (hlvl : lvl ≤ 20000) : ∀ (f i nc ng fuel : Nat) (first last : Int) (σ : qC), (pGs tx n f i).1 = true → BP0 σ base n env nv tx i nc → σ.1 6428 = Int32.ofInt ng → 2 * ng + n + 1 < 27900 + i → 2 * nc + n + 101 ≤ 48000 + i → (first < 0 ∧ last < 0 ∧ -2 < first ∧ -2 < last ∨ 0 ≤ first ∧ first < 14000 ∧ 0 ≤ last ∧ last < ng) → n < fuel + i →
    ∃ (σ' : qC) (nc' ng' : Nat), m_buildGoals_142_l5 (fuel + 1) (Int32.ofInt lvl) behind (Int32.ofInt first) (Int32.ofInt last) σ = some (Int32.ofInt (if 0 ≤ first then first else ng), σ') ∧ 2 * nc' + i ≤ 2 * nc + n + 1 ∧ 2 * ng' + i ≤ 2 * ng + n + 1 ∧ ng' = ng + (pGs tx n f i).2.2.length ∧ GL σ' nv nc' ((pGs tx n f i).2.2.map (mkG tx n env lvl)) ng behind ∧ (∀ x, x < ng → σ'.2 82 x = if (x : Int) = last then Int32.ofInt ng else σ.2 82 x) ∧ FrG σ σ' nc nc' ng ng' := by
  intro f
  induction f with
  | zero => intro i nc ng fuel first last σ h; cases h
  | succ f ih =>
    intro i nc ng fuel first last σ hok hpre hN hcg hcc hfl hfuel
    have h0 := hpre.1.2.2.2.2.1
    have hb := hpre.1.2.2.1
    have hn48 := hpre.1.2.2.2.1
    have eA : pGs tx n (f + 1) i = if (pG tx i).1 = false then (false, (pG tx i).2.1, []) else if n ≤ (pG tx i).2.1 then (true, (pG tx i).2.1, [(pG tx i).2.2]) else if tx (pG tx i).2.1 ≠ 44 then (false, (pG tx i).2.1, []) else ((pGs tx n f ((pG tx i).2.1 + 1)).1, (pGs tx n f ((pG tx i).2.1 + 1)).2.1, (pG tx i).2.2 :: (pGs tx n f ((pG tx i).2.1 + 1)).2.2) := rfl
    rw [eA] at hok ⊢
    by_cases h1 : (pG tx i).1 = false
    · rw [if_pos h1] at hok; cases hok
    rw [if_neg h1] at hok ⊢
    have h1' : (pG tx i).1 = true := by simpa using h1
    have hie := pG_ends h1'
    have hle := pG_le h0 h1'
    have hk5 := pG_kind h1'
    have hne : tx (pG tx i).2.1 ≠ 40 := by
      by_cases h2 : n ≤ (pG tx i).2.1
      · rw [h0 _ h2]; omega
      · rw [if_neg h2] at hok
        intro z
        rw [if_pos (by omega)] at hok
        cases hok
    obtain ⟨σ1, nc1, b1, b2, b3, b4, ⟨b5, b5'⟩, b6, b7⟩ := goal_t (base := base) (n := n) (env := env) (nv := nv) (lvl := lvl) (fuel := fuel) (behind := behind) (first := Int32.ofInt first) (last := Int32.ofInt last) h1' hne hpre hN (by omega) (by omega)
    rw [b1]
    -- the goal is hung
    have hh : ∃ σ2, m_buildGoals_142_j158 (m_buildGoals_142_l5 fuel) (Int32.ofInt lvl) behind (Int32.ofInt first) (Int32.ofInt last) (Int32.ofInt ng) σ1 = m_buildGoals_142_l5 fuel (Int32.ofInt lvl) behind (Int32.ofInt (if 0 ≤ first then first else ng)) (Int32.ofInt ng) σ2 ∧ (∀ k, k ≠ 82 → σ2.2 k = σ1.2 k) ∧ (∀ j, j ≠ 6412 → σ2.1 j = σ1.1 j) ∧ σ2.1 6412 = Int32.ofInt (base + ((pG tx i).2.1 + 1) : Nat) ∧ (∀ x, σ2.2 82 x = if (x : Int) = last then Int32.ofInt ng else σ1.2 82 x) := by
      unfold m_buildGoals_142_j158 m_buildGoals_142_j188
      dsimp only [qlet]
      rw [b6, zadd, z0]
      rcases hfl with ⟨f1, f2, f3, f4⟩ | ⟨f1, f2, f3, f4⟩
      · rw [if_pos (zltP f2 (by omega) (by omega) (by omega) (by omega)), if_neg (by omega)]
        exact ⟨_, rfl, fun _ _ => rfl, fun j a => by rw [upS_1, if_neg a], by rw [upS_1, if_pos rfl]; rfl, fun x => by rw [upS_2, if_neg (by omega)]⟩
      · rw [if_neg (zltN f3 (by omega) (by omega) (by omega) (by omega)), if_pos f1, aputI (i := last.toNat) (by omega) (by omega) (by omega), Option.bind_some]
        refine ⟨_, rfl, fun k a => by rw [upA_ne a]; rfl, fun j a => by rw [upA_1, upS_1, if_neg a], by rw [upA_1, upS_1, if_pos rfl]; rfl, fun x => ?_⟩
        rw [upA_eq, fup_at, upS_2]
        by_cases hx : x = last.toNat
        · rw [if_pos hx, if_pos (by omega)]
        · rw [if_neg hx, if_neg (by omega)]
    obtain ⟨σ2, c1, c2, c3, c4, c5⟩ := hh
    rw [c1]
    have fr2 : FrG σ σ2 nc nc1 ng (ng + 1) := by
      obtain ⟨f1, f2, f3, f4, f5, f6, f7, f8, f9, f10⟩ := b7
      refine ⟨f1, f2, by rw [c3 _ (by omega), f3], by rw [c3 _ (by omega), f4], fun i hi => by rw [c2 _ (by omega), f5 i hi], fun i hi => by rw [c2 _ (by omega), f6 i hi], fun i hi => by rw [c2 _ (by omega), f7 i hi], fun i hi => ?_, fun k a b c d e => by rw [c2 k (by omega), f9 k a b c d e], fun j a b c => by rw [c3 j a, f10 j a b c]⟩
      rw [c2 _ (by omega), c2 _ (by omega), c2 _ (by omega), c2 _ (by omega)]
      exact f8 i hi
    have hfst : 0 ≤ (if 0 ≤ first then first else (ng : Int)) ∧ (if 0 ≤ first then first else (ng : Int)) < 14000 := by split <;> omega
    have g12 : G1 σ2 nv nc1 ng (mkG tx n env lvl (pG tx i).2.2) := by
      obtain ⟨x, y, a1, a2, a3, a4, a5, a6⟩ := b4
      refine ⟨x, y, by rw [c2 _ (by omega)]; exact a1, by rw [c2 _ (by omega)]; exact a2, by rw [c2 _ (by omega)]; exact a3, by rw [c2 _ (by omega)]; exact a4, ?_, ?_⟩
      · rw [c2 _ (by omega), c2 _ (by omega), c2 _ (by omega)]; exact a5
      · rw [c2 _ (by omega), c2 _ (by omega), c2 _ (by omega)]; exact a6
    by_cases h2 : n ≤ (pG tx i).2.1
    · rw [if_pos h2]
      dsimp only
      cases fuel with
      | zero => omega
      | succ fuel =>
        unfold m_buildGoals_142_l5
        rw [c3 _ (by omega), b7.2.2.2.2.2.2.2.2.2 _ (by omega) (by omega) (by omega), hpre.1.1, c4, if_pos (zleP (by omega) (by omega) (by omega) (by omega) (by omega)), z0, if_pos (zleP hfst.1 (by omega) (by omega) (by omega) (by omega))]
        refine ⟨σ2, nc1, ng + 1, rfl, by omega, by omega, rfl, ⟨g12, hk5, hlvl, ?_, trivial⟩, fun x hx => by rw [c5 x, b5' x hx], fr2⟩
        rw [List.map_nil, if_pos rfl, c5, if_neg (by rcases hfl with h | h <;> omega), b5]
    · rw [if_neg h2] at hok ⊢
      by_cases h3 : tx (pG tx i).2.1 ≠ 44
      · rw [if_pos h3] at hok; cases hok
      rw [if_neg h3] at hok ⊢
      dsimp only at hok ⊢
      cases fuel with
      | zero => omega
      | succ fuel =>
        have hpre2 : BP0 σ2 base n env nv tx ((pG tx i).2.1 + 1) nc1 := ⟨hpre.1.congr (fr2.2.2.2.2.2.2.2.2.2 _ (by omega) (by omega) (by omega)) (fr2.2.2.2.2.2.2.2.2.1 _ (by omega) (by omega) (by omega) (by omega) (by omega)), fun p' hp' hc' => by rw [fr2.2.2.2.2.2.2.2.2.1 70 (by omega) (by omega) (by omega) (by omega) (by omega)]; exact hpre.2.1 p' hp' hc', c4, fr2.2.2.1, hpre.2.2.2.2⟩
        obtain ⟨σ', nc', ng', d1, d2, d3, d4, d5, d6, d7⟩ := ih ((pG tx i).2.1 + 1) nc1 (ng + 1) fuel (if 0 ≤ first then first else ng) ng σ2 hok hpre2 fr2.2.2.2.1 (by omega) (by omega) (Or.inr ⟨hfst.1, hfst.2, by omega, by omega⟩) (by omega)
        rw [d1]
        have hne2 := (pGs_ne _ _ hok).1
        refine ⟨σ', nc', ng', ?_, by omega, by omega, by rw [d4, List.length_cons]; omega, ?_, fun x hx => ?_, fr2.trans d7⟩
        · rw [if_pos hfst.1]
        · rw [List.map_cons]
          refine ⟨g12.mono d7 (by omega), hk5, hlvl, ?_, d5⟩
          rw [if_neg (by simpa using hne2), d6 ng (by omega), if_pos rfl]
        · rw [d6 x (by omega), if_neg (by omega), c5 x, b5' x hx]
