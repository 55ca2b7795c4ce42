/-! D62: the class reads goals, a clause, a question -/
def NGs (B : Nat → Int32) (p : Nat) (tx : Nat → Int) (e : Nat) : List (Nat × Nat × Nat) → Int32 → Prop
  | [], x => x = Int32.ofInt (-1)
  | g :: r, x => x = Int32.ofInt (48 * p + g.2.1 : Nat) ∧ NG B p tx e g ∧ NGs B p tx e r (B (9 * (48 * p + g.2.1) + 7))
theorem noteF_c {σ : qC} {p n i j : Nat} {tx : Nat → Int} {a : Int32} (h : RdC σ p n tx i) (hj : j < 48) :
    ∃ σ', c_noteFollower_46 (Int32.ofInt (48 * p + j : Nat)) a σ = some σ' ∧ RdC σ' p n tx i ∧ σ'.1 = σ.1 ∧ (∀ c, c ≠ 28 → σ'.2 c = σ.2 c) ∧ (∀ k, σ'.2 28 k = if k = 9 * (48 * p + j) + 7 then a else σ.2 28 k) := by
  obtain ⟨h1, h2, h3, h4, h5, h6, h7⟩ := h
  unfold c_noteFollower_46
  rw [tputI (i := 9 * (48 * p + j) + 7) (by omega) (by omega), Option.bind_some]
  obtain ⟨σ3, hσ3⟩ : ∃ σ3, σ3 = upA σ 28 (9 * (48 * p + j) + 7) a := ⟨_, rfl⟩
  rw [← hσ3]
  have s1 : σ3.1 = σ.1 := by rw [hσ3]; rfl
  have sa : ∀ a, a ≠ 28 → σ3.2 a = σ.2 a := fun a ha => by rw [hσ3, upA_ne ha]
  have s28 : ∀ k, σ3.2 28 k = if k = 9 * (48 * p + j) + 7 then a else σ.2 28 k := by
    intro k
    rw [hσ3, upA_eq, fup_at]
  refine ⟨σ3, rfl, ⟨h1.congr (by rw [s1]) (sa 26 (by omega)), by rw [s1, h2], by rw [s1, h3], h4, h5, by rw [sa 30 (by omega), h6], ?_⟩, s1, sa, s28⟩
  exact h7.congr (fun j hj => by rw [s28, if_neg (by omega)]) (fun j hj _ => by rw [s28, if_neg (by omega)])
theorem atEnd_c {σ : qC} {p n i : Nat} {tx : Nat → Int} (h : RdC σ p n tx i) : c_atEnd_41 σ = if n ≤ i then Int32.ofInt 1 else Int32.ofInt 0 := by
  have hn := h.1.2.2.1
  have hi := h.2.2.2.1
  unfold c_atEnd_41 c_length_12
  rw [h.2.2.1, h.1.1]
  by_cases e : n ≤ i
  · rw [if_neg (zltN (by omega) (by omega) (by omega) (by omega) (by omega)), if_pos e]
  · rw [if_pos (zltP (by omega) (by omega) (by omega) (by omega) (by omega)), if_neg e]
theorem rdGs_c {p n : Nat} {tx : Nat → Int} : ∀ (f fuel i c : Nat) (σ : qC), RdC σ p n tx i → n + 1 < 2 * f + i → f ≤ fuel → 2 * c ≤ i →
    ∃ σ', c_readGoals_42_l17 fuel (Int32.ofInt c) σ = some (bo (pGs tx n f i).1, σ') ∧ RdC σ' p n tx (pGs tx n f i).2.1 ∧ FrQ σ σ' p i ∧ ((pGs tx n f i).1 = true → NGs (σ'.2 28) p tx (pGs tx n f i).2.1 (pGs tx n f i).2.2 (Int32.ofInt (48 * p + i : Nat)) ∧ (∀ g, g ∈ (pGs tx n f i).2.2 → i ≤ g.2.1)) := by
  intro f
  induction f with
  | zero =>
    intro fuel i c σ h h1 _ _
    have := h.2.2.2.1
    omega
  | succ f ih =>
    intro fuel i c σ h h1 h2 h3
    obtain ⟨fuel, rfl⟩ : ∃ m, fuel = m + 1 := ⟨fuel - 1, by omega⟩
    have hn := h.1.2.2.1
    have hin := h.2.2.2.1
    have h0 := h.1.2.2.2.1
    obtain ⟨o, ho⟩ : ∃ o, o = c_readGoals_42_l17 (fuel + 1) (Int32.ofInt c) σ := ⟨_, rfl⟩
    rw [← ho]
    unfold c_readGoals_42_l17 at ho
    obtain ⟨σ1, a1, a2, a3, a4⟩ := rdG_c h
    rw [if_neg (zleN (by omega) (by omega) (by omega) (by omega) (by omega)), a1, Option.bind_some] at ho
    have eG : pGs tx n (f + 1) i = if (pG tx i).1 = false then (false, (pG tx i).2.1, []) else if n ≤ (pG tx i).2.1 then (true, (pG tx i).2.1, [(pG tx i).2.2]) else if tx (pG tx i).2.1 ≠ 44 then (false, (pG tx i).2.1, []) else ((pGs tx n f ((pG tx i).2.1 + 1)).1, (pGs tx n f ((pG tx i).2.1 + 1)).2.1, (pG tx i).2.2 :: (pGs tx n f ((pG tx i).2.1 + 1)).2.2) := rfl
    rw [eG]
    by_cases hg : (pG tx i).1 = false
    · rw [hg, if_pos (by show Int32.ofInt 0 = 0; decide)] at ho
      rw [if_pos hg, ho]
      exact ⟨σ1, rfl, a2, a3, fun z => absurd z (by show ¬ false = true; simp)⟩
    have hg' : (pG tx i).1 = true := by simpa using hg
    obtain ⟨g1, g2, g3⟩ := a4 hg'
    have hends := pG_ends hg'
    have hi1 := a2.2.2.2.1
    rw [hg', if_neg (by show ¬ Int32.ofInt 1 = 0; decide), atEnd_c a2] at ho
    rw [if_neg hg]
    by_cases he : n ≤ (pG tx i).2.1
    · rw [if_pos he, if_neg (by decide)] at ho
      rw [if_pos he, ho]
      refine ⟨σ1, rfl, a2, a3, fun _ => ⟨⟨by rw [g2], g1, ?_⟩, ?_⟩⟩
      · show σ1.2 28 (9 * (48 * p + (pG tx i).2.2.2.1) + 7) = _
        rw [g2, g3]
      · intro g hgm
        rcases List.mem_cons.mp hgm with e | e
        · rw [e, g2]
          exact Nat.le_refl _
        · cases e
    rw [if_neg he, if_pos (by decide), readSign_c a2 (by omega)] at ho
    rw [if_neg he]
    by_cases h44 : tx (pG tx i).2.1 = 44
    · rw [if_pos h44, Option.bind_some, if_neg (by show ¬ Int32.ofInt 1 = 0; decide)] at ho
      rw [if_neg (fun z => z h44)]
      have hP2 := a2.up (by omega) (show ¬ isCa (tx (pG tx i).2.1) by omega)
      rw [node_c h, node_c hP2] at ho
      obtain ⟨σ2, b1, b2, b3, b4, b5⟩ := noteF_c (a := Int32.ofInt (48 * p + ((pG tx i).2.1 + 1) : Nat)) hP2 (show i < 48 by omega)
      rw [b1, Option.bind_some, zadd, show ((c : Int) + 1) = ((c + 1 : Nat) : Int) by omega] at ho
      obtain ⟨σ3, d1, d2, d3, d4⟩ := ih fuel ((pG tx i).2.1 + 1) (c + 1) σ2 b2 (by omega) (by omega) (by omega)
      have fr2 : FrQ σ1 σ2 p i := ⟨fun j hj => by rw [b3, upS_1, if_neg hj], fun a x y => by rw [b4 a x, upS_2], fun k _ => by rw [b4 30 (by omega), upS_2], fun k hk => by rw [b5, if_neg (by omega), upS_2]⟩
      refine ⟨σ3, ho.trans d1, d2, (a3.trans fr2 (Nat.le_refl _)).trans d3 (by omega), fun z => ?_⟩
      obtain ⟨z1, z2⟩ := d4 z
      have z3 := pGs_ne f ((pG tx i).2.1 + 1) z
      refine ⟨⟨by rw [g2], ?_, ?_⟩, ?_⟩
      · refine g1.congr (fun x x1 x2 x3 => ?_) (by dsimp only; omega)
        rw [g2] at x1 x3
        rw [d3.2.2.2 x (by omega), b5, if_neg x3, upS_2]
      · have e7 : σ3.2 28 (9 * (48 * p + (pG tx i).2.2.2.1) + 7) = Int32.ofInt (48 * p + ((pG tx i).2.1 + 1) : Nat) := by
          rw [g2, d3.2.2.2 _ (by omega), b5, if_pos rfl]
        show NGs (σ3.2 28) p tx _ _ (σ3.2 28 (9 * (48 * p + (pG tx i).2.2.2.1) + 7))
        rw [e7]
        exact z1
      · intro g hgm
        rcases List.mem_cons.mp hgm with e | e
        · rw [e, g2]
          exact Nat.le_refl _
        · have := z2 g e
          omega
    · rw [if_neg h44, Option.bind_some, if_pos (by show Int32.ofInt 0 = 0; decide)] at ho
      rw [if_pos h44, ho]
      exact ⟨σ1, rfl, a2, a3, fun z => absurd z (by show ¬ false = true; simp)⟩
/-- what reading a page leaves -/
def FrP (σ σ' : qC) (p lo : Nat) : Prop := (∀ j, j ≠ 3203 → σ'.1 j = σ.1 j) ∧ (∀ a, a ≠ 28 → a ≠ 30 → σ'.2 a = σ.2 a) ∧ (∀ k, k ≠ 4 * p → k ≠ 4 * p + 1 → σ'.2 30 k = σ.2 30 k) ∧ (∀ k, k < 9 * (48 * p + lo) ∨ (9 * (48 * p + 48) ≤ k ∧ k ≠ 9 * (48 * p + 48) + 5 ∧ k ≠ 9 * (48 * p + 48) + 6 ∧ k ≠ 9 * (48 * p + 48) + 7) → σ'.2 28 k = σ.2 28 k)
theorem FrQ.p {σ σ' : qC} {p lo : Nat} (h : FrQ σ σ' p lo) : FrP σ σ' p lo := ⟨h.1, h.2.1, fun k a _ => h.2.2.1 k a, h.2.2.2⟩
theorem FrP.trans {σ σ' σ'' : qC} {p lo lo' : Nat} (h : FrP σ σ' p lo) (g : FrP σ' σ'' p lo') (hl : lo ≤ lo') : FrP σ σ'' p lo :=
  ⟨fun j hj => by rw [g.1 j hj, h.1 j hj], fun a x y => by rw [g.2.1 a x y, h.2.1 a x y], fun k hk hk' => by rw [g.2.2.1 k hk hk', h.2.2.1 k hk hk'], fun k hk => by rw [g.2.2.2 k (by omega), h.2.2.2 k hk]⟩
theorem readGs_c {σ : qC} {p n i : Nat} {tx : Nat → Int} (h : RdC σ p n tx i) :
    ∃ σ', c_readGoals_42 σ = some (bo (pGs tx n 48 i).1, σ') ∧ RdC σ' p n tx (pGs tx n 48 i).2.1 ∧ FrP σ σ' p i ∧ ((pGs tx n 48 i).1 = true → NGs (σ'.2 28) p tx (pGs tx n 48 i).2.1 (pGs tx n 48 i).2.2 (σ'.2 30 (4 * p + 1)) ∧ (∀ g, g ∈ (pGs tx n 48 i).2.2 → i ≤ g.2.1)) := by
  have hn := h.1.2.2.1
  have hp := h.2.2.2.2.1
  unfold c_readGoals_42 c_noteFirstGoal_43
  rw [node_c h, h.2.1, tputI (i := 4 * p + 1) (by omega) (by omega), Option.bind_some, Option.bind_some]
  obtain ⟨h1, h2, h3, h4, h5, h6, h7⟩ := h
  have h' : RdC (upA σ 30 (4 * p + 1) (Int32.ofInt (48 * p + i : Nat))) p n tx i := ⟨h1.congr rfl (by rw [upA_ne (by omega)]), h2, h3, h4, h5, by rw [upA_eq, fup_at, if_neg (by omega), h6], by rw [upA_ne (by omega)]; exact h7⟩
  obtain ⟨σ', a1, a2, a3, a4⟩ := rdGs_c 48 qF i 0 _ h' (by omega) (by unfold qF; omega) (by omega)
  refine ⟨σ', a1, a2, ⟨a3.1, fun a x y => by rw [a3.2.1 a x y, upA_ne y], fun k x y => by rw [a3.2.2.1 k x, upA_eq, fup_at, if_neg y], fun k hk => by rw [a3.2.2.2 k hk, upA_ne (by omega)]⟩, fun z => ?_⟩
  obtain ⟨b1, b2⟩ := a4 z
  refine ⟨?_, b2⟩
  rw [a3.2.2.1 _ (by omega), upA_eq, fup_at, if_pos rfl]
  exact b1
