/-! D63: the class ranks variables; begins; reads a clause, a question -/
def rkB (tx : Nat → Int) (n : Nat) (s : Int) : Int32 := Int32.ofInt (rnk tx n (s - 65).toNat : Nat)
/-- after the ranking -/
def RkP (σ σ' : qC) (p : Nat) : Prop := σ'.1 = σ.1 ∧ (∀ a, a ≠ 28 → σ'.2 a = σ.2 a) ∧ (∀ k, ¬ (9 * (48 * p) ≤ k ∧ k < 9 * (48 * p + 48) ∧ k % 9 = 8) → σ'.2 28 k = σ.2 28 k)
theorem rank_c {p n e : Nat} {tx : Nat → Int} (hp : p < 13) (hr : ∀ p, 0 ≤ tx p ∧ tx p ≤ 126) : ∀ (m j fuel : Nat) (σ : qC), j + m = 48 → m < fuel → SGc (σ.2 28) p tx e →
    ∃ σ', c_rankVariables_47_l12 fuel (Int32.ofInt p) (Int32.ofInt (bval (mkB tx n) 26 : Nat)) (Int32.ofInt j) σ = some σ' ∧ RkP σ σ' p ∧ (∀ x, x < j → σ'.2 28 (9 * (48 * p + x) + 8) = σ.2 28 (9 * (48 * p + x) + 8)) ∧ (∀ x s, j ≤ x → x < 48 → (0 ≤ s ∧ s ≤ 126) → σ.2 28 (9 * (48 * p + x)) = Int32.ofInt s → σ'.2 28 (9 * (48 * p + x) + 8) = if isCa s then rkB tx n s else σ.2 28 (9 * (48 * p + x) + 8)) := by
  intro m
  induction m with
  | zero =>
    intro j fuel σ hj hf hs
    obtain ⟨fuel, rfl⟩ : ∃ m, fuel = m + 1 := ⟨fuel - 1, by omega⟩
    unfold c_rankVariables_47_l12
    rw [if_pos (zleP (by omega) (by omega) (by omega) (by omega) (by omega))]
    exact ⟨σ, rfl, ⟨rfl, fun _ _ => rfl, fun _ _ => rfl⟩, fun _ _ => rfl, fun x s a b => by omega⟩
  | succ m ih =>
    intro j fuel σ hj hf hs
    obtain ⟨fuel, rfl⟩ : ∃ m, fuel = m + 1 := ⟨fuel - 1, by omega⟩
    obtain ⟨s, s1, s2⟩ := hs j (by omega)
    have hrj := hr j
    have hs0 : 0 ≤ s ∧ s ≤ 126 := by omega
    unfold c_rankVariables_47_l12 c_firstNode_31
    rw [if_neg (zleN (by omega) (by omega) (by omega) (by omega) (by omega)), zmul, zadd, show (p : Int) * 48 + (j : Int) = ((48 * p + j : Nat) : Int) by omega, rd_sign (by omega), s1, cap_c hs0, zadd, show ((j : Int) + 1) = ((j + 1 : Nat) : Int) by omega]
    by_cases hc : isCa s
    · rw [if_pos hc, if_neg (by decide), zsub, show s - 65 = (((s - 65).toNat : Nat) : Int) by omega]
      rw [zshl ⟨(s - 65).toNat, by omega⟩]
      have h2 : 1 ≤ 2 ^ (s - 65).toNat := Nat.one_le_two_pow
      rw [show Int32.ofInt 1 = Int32.ofInt ((1 : Nat) : Int) from rfl, zsubN _ _ h2, zand, bval_and _ (by omega), bitCount26, bcnt_low, show min 26 (s - 65).toNat = (s - 65).toNat by omega, show bcnt (mkB tx n) (s - 65).toNat = rnk tx n (s - 65).toNat from (rnk_cnt _).symm, tputI (i := 9 * (48 * p + j) + 8) (by omega) (by omega), Option.bind_some]
      obtain ⟨σ1, hσ1⟩ : ∃ σ1, σ1 = upA σ 28 (9 * (48 * p + j) + 8) (Int32.ofInt (rnk tx n (s - 65).toNat : Nat)) := ⟨_, rfl⟩
      rw [← hσ1]
      have f28 : ∀ k, σ1.2 28 k = if k = 9 * (48 * p + j) + 8 then Int32.ofInt (rnk tx n (s - 65).toNat : Nat) else σ.2 28 k := fun k => by rw [hσ1, upA_eq, fup_at]
      obtain ⟨σ', a1, ⟨a2, a3, a4⟩, a5, a6⟩ := ih (j + 1) fuel σ1 (by omega) (by omega) (hs.congr (fun x hx => by rw [f28, if_neg (by omega)]) (fun x hx _ => by rw [f28, if_neg (by omega)]))
      refine ⟨σ', a1, ⟨by rw [a2, hσ1]; rfl, fun a x => by rw [a3 a x, hσ1, upA_ne x], fun k hk => by rw [a4 k hk, f28, if_neg (by omega)]⟩, fun x hx => by rw [a5 x (by omega), f28, if_neg (by omega)], fun x t x1 x2 x3 x4 => ?_⟩
      by_cases e : x = j
      · subst e
        have : s = t := by
          have hh := s1.symm.trans x4
          rwa [zeq (by omega) (by omega) (by omega) (by omega)] at hh
        subst this
        rw [a5 x (by omega), f28, if_pos rfl, if_pos hc]
        rfl
      · have e8 : σ1.2 28 (9 * (48 * p + x) + 8) = σ.2 28 (9 * (48 * p + x) + 8) := by rw [f28, if_neg (by omega)]
        rw [a6 x t (by omega) x2 x3 (by rw [f28, if_neg (by omega), x4]), e8]
    · rw [if_neg hc, if_pos (by decide)]
      obtain ⟨σ', a1, a2, a5, a6⟩ := ih (j + 1) fuel σ (by omega) (by omega) hs
      refine ⟨σ', a1, a2, fun x hx => a5 x (by omega), fun x t x1 x2 x3 x4 => ?_⟩
      by_cases e : x = j
      · subst e
        have : s = t := by
          have hh := s1.symm.trans x4
          rwa [zeq (by omega) (by omega) (by omega) (by omega)] at hh
        subst this
        rw [a5 x (by omega), if_neg hc]
      · exact a6 x t (by omega) x2 x3 x4
theorem rankV_c {σ : qC} {p n i : Nat} {tx : Nat → Int} (h : RdC σ p n tx i) :
    ∃ σ', c_rankVariables_47 (Int32.ofInt p) σ = some σ' ∧ RkP σ σ' p ∧ (∀ x s, x < 48 → (0 ≤ s ∧ s ≤ 126) → σ.2 28 (9 * (48 * p + x)) = Int32.ofInt s → σ'.2 28 (9 * (48 * p + x) + 8) = if isCa s then rkB tx i s else σ.2 28 (9 * (48 * p + x) + 8)) := by
  have hp := h.2.2.2.2.1
  unfold c_rankVariables_47
  rw [tatI (i := 4 * p) (by omega) (by omega), h.2.2.2.2.2.1]
  obtain ⟨σ', a1, a2, -, a4⟩ := rank_c (n := i) (e := i) hp h.1.2.2.2.2 48 0 qF σ (by omega) (by unfold qF; omega) h.2.2.2.2.2.2
  exact ⟨σ', a1, a2, fun x s x1 x2 x3 => a4 x s (by omega) x1 x2 x3⟩
/-- a page is cleared -/
theorem clearL_c {p : Nat} (hp : p < 13) : ∀ (m j fuel : Nat) (σ : qC), j + m = 48 → m < fuel →
    ∃ σ', c_clearPage_29_l22 fuel (Int32.ofInt p) (Int32.ofInt j) σ = some σ' ∧ σ'.1 = σ.1 ∧ (∀ a, a ≠ 28 → σ'.2 a = σ.2 a) ∧ (∀ k, ¬ (9 * (48 * p) ≤ k ∧ k < 9 * (48 * p + 48)) → σ'.2 28 k = σ.2 28 k) ∧ (∀ x, x < j → σ'.2 28 (9 * (48 * p + x)) = σ.2 28 (9 * (48 * p + x))) ∧ (∀ x, j ≤ x → x < 48 → σ'.2 28 (9 * (48 * p + x)) = Int32.ofInt 0) := by
  intro m
  induction m with
  | zero =>
    intro j fuel σ hj hf
    obtain ⟨fuel, rfl⟩ : ∃ m, fuel = m + 1 := ⟨fuel - 1, by omega⟩
    unfold c_clearPage_29_l22
    rw [if_pos (zleP (by omega) (by omega) (by omega) (by omega) (by omega))]
    exact ⟨σ, rfl, rfl, fun _ _ => rfl, fun _ _ => rfl, fun _ _ => rfl, fun x a b => by omega⟩
  | succ m ih =>
    intro j fuel σ hj hf
    obtain ⟨fuel, rfl⟩ : ∃ m, fuel = m + 1 := ⟨fuel - 1, by omega⟩
    unfold c_clearPage_29_l22 c_firstNode_31
    rw [if_neg (zleN (by omega) (by omega) (by omega) (by omega) (by omega)), zmul, zadd, zadd, tputI (i := 9 * (48 * p + j)) (by omega) (by omega), Option.bind_some, show ((j : Int) + 1) = ((j + 1 : Nat) : Int) by omega]
    obtain ⟨σ1, hσ1⟩ : ∃ σ1, σ1 = upA σ 28 (9 * (48 * p + j)) (Int32.ofInt 0) := ⟨_, rfl⟩
    rw [← hσ1]
    have f28 : ∀ k, σ1.2 28 k = if k = 9 * (48 * p + j) then Int32.ofInt 0 else σ.2 28 k := fun k => by rw [hσ1, upA_eq, fup_at]
    obtain ⟨σ', a1, a2, a3, a4, a5, a6⟩ := ih (j + 1) fuel σ1 (by omega) (by omega)
    refine ⟨σ', a1, by rw [a2, hσ1]; rfl, fun a x => by rw [a3 a x, hσ1, upA_ne x], fun k hk => by rw [a4 k hk, f28, if_neg (by omega)], fun x hx => by rw [a5 x (by omega), f28, if_neg (by omega)], fun x x1 x2 => ?_⟩
    by_cases e : x = j
    · subst e
      rw [a5 x (by omega), f28, if_pos rfl]
    · exact a6 x (by omega) x2
theorem bval_none : ∀ m, bval (fun _ => false) m = 0
  | 0 => rfl
  | m + 1 => by
    show bval _ m + 2 ^ m * 0 = 0
    rw [bval_none m]
    rfl
theorem begin_c {σ : qC} {p n : Nat} {tx : Nat → Int} (h : TXc σ n tx) (hp : p < 13) :
    ∃ σ', c_begin_28 (Int32.ofInt p) σ = some σ' ∧ RdC σ' p n tx 0 ∧ FrP (upS (upS σ 3202 (Int32.ofInt p)) 3203 (Int32.ofInt 0)) σ' p 0 ∧ σ'.2 30 (4 * p + 1) = Int32.ofInt (-1) ∧ σ'.1 3203 = Int32.ofInt 0 := by
  unfold c_begin_28
  dsimp only [qlet]
  obtain ⟨σ1, hσ1⟩ : ∃ σ1, σ1 = upS (upS σ 3202 (Int32.ofInt p)) 3203 (Int32.ofInt 0) := ⟨_, rfl⟩
  rw [← hσ1]
  have e1 : σ1.1 3202 = Int32.ofInt p := by rw [hσ1, upS_1, if_neg (by omega), upS_1, if_pos rfl]
  have e2 : σ1.1 3203 = Int32.ofInt 0 := by rw [hσ1, upS_1, if_pos rfl]
  have e3 : σ1.1 2501 = σ.1 2501 := by rw [hσ1, upS_1, if_neg (by omega), upS_1, if_neg (by omega)]
  have e4 : σ1.2 = σ.2 := by rw [hσ1]; rfl
  unfold c_clearPage_29
  rw [e1, tputI (i := 4 * p) (by omega) (by omega), Option.bind_some, tputI (i := 4 * p + 1) (by omega) (by omega), Option.bind_some]
  obtain ⟨σ', a1, a2, a3, a4, -, a6⟩ := clearL_c hp 48 0 qF (upA (upA σ1 30 (4 * p) (Int32.ofInt 0)) 30 (4 * p + 1) (Int32.ofInt (-1))) (by omega) (by unfold qF; omega)
  rw [show Int32.ofInt ((0 : Nat) : Int) = Int32.ofInt 0 from rfl] at a1
  rw [a1, Option.bind_some]
  have f30 : ∀ k, σ'.2 30 k = if k = 4 * p + 1 then Int32.ofInt (-1) else if k = 4 * p then Int32.ofInt 0 else σ1.2 30 k := fun k => by rw [a3 30 (by omega), upA_eq, fup_at, upA_eq, fup_at]
  refine ⟨σ', rfl, ⟨h.congr (by rw [a2]; exact e3) (by rw [a3 26 (by omega), upA_ne (by omega), upA_ne (by omega), e4]), by rw [a2]; exact e1, by rw [a2]; exact e2, Nat.zero_le _, hp, ?_, ?_⟩, ⟨fun j _ => by rw [a2]; rfl, fun a x y => by rw [a3 a x, upA_ne y, upA_ne y], fun k x y => by rw [f30, if_neg y, if_neg x], fun k hk => by rw [a4 k (by omega), upA_ne (by omega), upA_ne (by omega)]⟩, by rw [f30, if_pos rfl], by rw [a2]; exact e2⟩
  · rw [f30, if_neg (by omega), if_pos rfl]
    have : mkB tx 0 = fun _ => false := by
      funext j
      unfold mkB occ
      rfl
    rw [this, bval_none]
    rfl
  · intro j hj
    exact ⟨0, a6 j (by omega) hj, Or.inl ⟨rfl, Or.inl (Nat.zero_le _)⟩⟩
