/-! D77: the reference drops a clause -/
theorem dropI_m {K : Int32 → qC → Option qC} {i : Nat} (hi : i < 11) : ∀ (d j fuel : Nat) (σ : qC), j + d = 48 → d < fuel →
    ∃ σ', m_drop_138_l60 K fuel (Int32.ofInt i) (Int32.ofInt j) σ = K (Int32.ofInt (i + 1 : Nat)) σ' ∧ σ'.1 = σ.1 ∧ (∀ a, a ≠ 66 → σ'.2 a = σ.2 a) ∧ (∀ k, σ'.2 66 k = if 48 * i + j ≤ k ∧ k < 48 * i + 48 then σ.2 66 (k + 48) else σ.2 66 k) := by
  intro d
  induction d with
  | zero =>
    intro j fuel σ hj hf
    obtain ⟨fuel, rfl⟩ : ∃ m, fuel = m + 1 := ⟨fuel - 1, by omega⟩
    unfold m_drop_138_l60
    rw [if_pos (zleP (by omega) (by omega) (by omega) (by omega) (by omega)), zadd]
    exact ⟨σ, rfl, rfl, fun _ _ => rfl, fun k => by rw [if_neg (by omega)]⟩
  | succ d ih =>
    intro j fuel σ hj hf
    obtain ⟨fuel, rfl⟩ : ∃ m, fuel = m + 1 := ⟨fuel - 1, by omega⟩
    conv => enter [1, σ', 1, 1]; unfold m_drop_138_l60
    rw [if_neg (zleN (by omega) (by omega) (by omega) (by omega) (by omega)), zmul, zadd, zadd, zadd, zadd, agetI (i := 48 * i + 48 + j) (by omega) (by omega) (by omega), Option.bind_some, aputI (i := 48 * i + j) (by omega) (by omega) (by omega), Option.bind_some, show ((j : Int) + 1) = ((j + 1 : Nat) : Int) by omega]
    obtain ⟨σ', a1, a2, a3, a4⟩ := ih (j + 1) fuel (upA σ 66 (48 * i + j) (σ.2 66 (48 * i + 48 + j))) (by omega) (by omega)
    refine ⟨σ', a1, by rw [a2]; rfl, fun a ha => by rw [a3 a ha, upA_ne ha], fun k => ?_⟩
    rw [a4, upA_eq, fup_at, fup_at]
    by_cases e1 : 48 * i + (j + 1) ≤ k ∧ k < 48 * i + 48
    · rw [if_pos e1, if_neg (show ¬ k + 48 = 48 * i + j by omega), if_pos (by omega)]
    · rw [if_neg e1]
      by_cases e2 : k = 48 * i + j
      · subst e2
        rw [if_pos rfl, if_pos (by omega), show 48 * i + j + 48 = 48 * i + 48 + j by omega]
      · rw [if_neg e2, if_neg (by omega)]
theorem dropL_m {c : Nat} (hc : c ≤ 11) : ∀ (d i fuel : Nat) (σ : qC), i + d = c → d < fuel → σ.1 6408 = Int32.ofInt c →
    ∃ σ', m_drop_138_l36 fuel (Int32.ofInt i) σ = some σ' ∧ σ'.1 = σ.1 ∧ (∀ a, a ≠ 66 → a ≠ 67 → σ'.2 a = σ.2 a) ∧ (∀ k, σ'.2 67 k = if i ≤ k ∧ k < c then σ.2 67 (k + 1) else σ.2 67 k) ∧ (∀ k, σ'.2 66 k = if 48 * i ≤ k ∧ k < 48 * c then σ.2 66 (k + 48) else σ.2 66 k) := by
  intro d
  induction d with
  | zero =>
    intro i fuel σ hi hf hs
    obtain ⟨fuel, rfl⟩ : ∃ m, fuel = m + 1 := ⟨fuel - 1, by omega⟩
    unfold m_drop_138_l36
    rw [hs, if_pos (zleP (by omega) (by omega) (by omega) (by omega) (by omega))]
    exact ⟨σ, rfl, rfl, fun _ _ _ => rfl, fun k => by rw [if_neg (by omega)], fun k => by rw [if_neg (by omega)]⟩
  | succ d ih =>
    intro i fuel σ hi hf hs
    obtain ⟨fuel, rfl⟩ : ∃ m, fuel = m + 1 := ⟨fuel - 1, by omega⟩
    conv => enter [1, σ', 1, 1]; unfold m_drop_138_l36
    rw [hs, if_neg (zleN (by omega) (by omega) (by omega) (by omega) (by omega)), zadd, agetI (i := i + 1) (by omega) (by omega) (by omega), Option.bind_some, aputI (i := i) rfl (by omega) (by omega), Option.bind_some]
    obtain ⟨σ1, b1, b2, b3, b4⟩ := dropI_m (K := m_drop_138_l36 fuel) (i := i) (by omega) 48 0 qF (upA σ 67 i (σ.2 67 (i + 1))) (by omega) (by unfold qF; omega)
    rw [show Int32.ofInt ((0 : Nat) : Int) = Int32.ofInt 0 from rfl] at b1
    rw [b1]
    obtain ⟨σ', a1, a2, a3, a4, a5⟩ := ih (i + 1) fuel σ1 (by omega) (by omega) (by rw [b2]; exact hs)
    refine ⟨σ', a1, by rw [a2, b2]; rfl, fun a x y => by rw [a3 a x y, b3 a x, upA_ne y], fun k => ?_, fun k => ?_⟩
    · rw [a4, b3 67 (by omega), upA_eq, fup_at, fup_at]
      by_cases e1 : i + 1 ≤ k ∧ k < c
      · rw [if_pos e1, if_neg (show ¬ k + 1 = i by omega), if_pos (by omega)]
      · rw [if_neg e1]
        by_cases e2 : k = i
        · subst e2
          rw [if_pos rfl, if_pos (by omega)]
        · rw [if_neg e2, if_neg (by omega)]
    · rw [a5, b4, b4, upA_ne (by omega)]
      by_cases e1 : 48 * (i + 1) ≤ k ∧ k < 48 * c
      · rw [if_pos e1, if_neg (show ¬ (48 * i + 0 ≤ k + 48 ∧ k + 48 < 48 * i + 48) by omega), if_pos (by omega)]
      · rw [if_neg e1]
        by_cases e2 : 48 * i + 0 ≤ k ∧ k < 48 * i + 48
        · rw [if_pos e2, if_pos (by omega)]
        · rw [if_neg e2, if_neg (by omega)]
theorem drop_m {σ : qC} {A : As} {i : Int} (hi : -2147483648 ≤ i ∧ i < 2147483648) (h : MJ σ A) : ∃ σ', m_drop_138 (Int32.ofInt i) σ = some σ' ∧ MV (aDrop i A).1 fTy (Int32.ofInt 0) σ' ∧ MJ σ' (aDrop i A).2 := by
  have h' := h
  obtain ⟨h1, h2, h3, h4, h5, h6⟩ := h
  have h12 := h2.2.1
  unfold m_drop_138 aDrop m_bad_130
  rw [h2.1, zsub, in_ok (by omega) (by omega) (by omega)]
  have g : ∀ v j, j ≠ 6411 → (upS σ 6411 v).1 j = σ.1 j := fun v j hj => by rw [upS_1, if_neg hj]
  by_cases hn : 0 ≤ i ∧ i < A.cls.length
  · rw [if_pos (show (0 : Int) ≤ i ∧ i ≤ (A.cls.length : Int) - 1 by omega), if_neg (by decide), if_pos hn]
    dsimp only [qlet]
    rw [Option.bind_some, if_pos (by rfl)]
    dsimp only
    have e8 : (upS (upS σ 6411 (Int32.ofInt 0)) 6438 (Int32.ofInt 0)).1 6408 = Int32.ofInt A.cls.length := by rw [upS_1, if_neg (by omega), g _ _ (by omega), h2.1]
    rw [e8, zsub, show ((A.cls.length : Nat) : Int) - 1 = ((A.cls.length - 1 : Nat) : Int) by omega]
    obtain ⟨σ1, a1, a2, a3, a4, a5⟩ := dropL_m (c := A.cls.length - 1) (by omega) (A.cls.length - 1 - i.toNat) i.toNat qF (upS (upS (upS σ 6411 (Int32.ofInt 0)) 6438 (Int32.ofInt 0)) 6408 (Int32.ofInt (A.cls.length - 1 : Nat))) (by omega) (by unfold qF; omega) (by rw [upS_1, if_pos rfl])
    rw [show ((i.toNat : Nat) : Int) = i by omega] at a1
    have g2 : ∀ j, j ≠ 6411 → j ≠ 6438 → j ≠ 6408 → σ1.1 j = σ.1 j := fun j x y z => by rw [a2, upS_1, if_neg z, upS_1, if_neg y, g _ _ x]
    have hlt : i.toNat < A.cls.length := by omega
    refine ⟨σ1, a1, ⟨rfl, by rw [a2, upS_1, if_neg (by omega), upS_1, if_neg (by omega), upS_1, if_pos rfl]⟩, h1.congr (g2 _ (by omega) (by omega) (by omega)) (a3 65 (by omega) (by omega)), ⟨?_, ?_, fun t ht => ?_⟩, by rw [g2 _ (by omega) (by omega) (by omega)]; exact h3, ⟨by rw [g2 _ (by omega) (by omega) (by omega)]; exact h4.1, by rw [g2 _ (by omega) (by omega) (by omega)]; exact h4.2⟩, fun _ => by rw [a2, upS_1, if_neg (by omega), upS_1, if_pos rfl], fun q m a z => by cases z⟩
    · rw [erase_len hlt, a2, upS_1, if_pos rfl]
    · rw [erase_len hlt]
      omega
    · rw [erase_len hlt] at ht
      rw [erase_getD, a4]
      by_cases e : t < i.toNat
      · rw [if_pos e, if_neg (by omega)]
        obtain ⟨w1, w2, w3⟩ := h2.2.2 t (by omega)
        have := w3.1
        refine ⟨w1, fun j hj => ?_, w3⟩
        rw [a5, if_neg (by omega)]
        exact w2 j hj
      · rw [if_neg e, if_pos (by omega)]
        obtain ⟨w1, w2, w3⟩ := h2.2.2 (t + 1) (by omega)
        have := w3.1
        refine ⟨w1, fun j hj => ?_, w3⟩
        rw [a5, if_pos (by omega), show 48 * t + j + 48 = 48 * (t + 1) + j by omega]
        exact w2 j hj
  · rw [if_neg (show ¬ ((0 : Int) ≤ i ∧ i ≤ (A.cls.length : Int) - 1) by omega), if_pos (by decide), if_neg hn]
    dsimp only [qlet]
    rw [Option.bind_some, if_neg (by show ¬ Int32.ofInt 1 = 0; decide)]
    exact ⟨_, rfl, by show (upS _ 6411 _).1 6411 = _; rw [upS_1, if_pos rfl]; rfl, h'.keys (h1.congr (g _ _ (by omega)) rfl) (by rw [g _ _ (by omega)]; exact h3) rfl rfl (fun _ _ => rfl) (fun j hj => g _ j (by omega))⟩
