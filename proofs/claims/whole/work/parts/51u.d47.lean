/-! D47: which clauses fit (the reference) -/
def CLX (σ : qC) (c n : Nat) (tx : Nat → Int) : Prop := σ.2 67 c = Int32.ofInt n ∧ (∀ p, p < n → σ.2 66 (48 * c + p) = Int32.ofInt (tx p)) ∧ c < 12 ∧ n ≤ 48 ∧ (∀ p, n ≤ p → tx p = 0) ∧ (∀ p, 0 ≤ tx p ∧ tx p ≤ 126)
def fE (σ : qC) (i2 : Int32) (cnt : Int) : Option Int32 := (aget (σ.2 73) 24000 i2).bind (fun x => if Int32.ofInt cnt = x then some (Int32.ofInt 1) else some (Int32.ofInt 0))
/-- one sign is looked at -/
theorem scan1 {σ : qC} {c n i : Nat} {tx : Nat → Int} {call : Int32} {d cnt fuel : Nat} (h : CLX σ c n tx) (hi : 2 ≤ i) (hin : i < n) (hd : 1 ≤ d ∧ d < 100) (hc : cnt < 100) :
    m_fits_151_l28 (fuel + 1) (Int32.ofInt c) call (Int32.ofInt d) (Int32.ofInt cnt) (Int32.ofInt i) σ =
      if tx i = 40 then m_fits_151_l28 fuel (Int32.ofInt c) call (Int32.ofInt (d + 1 : Nat)) (Int32.ofInt cnt) (Int32.ofInt (i + 1 : Nat)) σ else
      if tx i = 44 then (if d = 1 then m_fits_151_l28 fuel (Int32.ofInt c) call (Int32.ofInt d) (Int32.ofInt (cnt + 1 : Nat)) (Int32.ofInt (i + 1 : Nat)) σ else m_fits_151_l28 fuel (Int32.ofInt c) call (Int32.ofInt d) (Int32.ofInt cnt) (Int32.ofInt (i + 1 : Nat)) σ) else
      if tx i = 41 then (if d = 1 then fE σ call cnt else m_fits_151_l28 fuel (Int32.ofInt c) call (Int32.ofInt (d - 1 : Nat)) (Int32.ofInt cnt) (Int32.ofInt (i + 1 : Nat)) σ) else
      m_fits_151_l28 fuel (Int32.ofInt c) call (Int32.ofInt d) (Int32.ofInt cnt) (Int32.ofInt (i + 1 : Nat)) σ := by
  obtain ⟨h1, h2, h3, h4, h5, h6⟩ := h
  have h6 := h6 i
  conv => lhs; unfold m_fits_151_l28
  rw [agetI (i := c) rfl h3 (by omega), Option.bind_some, h1, if_neg (zleN (by omega) (by omega) (by omega) (by omega) (by omega)), zmul, zadd, agetI (i := 48 * c + i) (by omega) (by omega) (by omega), Option.bind_some, h2 i hin, if_neg (zeqN (by omega) (by omega) (by omega) (by omega) (by omega))]
  unfold m_fits_151_j69 m_fits_151_j79 m_fits_151_j91 m_fits_151_j103 m_fits_151_j116
  by_cases e40 : tx i = 40
  · rw [e40, if_pos rfl, if_pos rfl, zadd, if_pos rfl, if_neg (zeqN (by omega) (by omega) (by omega) (by omega) (by omega)), if_neg (by decide), if_neg (by decide), z0, if_neg (zeqN (by omega) (by omega) (by omega) (by omega) (by omega)), zadd]
    rfl
  rw [if_neg (zeqN e40 (by omega) (by omega) (by omega) (by omega)), if_neg e40, if_neg (zeqN e40 (by omega) (by omega) (by omega) (by omega))]
  by_cases e44 : tx i = 44
  · rw [if_pos (by rw [e44]), if_pos e44]
    by_cases hd1 : d = 1
    · rw [if_pos (by rw [hd1]; rfl), if_pos hd1, if_neg (zeqN (by omega) (by omega) (by omega) (by omega) (by omega)), z0, if_neg (zeqN (by omega) (by omega) (by omega) (by omega) (by omega)), zadd, zadd]
      rfl
    · rw [if_neg (zeqN (by omega) (by omega) (by omega) (by omega) (by omega)), if_neg hd1, if_neg (zeqN (by omega) (by omega) (by omega) (by omega) (by omega)), z0, if_neg (zeqN (by omega) (by omega) (by omega) (by omega) (by omega)), zadd]
      rfl
  rw [if_neg (zeqN e44 (by omega) (by omega) (by omega) (by omega)), if_neg e44]
  by_cases e41 : tx i = 41
  · rw [if_pos (by rw [e41]), if_pos e41, zadd, z0]
    by_cases hd1 : d = 1
    · rw [if_pos (by rw [hd1]; rfl), if_pos hd1]
      rfl
    · rw [if_neg (zeqN (by omega) (by omega) (by omega) (by omega) (by omega)), if_neg hd1, zadd]
      rw [show ((d : Int) + -1) = ((d - 1 : Nat) : Int) by omega]
      rfl
  · rw [if_neg (zeqN e41 (by omega) (by omega) (by omega) (by omega)), if_neg e41, z0, if_neg (zeqN (by omega) (by omega) (by omega) (by omega) (by omega)), zadd]
    rfl
set_option maxHeartbeats 1000000 in
theorem scanT {σ : qC} {c n : Nat} {tx : Nat → Int} {call : Int32} (h : CLX σ c n tx) : ∀ (k i d cnt fuel : Nat), (pT tx k i).1 = true → 2 ≤ i → 1 ≤ d → d + k < 90 → cnt < 90 →
    m_fits_151_l28 (fuel + ((pT tx k i).2.1 - i)) (Int32.ofInt c) call (Int32.ofInt d) (Int32.ofInt cnt) (Int32.ofInt i) σ = m_fits_151_l28 fuel (Int32.ofInt c) call (Int32.ofInt d) (Int32.ofInt cnt) (Int32.ofInt (pT tx k i).2.1) σ := by
  intro k
  induction k with
  | zero => intro i d cnt fuel hok; cases hok
  | succ k ih =>
    have hpA : ∀ (j i d cnt fuel : Nat), (pA tx (pT tx k) j i).1 = true → 2 ≤ i → 2 ≤ d → d + k < 90 → cnt < 90 →
        m_fits_151_l28 (fuel + ((pA tx (pT tx k) j i).2.1 - i)) (Int32.ofInt c) call (Int32.ofInt d) (Int32.ofInt cnt) (Int32.ofInt i) σ = m_fits_151_l28 fuel (Int32.ofInt c) call (Int32.ofInt (d - 1 : Nat)) (Int32.ofInt cnt) (Int32.ofInt (pA tx (pT tx k) j i).2.1) σ := by
      intro j
      induction j with
      | zero => intro i d cnt fuel hok; cases hok
      | succ j ihj =>
        intro i d cnt fuel hok hi hd hdk hcn
        have eA : pA tx (pT tx k) (j + 1) i = if (pT tx k i).1 = false then (false, (pT tx k i).2.1, [i]) else if tx (pT tx k i).2.1 = 41 then (true, (pT tx k i).2.1 + 1, [i]) else if j = 0 ∨ tx (pT tx k i).2.1 ≠ 44 then (false, (pT tx k i).2.1, [i]) else ((pA tx (pT tx k) j ((pT tx k i).2.1 + 1)).1, (pA tx (pT tx k) j ((pT tx k i).2.1 + 1)).2.1, i :: (pA tx (pT tx k) j ((pT tx k i).2.1 + 1)).2.2) := rfl
        rw [eA] at hok ⊢
        by_cases h1 : (pT tx k i).1 = false
        · rw [if_pos h1] at hok; cases hok
        rw [if_neg h1] at hok ⊢
        have h1' : (pT tx k i).1 = true := by simpa using h1
        have hie := pT_ends k i h1'
        have hlt : tx (pT tx k i).2.1 ≠ 0 → (pT tx k i).2.1 < n := fun z => by
          apply Classical.byContradiction
          intro z2
          exact z (h.2.2.2.2.1 _ (by omega))
        by_cases h2 : tx (pT tx k i).2.1 = 41
        · rw [if_pos h2]
          dsimp only
          rw [show fuel + ((pT tx k i).2.1 + 1 - i) = (fuel + 1) + ((pT tx k i).2.1 - i) by omega, ih i d cnt (fuel + 1) h1' hi (by omega) (by omega) hcn, scan1 h (by omega) (hlt (by omega)) (by omega) (by omega), if_neg (by omega), if_neg (by omega), if_pos h2, if_neg (by omega)]
        rw [if_neg h2] at hok ⊢
        by_cases h3 : j = 0 ∨ tx (pT tx k i).2.1 ≠ 44
        · rw [if_pos h3] at hok; cases hok
        rw [if_neg h3] at hok ⊢
        dsimp only at hok ⊢
        have h44 : tx (pT tx k i).2.1 = 44 := by
          apply Classical.byContradiction
          intro z
          exact h3 (Or.inr z)
        have hend2 := pA_ends (tx := tx) (k := k) j _ hok
        rw [show fuel + ((pA tx (pT tx k) j ((pT tx k i).2.1 + 1)).2.1 - i) = (fuel + ((pA tx (pT tx k) j ((pT tx k i).2.1 + 1)).2.1 - ((pT tx k i).2.1 + 1)) + 1) + ((pT tx k i).2.1 - i) by omega, ih i d cnt _ h1' hi (by omega) (by omega) hcn, scan1 h (by omega) (hlt (by omega)) (by omega) (by omega), if_neg (by omega), if_pos h44, if_neg (by omega), ihj _ d cnt fuel hok (by omega) hd hdk hcn]
    intro i d cnt fuel hok hi hd hdk hcn
    have hal : ¬ (¬ isSm (tx i) ∧ ¬ isCa (tx i) ∧ ¬ isDi (tx i)) := by
      intro z
      unfold pT at hok
      rw [if_pos z] at hok
      cases hok
    have hin : i < n := by
      apply Classical.byContradiction
      intro z
      have := h.2.2.2.2.1 i (by omega)
      apply hal
      rw [this]
      exact ⟨by omega, by omega, by omega⟩
    have hpT : pT tx (k + 1) i = if ¬ isSm (tx i) ∨ k = 0 ∨ tx (i + 1) ≠ 40 then (true, i + 1, []) else pA tx (pT tx k) 3 (i + 2) := by
      conv => lhs; unfold pT
      rw [if_neg hal]
    have s1 : ∀ f, m_fits_151_l28 (f + 1) (Int32.ofInt c) call (Int32.ofInt d) (Int32.ofInt cnt) (Int32.ofInt i) σ = m_fits_151_l28 f (Int32.ofInt c) call (Int32.ofInt d) (Int32.ofInt cnt) (Int32.ofInt (i + 1 : Nat)) σ := fun f => by
      rw [scan1 h hi hin (by omega) (by omega), if_neg (by omega), if_neg (by omega), if_neg (by omega)]
    by_cases h2 : ¬ isSm (tx i) ∨ k = 0 ∨ tx (i + 1) ≠ 40
    · rw [hpT, if_pos h2]
      dsimp only
      rw [show fuel + (i + 1 - i) = fuel + 1 by omega, s1]
    · rw [hpT, if_neg h2] at hok
      rw [hpT, if_neg h2]
      have h40 : tx (i + 1) = 40 := by
        apply Classical.byContradiction
        intro z
        exact h2 (Or.inr (Or.inr z))
      have hin2 : i + 1 < n := by
        apply Classical.byContradiction
        intro z
        have := h.2.2.2.2.1 (i + 1) (by omega)
        omega
      have hend := pA_ends (tx := tx) (k := k) 3 _ hok
      rw [show fuel + ((pA tx (pT tx k) 3 (i + 2)).2.1 - i) = (fuel + ((pA tx (pT tx k) 3 (i + 2)).2.1 - (i + 2))) + 1 + 1 by omega, s1, scan1 h (by omega) hin2 (by omega) (by omega), if_pos h40, hpA 3 (i + 2) (d + 1) cnt fuel hok (by omega) (by omega) (by omega) hcn]
      rfl
/-- the arguments of the head -/
theorem scanA {σ : qC} {c n k : Nat} {tx : Nat → Int} {call : Int32} (h : CLX σ c n tx) (hk : k < 80) : ∀ (j i cnt fuel : Nat), (pA tx (pT tx k) j i).1 = true → 2 ≤ i → cnt + j < 80 →
    m_fits_151_l28 (fuel + ((pA tx (pT tx k) j i).2.1 - i)) (Int32.ofInt c) call (Int32.ofInt (1 : Nat)) (Int32.ofInt cnt) (Int32.ofInt i) σ = fE σ call (cnt + (pA tx (pT tx k) j i).2.2.length - 1 : Int) := by
  intro j
  induction j with
  | zero => intro i cnt fuel hok; cases hok
  | succ j ihj =>
    intro i cnt fuel hok hi hcn
    have eA : pA tx (pT tx k) (j + 1) i = if (pT tx k i).1 = false then (false, (pT tx k i).2.1, [i]) else if tx (pT tx k i).2.1 = 41 then (true, (pT tx k i).2.1 + 1, [i]) else if j = 0 ∨ tx (pT tx k i).2.1 ≠ 44 then (false, (pT tx k i).2.1, [i]) else ((pA tx (pT tx k) j ((pT tx k i).2.1 + 1)).1, (pA tx (pT tx k) j ((pT tx k i).2.1 + 1)).2.1, i :: (pA tx (pT tx k) j ((pT tx k i).2.1 + 1)).2.2) := rfl
    rw [eA] at hok ⊢
    by_cases h1 : (pT tx k i).1 = false
    · rw [if_pos h1] at hok; cases hok
    rw [if_neg h1] at hok ⊢
    have h1' : (pT tx k i).1 = true := by simpa using h1
    have hie := pT_ends k i h1'
    have hlt : tx (pT tx k i).2.1 ≠ 0 → (pT tx k i).2.1 < n := fun z => by
      apply Classical.byContradiction
      intro z2
      exact z (h.2.2.2.2.1 _ (by omega))
    by_cases h2 : tx (pT tx k i).2.1 = 41
    · rw [if_pos h2]
      dsimp only
      rw [show fuel + ((pT tx k i).2.1 + 1 - i) = (fuel + 1) + ((pT tx k i).2.1 - i) by omega, scanT h k i 1 cnt (fuel + 1) h1' hi (by omega) (by omega) (by omega), scan1 h (by omega) (hlt (by omega)) (by omega) (by omega), if_neg (by omega), if_neg (by omega), if_pos h2, if_pos rfl]
      congr 1
      simp
    rw [if_neg h2] at hok ⊢
    by_cases h3 : j = 0 ∨ tx (pT tx k i).2.1 ≠ 44
    · rw [if_pos h3] at hok; cases hok
    rw [if_neg h3] at hok ⊢
    dsimp only at hok ⊢
    have h44 : tx (pT tx k i).2.1 = 44 := by
      apply Classical.byContradiction
      intro z
      exact h3 (Or.inr z)
    have hend2 := pA_ends (tx := tx) (k := k) j _ hok
    rw [show fuel + ((pA tx (pT tx k) j ((pT tx k i).2.1 + 1)).2.1 - i) = (fuel + ((pA tx (pT tx k) j ((pT tx k i).2.1 + 1)).2.1 - ((pT tx k i).2.1 + 1)) + 1) + ((pT tx k i).2.1 - i) by omega, scanT h k i 1 cnt _ h1' hi (by omega) (by omega) (by omega), scan1 h (by omega) (hlt (by omega)) (by omega) (by omega), if_neg (by omega), if_pos h44, if_pos rfl, ihj _ (cnt + 1) fuel hok (by omega) (by omega)]
    congr 1
    rw [List.length_cons]
    omega
theorem fits_ok {σ : qC} {c n a nc : Nat} {tx : Nat → Int} {x s : Int} (h : CLX σ c n tx) (hok : (pT tx 6 0).1 = true) (hsm : isSm (tx 0)) (hx : 0 ≤ x ∧ x < nc) (hnc : nc ≤ 24000) (hs : σ.2 72 x.toNat = Int32.ofInt s) (hs2 : 0 ≤ s ∧ s < 128) (ha : σ.2 73 x.toNat = Int32.ofInt a) (ha3 : a ≤ 3) :
    m_fits_151 (Int32.ofInt c) (Int32.ofInt x) σ = some (if tx 0 = s ∧ (pT tx 6 0).2.2.length = a then Int32.ofInt 1 else Int32.ofInt 0) := by
  have h' := h
  obtain ⟨h1, h2, h3, h4, h5, h6⟩ := h
  have hn0 : 0 < n := by
    apply Classical.byContradiction
    intro z
    have := h5 0 (by omega)
    omega
  have h60 := h6 0
  have hfe : ∀ q : Int, 0 ≤ q → q < 1000 → fE σ (Int32.ofInt x) q = some (if q = a then Int32.ofInt 1 else Int32.ofInt 0) := by
    intro q q1 q2
    unfold fE
    rw [agetI (i := x.toNat) (by omega) (by omega) (by omega), Option.bind_some, ha]
    by_cases e : q = a
    · rw [if_pos e, e, if_pos rfl]
    · rw [if_neg e, if_neg (zeqN e (by omega) (by omega) (by omega) (by omega))]
  unfold m_fits_151
  rw [zmul, agetI (i := 48 * c + 0) (by omega) (by omega) (by omega), Option.bind_some, h2 0 hn0, agetI (i := x.toNat) (by omega) (by omega) (by omega), Option.bind_some, hs]
  by_cases e : tx 0 = s
  · rw [if_pos (by rw [e])]
    have hpT : pT tx 6 0 = if ¬ isSm (tx 0) ∨ 5 = 0 ∨ tx 1 ≠ 40 then (true, 1, []) else pA tx (pT tx 5) 3 2 := by
      conv => lhs; unfold pT
      rw [if_neg (fun z => z.1 hsm)]
    have hQ : m_fits_151_l28 qF (Int32.ofInt c) (Int32.ofInt x) (Int32.ofInt 0) (Int32.ofInt 0) (Int32.ofInt 1) σ = fE σ (Int32.ofInt x) (pT tx 6 0).2.2.length := by
      rw [show qF = (qF - 1) + 1 from rfl]
      conv => lhs; unfold m_fits_151_l28
      rw [agetI (i := c) rfl h3 (by omega), Option.bind_some, h1]
      by_cases hn1 : n ≤ 1
      · have ht1 := h5 1 hn1
        rw [if_pos (zleP (by omega) (by omega) (by omega) (by omega) (by omega)), hpT, if_pos (Or.inr (Or.inr (by omega)))]
        rfl
      rw [if_neg (zleN (by omega) (by omega) (by omega) (by omega) (by omega)), zmul, zadd, agetI (i := 48 * c + 1) (by omega) (by omega) (by omega), Option.bind_some, h2 1 (by omega), if_pos rfl]
      have h61 := h6 1
      by_cases h40 : tx 1 = 40
      · rw [if_pos (by rw [h40]), h40]
        unfold m_fits_151_j69 m_fits_151_j79 m_fits_151_j103 m_fits_151_j116
        rw [if_pos rfl, if_pos rfl, zadd, if_pos (by decide), if_neg (by decide), if_neg (by decide), zadd]
        rw [hpT, if_neg (by rintro (z | z | z) <;> omega)] at hok ⊢
        have hend := pA_ends (tx := tx) (k := 5) 3 2 hok
        have hle : (pA tx (pT tx 5) 3 2).2.1 ≤ 48 := by
          have := pT_le h5 6 0 (by rw [hpT, if_neg (by rintro (z | z | z) <;> omega)]; exact hok)
          rw [hpT, if_neg (by rintro (z | z | z) <;> omega)] at this
          omega
        have := scanA (call := Int32.ofInt x) h' (k := 5) (by omega) 3 2 1 (qF - 1 - ((pA tx (pT tx 5) 3 2).2.1 - 2)) hok (by omega) (by omega)
        rw [show qF - 1 - ((pA tx (pT tx 5) 3 2).2.1 - 2) + ((pA tx (pT tx 5) 3 2).2.1 - 2) = qF - 1 by unfold qF; omega] at this
        refine this.trans ?_
        congr 1
        omega
      · rw [if_neg (zeqN h40 (by omega) (by omega) (by omega) (by omega)), hpT, if_pos (Or.inr (Or.inr h40))]
        rfl
    have hlen : (pT tx 6 0).2.2.length < 900 := by
      have : ∀ j i, (pA tx (pT tx 5) j i).2.2.length ≤ j + 1 := by
        intro j
        induction j with
        | zero => intro i; exact Nat.zero_le _
        | succ j ih =>
          intro i
          unfold pA
          repeat' split
          all_goals first | (simp; done) | (rw [List.length_cons]; have := ih ((pT tx 5 i).2.1 + 1); omega)
      rw [hpT]
      split
      · simp
      · have := this 3 2
        omega
    rw [hQ, hfe _ (by omega) (by omega)]
    by_cases e2 : (pT tx 6 0).2.2.length = a
    · rw [if_pos (by omega), if_pos ⟨e, e2⟩]
    · rw [if_neg (by omega), if_neg (fun z => e2 z.2)]
  · rw [if_neg (zeqN e (by omega) (by omega) (by omega) (by omega)), if_neg (fun z => e z.1)]
