/-! D48: what a right text bears; the next clause that fits (the reference) -/
def capS (tx : Nat → Int) : Nat → Nat
  | 0 => 0
  | n + 1 => capS tx n + (if isCa (tx n) then 1 else 0)
theorem capS_no {tx : Nat → Int} {n : Nat} (h : ¬ isCa (tx n)) : capS tx (n + 1) = capS tx n := by
  show capS tx n + (if isCa (tx n) then 1 else 0) = _
  rw [if_neg h]; rfl
theorem capS_le {tx : Nat → Int} {n : Nat} : capS tx (n + 1) ≤ capS tx n + 1 := by
  show capS tx n + (if isCa (tx n) then 1 else 0) ≤ _
  split <;> omega
theorem pT_cap {tx : Nat → Int} : ∀ (k i : Nat), (pT tx k i).1 = true → 2 * capS tx (pT tx k i).2.1 + i ≤ 2 * capS tx i + (pT tx k i).2.1 + 1 := by
  intro k
  induction k with
  | zero => intro i h; cases h
  | succ k ih =>
    have hpA : ∀ (j i : Nat), (pA tx (pT tx k) j i).1 = true → 2 * capS tx (pA tx (pT tx k) j i).2.1 + i ≤ 2 * capS tx i + (pA tx (pT tx k) j i).2.1 := by
      intro j
      induction j with
      | zero => intro i h; cases h
      | succ j ihj =>
        intro i h
        unfold pA at h ⊢
        by_cases h1 : (pT tx k i).1 = false
        · rw [if_pos h1] at h; cases h
        rw [if_neg h1] at h ⊢
        have h1' : (pT tx k i).1 = true := by simpa using h1
        have e1 := ih i h1'
        by_cases h2 : tx (pT tx k i).2.1 = 41
        · rw [if_pos h2]
          dsimp only
          rw [capS_no (by omega)]
          omega
        rw [if_neg h2] at h ⊢
        by_cases h3 : j = 0 ∨ tx (pT tx k i).2.1 ≠ 44
        · rw [if_pos h3] at h; cases h
        rw [if_neg h3] at h ⊢
        have h44 : tx (pT tx k i).2.1 = 44 := by
          apply Classical.byContradiction
          intro z
          exact h3 (Or.inr z)
        have e2 := ihj _ h
        rw [capS_no (by omega)] at e2
        dsimp only
        omega
    intro i h
    unfold pT at h ⊢
    by_cases h1 : ¬ isSm (tx i) ∧ ¬ isCa (tx i) ∧ ¬ isDi (tx i)
    · rw [if_pos h1] at h; cases h
    rw [if_neg h1] at h ⊢
    by_cases h2 : ¬ isSm (tx i) ∨ k = 0 ∨ tx (i + 1) ≠ 40
    · rw [if_pos h2]
      dsimp only
      have := capS_le (tx := tx) (n := i)
      omega
    · rw [if_neg h2] at h ⊢
      have h40 : tx (i + 1) = 40 := by
        apply Classical.byContradiction
        intro z
        exact h2 (Or.inr (Or.inr z))
      have hsm : isSm (tx i) := by
        apply Classical.byContradiction
        intro z
        exact h2 (Or.inl z)
      have e1 := hpA 3 (i + 2) h
      rw [capS_no (n := i + 1) (by omega), capS_no (n := i) (by omega)] at e1
      omega
theorem pG_cap {tx : Nat → Int} {i : Nat} (h : (pG tx i).1 = true) : 2 * capS tx (pG tx i).2.1 + i ≤ 2 * capS tx i + (pG tx i).2.1 + 1 := by
  rcases pG_cases h with ⟨a, e⟩ | ⟨-, h1, k, k1, k2, k3, h2, e, -⟩ | ⟨-, h1, -, -, e⟩
  · rw [e]
    dsimp only
    rw [capS_no (by omega)]
    omega
  · rw [e]
    have e1 := pT_cap _ _ h1
    have e2 := pT_cap _ _ h2
    rw [capS_no (by rw [k3]; unfold sgn2; split <;> (try split) <;> (try split) <;> omega)] at e2
    dsimp only
    omega
  · rw [e]
    exact pT_cap _ _ h1
theorem pGs_cap {tx : Nat → Int} {n : Nat} (h0 : ∀ p, n ≤ p → tx p = 0) : ∀ (f i : Nat), (pGs tx n f i).1 = true → 2 * capS tx n + i ≤ 2 * capS tx i + n + 1 := by
  intro f
  induction f with
  | zero => intro i h; cases h
  | succ f ih =>
    intro i h
    unfold pGs at h
    by_cases h1 : (pG tx i).1 = false
    · rw [if_pos h1] at h; cases h
    rw [if_neg h1] at h
    have h1' : (pG tx i).1 = true := by simpa using h1
    have e1 := pG_cap h1'
    have e2 := pG_le h0 h1'
    by_cases h2 : n ≤ (pG tx i).2.1
    · have : (pG tx i).2.1 = n := by omega
      rw [this] at e1
      exact e1
    rw [if_neg h2] at h
    by_cases h3 : tx (pG tx i).2.1 ≠ 44
    · rw [if_pos h3] at h; cases h
    rw [if_neg h3] at h
    have e3 := ih _ h
    rw [capS_no (by omega)] at e3
    omega
theorem occ_succ {tx : Nat → Int} {n : Nat} {c : Int} : occ tx (n + 1) c = (occ tx n c || (tx n == c)) := by
  unfold occ
  rw [List.range_succ, List.any_append]
  simp
theorem rnk_succ {tx : Nat → Int} {n : Nat} : ∀ m, rnk tx (n + 1) m ≤ rnk tx n m + (if 65 ≤ tx n ∧ tx n < 65 + m then 1 else 0)
  | 0 => Nat.zero_le _
  | m + 1 => by
    have ih := rnk_succ (tx := tx) (n := n) m
    show rnk tx (n + 1) m + (if occ tx (n + 1) (65 + (m : Int)) then 1 else 0) ≤ rnk tx n m + (if occ tx n (65 + (m : Int)) then 1 else 0) + _
    rw [occ_succ]
    by_cases h : tx n = 65 + (m : Int)
    · rw [if_neg (by omega)] at ih
      rw [if_pos (by omega : 65 ≤ tx n ∧ tx n < 65 + ((m + 1 : Nat) : Int))]
      split <;> split <;> omega
    · have hb : (tx n == 65 + (m : Int)) = false := by simpa using h
      rw [hb, Bool.or_false]
      by_cases h2 : 65 ≤ tx n ∧ tx n < 65 + (m : Int)
      · rw [if_pos h2] at ih
        rw [if_pos (by omega : 65 ≤ tx n ∧ tx n < 65 + ((m + 1 : Nat) : Int))]
        omega
      · rw [if_neg h2] at ih
        rw [if_neg (by omega : ¬ (65 ≤ tx n ∧ tx n < 65 + ((m + 1 : Nat) : Int)))]
        omega
theorem rnk_zero {tx : Nat → Int} : ∀ m, rnk tx 0 m = 0
  | 0 => rfl
  | m + 1 => by
    show rnk tx 0 m + (if occ tx 0 (65 + (m : Int)) then 1 else 0) = 0
    rw [rnk_zero m]
    rfl
theorem rnk_cap {tx : Nat → Int} : ∀ n, rnk tx n 26 ≤ capS tx n
  | 0 => by rw [rnk_zero]; exact Nat.zero_le _
  | n + 1 => by
    have h1 := rnk_succ (tx := tx) (n := n) 26
    have h2 := rnk_cap (tx := tx) n
    show _ ≤ capS tx n + (if isCa (tx n) then 1 else 0)
    by_cases h : isCa (tx n)
    · rw [if_pos h]
      have : (if 65 ≤ tx n ∧ tx n < 65 + ((26 : Nat) : Int) then 1 else 0) ≤ 1 := by split <;> omega
      omega
    · rw [if_neg h]
      rw [if_neg (by omega)] at h1
      omega
theorem MCl.get {cl : Cl} (h : MCl cl) : isSm (cl.1 0) ∧ (pT cl.1 6 0).1 = true ∧ (pT cl.1 6 0).2.1 ≤ cl.2.1 ∧ clNv cl ≤ 24 ∧ (∀ p, 0 ≤ cl.1 p ∧ cl.1 p ≤ 126) ∧ (((pT cl.1 6 0).2.1 = cl.2.1 ∧ cl.2.2 = []) ∨ ((pT cl.1 6 0).2.1 < cl.2.1 ∧ cl.1 (pT cl.1 6 0).2.1 = 58 ∧ (pGs cl.1 cl.2.1 48 ((pT cl.1 6 0).2.1 + 1)).1 = true ∧ cl.2.2 = (pGs cl.1 cl.2.1 48 ((pT cl.1 6 0).2.1 + 1)).2.2)) := by
  obtain ⟨tx, n, gs⟩ := cl
  obtain ⟨h1, h2, h3, h4, h5⟩ := h
  dsimp only at *
  have hr : ∀ p, 0 ≤ tx p ∧ tx p ≤ 126 := fun p => by
    rcases Nat.lt_or_ge p n with z | z
    · have := h3 p z
      omega
    · rw [h2 p z]; omega
  unfold pC at h4 h5
  by_cases c1 : ¬ isSm (tx 0)
  · rw [if_pos c1] at h4; cases h4
  rw [if_neg c1] at h4 h5
  have c1' : isSm (tx 0) := Classical.byContradiction c1
  by_cases c2 : (pT tx 6 0).1 = false
  · rw [if_pos c2] at h4; cases h4
  rw [if_neg c2] at h4 h5
  have c2' : (pT tx 6 0).1 = true := by simpa using c2
  have hle := pT_le h2 _ _ c2'
  have hcp := pT_cap _ _ c2'
  have hz : capS tx 0 = 0 := rfl
  have hrk := rnk_cap (tx := tx) n
  by_cases c3 : n ≤ (pT tx 6 0).2.1
  · rw [if_pos c3] at h5
    have e : (pT tx 6 0).2.1 = n := by omega
    rw [e] at hcp
    exact ⟨c1', c2', hle, by show rnk tx n 26 ≤ 24; omega, hr, Or.inl ⟨e, h5.symm⟩⟩
  rw [if_neg c3] at h4 h5
  by_cases c4 : tx (pT tx 6 0).2.1 ≠ 58
  · rw [if_pos c4] at h4; cases h4
  rw [if_neg c4] at h4 h5
  have h58 : tx (pT tx 6 0).2.1 = 58 := Classical.byContradiction c4
  have hcg := pGs_cap h2 _ _ h4
  rw [capS_no (by omega)] at hcg
  exact ⟨c1', c2', hle, by show rnk tx n 26 ≤ 24; omega, hr, Or.inr ⟨by omega, h58, h4, h5.symm⟩⟩
theorem MStat.clx {σ : qC} {cls : List Cl} {c : Nat} (h : MStat σ cls) (hc : c < cls.length) : CLX σ c (cls.getD c clNil).2.1 (cls.getD c clNil).1 := by
  obtain ⟨h1, h2, h3⟩ := h
  obtain ⟨a, b, d⟩ := h3 c hc
  exact ⟨a, b, by omega, d.1, d.2.1, d.get.2.2.2.2.1⟩
theorem tt_sm {tx : Nat → Int} {n k i env : Nat} (h : isSm (tx i)) : lab (tt tx n (k + 1) i env) = tx i ∧ ary (tt tx n (k + 1) i env) = (pT tx (k + 1) i).2.2.length := by
  unfold lab ary tt
  rw [if_neg (by omega)]
  exact ⟨rfl, rfl⟩
theorem nextFitL_m {cls : List Cl} {nv nc : Nat} {x : Int} {X : Tr} {σ : qC} (hS : MStat σ cls) (hX : MTx (σ.2 72) (σ.2 73) (σ.2 74) nv nc x X) (hl : ¬ lab X < 0) (hnc : nc ≤ 24000) : ∀ (d i m : Nat), i + d = cls.length → d < m → m_nextFit_150_l2 m (Int32.ofInt x) (Int32.ofInt i) σ = some (Int32.ofInt (nfit cls X i : Nat)) := by
  intro d
  have h12 := hS.2.1
  have hrng := hX.rng
  induction d with
  | zero =>
    intro i m hi hm
    cases m with
    | zero => omega
    | succ m =>
      unfold m_nextFit_150_l2
      rw [hS.1, if_pos (zleP (by omega) (by omega) (by omega) (by omega) (by omega)), nfit_end (by omega)]
  | succ d ih =>
    intro i m hi hm
    cases m with
    | zero => omega
    | succ m =>
      rcases hX.cases with ⟨z, -, z2⟩ | ⟨a, b, ar, c, e, s, f, g, g1, g2, -⟩
      · exact absurd (hrng.2.2.1.mp z) hl
      unfold m_nextFit_150_l2
      have hcl := (hS.2.2 i (by omega)).2.2.get
      have hfa : fitA X (cls.getD i clNil) = decide ((cls.getD i clNil).1 0 = s ∧ (pT (cls.getD i clNil).1 6 0).2.2.length = ar) := by
        have := tt_sm (n := (cls.getD i clNil).2.1) (k := 5) (env := 0) hcl.1
        unfold fitA clT
        rw [this.1, this.2, g1, g2, Bool.decide_and]
      rw [hS.1, if_neg (zleN (by omega) (by omega) (by omega) (by omega) (by omega)), fits_ok (hS.clx (by omega)) hcl.2.1 hcl.1 ⟨a, b⟩ hnc g f e c, Option.bind_some]
      by_cases hf : (cls.getD i clNil).1 0 = s ∧ (pT (cls.getD i clNil).1 6 0).2.2.length = ar
      · rw [if_pos hf, if_neg (by decide), nfit_eq (by rw [hfa]; exact decide_eq_true hf) (by omega)]
      · rw [if_neg hf, if_pos (by decide), zadd, nfit_ne (by rw [hfa]; exact decide_eq_false hf) (by omega)]
        exact ih (i + 1) m (by omega) (by omega)
theorem nextFit_m {cls : List Cl} {nv nc i : Nat} {x a : Int} {X : Tr} {σ : qC} (hS : MStat σ cls) (hX : MTx (σ.2 72) (σ.2 73) (σ.2 74) nv nc x X) (hl : ¬ lab X < 0) (hnc : nc ≤ 24000) (ha : a = i) (hi : i ≤ cls.length) : m_nextFit_150 (Int32.ofInt a) (Int32.ofInt x) σ = some (Int32.ofInt (nfit cls X i : Nat)) := by
  unfold m_nextFit_150
  rw [ha]
  exact nextFitL_m hS hX hl hnc (cls.length - i) i qF (by omega) (by have := hS.2.1; unfold qF; omega)
