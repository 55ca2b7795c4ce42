/-! D42: the reference builds terms: words -/
/-- as MT, in cells from lo on -/
def MTr (G C A : Nat → Int32) (nv lo nc : Nat) : Nat → Int → Tr → Prop
  | 0, _, _ => False
  | k + 1, t, T => (t < 0 ∧ -1 - t < nv ∧ T = trVar (-1 - t).toNat) ∨ ((lo : Int) ≤ t ∧ t < nc ∧ ∃ a : Nat, a ≤ 3 ∧ C t.toNat = Int32.ofInt a ∧ ∃ s : Int, (0 ≤ s ∧ s < 128) ∧ G t.toNat = Int32.ofInt s ∧ T [] = (s, a) ∧ ∀ i, i < a → ∃ m : Int, A (3 * t.toNat + i) = Int32.ofInt m ∧ MTr G C A nv lo nc k m (trArg T i))
theorem MTr.mono {G C A G' C' A' : Nat → Int32} {nv lo nc lo' nc' : Nat} (h1 : lo' ≤ lo) (h2 : nc ≤ nc') (hG : ∀ i, lo ≤ i → i < nc → G' i = G i ∧ C' i = C i) (hA : ∀ i, 3 * lo ≤ i → i < 3 * nc → A' i = A i) : ∀ {k : Nat} {t : Int} {T : Tr}, MTr G C A nv lo nc k t T → MTr G' C' A' nv lo' nc' k t T
  | 0, _, _, h => h
  | k + 1, t, T, h => by
    rcases h with z | ⟨a, b, n, c, d, s, e, f, g, i⟩
    · exact Or.inl z
    · refine Or.inr ⟨by omega, by omega, n, c, by rw [(hG _ (by omega) (by omega)).2, d], s, e, by rw [(hG _ (by omega) (by omega)).1, f], g, fun j hj => ?_⟩
      obtain ⟨m, m1, m2⟩ := i j hj
      exact ⟨m, by rw [hA _ (by omega) (by omega), m1], m2.mono h1 h2 hG hA⟩
theorem MTr.MT {G C A : Nat → Int32} {nv lo nc : Nat} : ∀ {k : Nat} {t : Int} {T : Tr}, MTr G C A nv lo nc k t T → MT G C A nv nc k t T
  | 0, _, _, h => h
  | k + 1, t, T, h => by
    rcases h with z | ⟨a, b, n, c, d, s, e, f, g, i⟩
    · exact Or.inl z
    · refine Or.inr ⟨by omega, b, n, c, d, s, e, f, g, fun j hj => ?_⟩
      obtain ⟨m, m1, m2⟩ := i j hj
      exact ⟨m, m1, m2.MT⟩
theorem MTr.rng {G C A : Nat → Int32} {nv lo nc k : Nat} {t : Int} {T : Tr} (h : MTr G C A nv lo nc k t T) : -1 - (nv : Int) ≤ t ∧ t < nc := by
  cases k with
  | zero => exact h.elim
  | succ k =>
    rcases h with ⟨a, b, -⟩ | ⟨a, b, -⟩ <;> omega
/-- the text that is read, from base on -/
def TXT (σ : qC) (base n : Nat) (tx : Nat → Int) : Prop := σ.1 6413 = Int32.ofInt (base + n : Nat) ∧ (∀ p, p < n → σ.2 66 (base + p) = Int32.ofInt (tx p)) ∧ base + 48 ≤ 624 ∧ n ≤ 48 ∧ (∀ p, n ≤ p → tx p = 0) ∧ (∀ p, 0 ≤ tx p ∧ tx p ≤ 126)
theorem TXT.congr {σ σ' : qC} {base n : Nat} {tx : Nat → Int} (h : TXT σ base n tx) (h1 : σ'.1 6413 = σ.1 6413) (h2 : σ'.2 66 = σ.2 66) : TXT σ' base n tx := by
  unfold TXT
  rw [h1, h2]
  exact h
theorem at_ok {σ : qC} {base n p : Nat} {tx : Nat → Int} {a : Int} (h : TXT σ base n tx) (ha : a = (base + p : Nat)) (hp : p ≤ 100) : m_at_143 (Int32.ofInt a) σ = some (Int32.ofInt (tx p)) := by
  obtain ⟨h1, h2, h3, h4, h5, h6⟩ := h
  unfold m_at_143
  rw [h1]
  by_cases hn : n ≤ p
  · rw [if_pos (zleP (by omega) (by omega) (by omega) (by omega) (by omega)), h5 p hn]
  · rw [if_neg (zleN (by omega) (by omega) (by omega) (by omega) (by omega)), agetI (i := base + p) ha (by omega) (by omega), Option.bind_some, h2 p (by omega)]
/-- the numbers of the letters -/
def MAP (σ : qC) (n env : Nat) (tx : Nat → Int) : Prop := ∀ p, p < n → isCa (tx p) → σ.2 70 (tx p - 65).toNat = Int32.ofInt (env + rnk tx n (tx p - 65).toNat : Nat)
theorem rnk_le {tx : Nat → Int} {n : Nat} : ∀ m, rnk tx n m ≤ m
  | 0 => Nat.le_refl _
  | m + 1 => by
    unfold rnk
    have := rnk_le (tx := tx) (n := n) m
    split <;> omega
theorem rnk_mono {tx : Nat → Int} {n : Nat} {m : Nat} : ∀ k, rnk tx n m ≤ rnk tx n (m + k)
  | 0 => Nat.le_refl _
  | k + 1 => by
    have := rnk_mono (tx := tx) (n := n) (m := m) k
    show _ ≤ rnk tx n (m + k) + _
    omega
theorem rnk_lt {tx : Nat → Int} {n p : Nat} (hp : p < n) (hc : isCa (tx p)) : rnk tx n (tx p - 65).toNat < rnk tx n 26 := by
  have h1 : rnk tx n ((tx p - 65).toNat + 1) = rnk tx n (tx p - 65).toNat + 1 := by
    show rnk tx n (tx p - 65).toNat + (if occ tx n (65 + ((tx p - 65).toNat : Int)) then 1 else 0) = _
    have : occ tx n (65 + ((tx p - 65).toNat : Int)) = true := by
      unfold occ
      rw [List.any_eq_true]
      refine ⟨p, List.mem_range.mpr hp, ?_⟩
      rw [beq_iff_eq]
      omega
    rw [this]
    rfl
  have h2 := rnk_mono (tx := tx) (n := n) (m := (tx p - 65).toNat + 1) (26 - ((tx p - 65).toNat + 1))
  rw [show (tx p - 65).toNat + 1 + (26 - ((tx p - 65).toNat + 1)) = 26 by omega] at h2
  omega
/-- a new cell -/
theorem cell_ok {σ : qC} {nc : Nat} {c : Int32} (h : σ.1 6425 = Int32.ofInt nc) (hn : nc < 24000) :
    ∃ σ', m_cell_146 c σ = some (Int32.ofInt nc, σ') ∧ σ'.1 6425 = Int32.ofInt (nc + 1 : Nat) ∧ σ'.2 72 = fup (σ.2 72) nc c ∧ σ'.2 73 = fup (σ.2 73) nc (Int32.ofInt 0) ∧ (∀ k, k ≠ 72 → k ≠ 73 → σ'.2 k = σ.2 k) ∧ (∀ j, j ≠ 6425 → σ'.1 j = σ.1 j) := by
  unfold m_cell_146
  rw [h, aputI (i := nc) rfl hn (by omega), Option.bind_some, upA_1, h, aputI (i := nc) rfl hn (by omega), Option.bind_some]
  dsimp only [qlet]
  rw [upA_1, upA_1, h, zadd]
  obtain ⟨σ', hσ'⟩ : ∃ σ', σ' = upS (upA (upA σ 72 nc c) 73 nc (Int32.ofInt 0)) 6425 (Int32.ofInt ((nc : Int) + 1)) := ⟨_, rfl⟩
  rw [← hσ']
  have e : σ'.1 6425 = Int32.ofInt ((nc + 1 : Nat) : Int) := by rw [hσ', upS_1, if_pos rfl]; rfl
  refine ⟨σ', ?_, e, by rw [hσ', upS_2, upA_ne (by omega), upA_eq], by rw [hσ', upS_2, upA_eq, upA_ne (by omega)], fun k a b => by rw [hσ', upS_2, upA_ne b, upA_ne a], fun j hj => by rw [hσ', upS_1, if_neg hj]; rfl⟩
  rw [e, zsub]
  have : ((nc + 1 : Nat) : Int) - 1 = nc := by omega
  rw [this]
/-- an argument is hung on -/
theorem hang_ok {σ : qC} {d f c : Nat} {t : Int32} (hd : d < 8) (ho : σ.2 68 d = Int32.ofInt f) (hc : σ.2 73 f = Int32.ofInt c) (hf : f < 24000) (hc3 : c < 3) :
    ∃ σ', m_hang_147 (Int32.ofInt d) t σ = some σ' ∧ σ'.1 = σ.1 ∧ σ'.2 74 = fup (σ.2 74) (3 * f + c) t ∧ σ'.2 73 = fup (σ.2 73) f (Int32.ofInt (c + 1 : Nat)) ∧ (∀ k, k ≠ 73 → k ≠ 74 → σ'.2 k = σ.2 k) := by
  unfold m_hang_147
  rw [agetI (i := d) rfl hd (by omega), Option.bind_some, ho, agetI (i := f) rfl hf (by omega), Option.bind_some, hc, zmul, zadd, aputI (i := 3 * f + c) (by omega) (by omega) (by omega), Option.bind_some, agetI (i := f) rfl hf (by omega), Option.bind_some, upA_ne (by omega), hc, zadd, aputI (i := f) rfl hf (by omega), Option.bind_some]
  exact ⟨_, rfl, rfl, by rw [upA_ne (by omega), upA_eq], by rw [upA_eq, upA_ne (by omega)]; rfl, fun k a b => by rw [upA_ne a, upA_ne b]⟩
/-- where a term was read, it ends behind its beginning -/
theorem pT_ends {tx : Nat → Int} : ∀ (k i : Nat), (pT tx k i).1 = true → i < (pT tx k i).2.1 := by
  intro k
  induction k with
  | zero => intro i h; cases h
  | succ k ih =>
    have hpA : ∀ (j i : Nat), (pA tx (pT tx k) j i).1 = true → i < (pA tx (pT tx k) j i).2.1 := by
      intro j
      induction j with
      | zero => intro i h; cases h
      | succ j ihj =>
        intro i h
        unfold pA at h ⊢
        by_cases h1 : (pT tx k i).1 = false
        · rw [if_pos h1] at h; cases h
        rw [if_neg h1] at h ⊢
        have h1' : (pT tx k i).1 = true := by simpa using h1
        have e1 := ih i h1'
        by_cases h2 : tx (pT tx k i).2.1 = 41
        · rw [if_pos h2]
          dsimp only
          omega
        rw [if_neg h2] at h ⊢
        by_cases h3 : j = 0 ∨ tx (pT tx k i).2.1 ≠ 44
        · rw [if_pos h3] at h; cases h
        rw [if_neg h3] at h ⊢
        have e2 := ihj _ h
        dsimp only
        omega
    intro i h
    unfold pT at h ⊢
    by_cases h1 : ¬ isSm (tx i) ∧ ¬ isCa (tx i) ∧ ¬ isDi (tx i)
    · rw [if_pos h1] at h; cases h
    rw [if_neg h1] at h ⊢
    by_cases h2 : ¬ isSm (tx i) ∨ k = 0 ∨ tx (i + 1) ≠ 40
    · rw [if_pos h2]
      dsimp only
      omega
    · rw [if_neg h2] at h ⊢
      have e1 := hpA 3 (i + 2) h
      omega
