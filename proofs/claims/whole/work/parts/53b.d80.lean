/-! D80: the reference writes a term -/
def arM (R : Tr) : Nat → List It → List It
  | 0, l => l
  | j + 1, l => arM R j (if j = 0 then .inr (trArg R j) :: l else .inl 44 :: .inr (trArg R j) :: l)
theorem arI_M {R : Tr} : ∀ (j : Nat) (l : List It), arI R (j + 1) l = .inl 40 :: arM R (j + 1) l
  | 0, l => rfl
  | j + 1, l => by
    have h1 : arI R (j + 1 + 1) l = arI R (j + 1) (.inl 44 :: .inr (trArg R (j + 1)) :: l) := rfl
    have h2 : arM R (j + 1 + 1) l = arM R (j + 1) (.inl 44 :: .inr (trArg R (j + 1)) :: l) := rfl
    rw [h1, h2, arI_M j]
def RWm (σ : qC) (nv nc : Nat) : List It → Prop
  | [] => True
  | .inl c :: r => (σ.2 104 r.length = Int32.ofInt (100000 + c) ∧ 0 ≤ c ∧ c ≤ 126) ∧ RWm σ nv nc r
  | .inr T :: r => (∃ t : Int, σ.2 104 r.length = Int32.ofInt t ∧ MTx (σ.2 72) (σ.2 73) (σ.2 74) nv nc t T) ∧ RWm σ nv nc r
theorem RWm.congr {σ σ' : qC} {nv nc : Nat} (h2 : ∀ a, a = 72 ∨ a = 73 ∨ a = 74 → σ'.2 a = σ.2 a) : ∀ {l : List It}, RWm σ nv nc l → (∀ i, i < l.length → σ'.2 104 i = σ.2 104 i) → RWm σ' nv nc l
  | [], _, _ => trivial
  | .inl c :: r, h, hx => by
    rw [List.length_cons] at hx
    exact ⟨⟨by rw [hx _ (by omega), h.1.1], h.1.2⟩, h.2.congr h2 (fun i hi => hx i (by omega))⟩
  | .inr T :: r, h, hx => by
    rw [List.length_cons] at hx
    obtain ⟨⟨t, t1, t2⟩, h4⟩ := h
    exact ⟨⟨t, by rw [hx _ (by omega), t1], by rw [h2 72 (by omega), h2 73 (by omega), h2 74 (by omega)]; exact t2⟩, h4.congr h2 (fun i hi => hx i (by omega))⟩
def FrWm (σ σ' : qC) : Prop := (∀ j, j ≠ 6463 → σ'.1 j = σ.1 j) ∧ (∀ a, a ≠ 103 → a ≠ 104 → σ'.2 a = σ.2 a)
theorem FrWm.trans {σ σ' σ'' : qC} (h : FrWm σ σ') (g : FrWm σ' σ'') : FrWm σ σ'' := ⟨fun j a => by rw [g.1 j a, h.1 j a], fun a x y => by rw [g.2 a x y, h.2 a x y]⟩
theorem put_m {σ : qC} {k : Nat} {c : Int32} (h : σ.1 6463 = Int32.ofInt k) (hk : k ≤ 80) :
    ∃ σ', m_put_171 c σ = some σ' ∧ (k = 80 → σ' = σ) ∧ (k < 80 → σ'.1 6463 = Int32.ofInt (k + 1 : Nat) ∧ σ'.2 103 = fup (σ.2 103) k c) ∧ FrWm σ σ' ∧ σ'.2 104 = σ.2 104 := by
  unfold m_put_171
  rw [h]
  by_cases e : k = 80
  · rw [if_pos (by rw [e]; rfl)]
    exact ⟨σ, rfl, fun _ => rfl, fun z => by omega, ⟨fun _ _ => rfl, fun _ _ _ => rfl⟩, rfl⟩
  · rw [if_neg (zeqN (by omega) (by omega) (by omega) (by omega) (by omega)), aputI (i := k) rfl (by omega) (by omega), Option.bind_some]
    dsimp only [qlet]
    rw [upA_1, h, zadd]
    refine ⟨_, rfl, fun z => absurd z e, fun _ => ⟨by rw [upS_1, if_pos rfl]; rfl, by rw [upS_2, upA_eq]⟩, ⟨fun j hj => by rw [upS_1, if_neg hj]; rfl, fun a x y => by rw [upS_2, upA_ne x]⟩, by rw [upS_2, upA_ne (by omega)]⟩
theorem argsL_m {K : Int32 → qC → Option qC} {nv nc : Nat} {t : Int} {R : Tr} (hnc : nc ≤ 24000) (ht : 0 ≤ t ∧ t < nc) : ∀ (j fuel : Nat) (l : List It) (σ : qC), RWm σ nv nc l → j ≤ 3 → j < fuel → l.length + 2 * j ≤ 800 → (∀ i, i < j → ∃ m : Int, σ.2 74 (3 * t.toNat + i) = Int32.ofInt m ∧ MTx (σ.2 72) (σ.2 73) (σ.2 74) nv nc m (trArg R i)) →
    ∃ σ', m_write_170_l125 K fuel (Int32.ofInt l.length) (Int32.ofInt t) (Int32.ofInt ((j : Int) - 1)) σ = K (Int32.ofInt (arM R j l).length) σ' ∧ RWm σ' nv nc (arM R j l) ∧ (arM R j l).length ≤ l.length + 2 * j ∧ σ'.1 = σ.1 ∧ (∀ a, a ≠ 104 → σ'.2 a = σ.2 a) := by
  intro j
  induction j with
  | zero =>
    intro fuel l σ hR _ hf _ _
    obtain ⟨fuel, rfl⟩ : ∃ m, fuel = m + 1 := ⟨fuel - 1, by omega⟩
    unfold m_write_170_l125
    rw [z0, if_pos (zltP (by omega) (by omega) (by omega) (by omega) (by omega))]
    exact ⟨σ, rfl, hR, by show l.length ≤ _; omega, rfl, fun _ _ => rfl⟩
  | succ j ih =>
    intro fuel l σ hR hj hf hl ha
    obtain ⟨fuel, rfl⟩ : ∃ m, fuel = m + 1 := ⟨fuel - 1, by omega⟩
    obtain ⟨m, m1, m2⟩ := ha j (by omega)
    conv => enter [1, σ', 1, 1]; unfold m_write_170_l125
    rw [z0, if_neg (zltN (by omega) (by omega) (by omega) (by omega) (by omega)), show ((j + 1 : Nat) : Int) - 1 = (j : Nat) by omega, zmul, zadd, agetI (i := 3 * t.toNat + j) (by omega) (by omega) (by omega), Option.bind_some, m1, aputI (i := l.length) rfl (by omega) (by omega), Option.bind_some, zadd, zadd, show ((j : Nat) : Int) + -1 = (j : Int) - 1 by omega]
    obtain ⟨σ1, hσ1⟩ : ∃ σ1, σ1 = upA σ 104 l.length (Int32.ofInt m) := ⟨_, rfl⟩
    rw [← hσ1]
    have f2 : ∀ a, a ≠ 104 → σ1.2 a = σ.2 a := fun a ha => by rw [hσ1, upA_ne ha]
    have hR1 : RWm σ1 nv nc (.inr (trArg R j) :: l) := ⟨⟨m, by rw [hσ1, upA_eq, fup_at, if_pos rfl], by rw [f2 _ (by omega), f2 _ (by omega), f2 _ (by omega)]; exact m2⟩, hR.congr (fun a ha => f2 a (by omega)) (fun i hi => by rw [hσ1, upA_eq, fup_at, if_neg (by omega)])⟩
    by_cases h0 : j = 0
    · rw [if_pos (by rw [h0]; rfl)]
      have ea : arM R (j + 1) l = arM R j (.inr (trArg R j) :: l) := by
        show arM R j (if j = 0 then _ else _) = _
        rw [if_pos h0]
      obtain ⟨σ', a1, a2, a3, a4, a5⟩ := ih fuel (.inr (trArg R j) :: l) σ1 hR1 (by omega) (by omega) (by rw [List.length_cons]; omega) (fun i hi => by omega)
      rw [ea]
      rw [List.length_cons] at a1 a3
      exact ⟨σ', a1, a2, by omega, by rw [a4, hσ1]; rfl, fun a ha => by rw [a5 a ha, f2 a ha]⟩
    · rw [if_neg (zeqN (by omega) (by omega) (by omega) (by omega) (by omega)), aputI (i := l.length + 1) (by omega) (by omega) (by omega), Option.bind_some, zadd]
      obtain ⟨σ2, hσ2⟩ : ∃ σ2, σ2 = upA σ1 104 (l.length + 1) (Int32.ofInt 100044) := ⟨_, rfl⟩
      rw [← hσ2]
      have f3 : ∀ a, a ≠ 104 → σ2.2 a = σ.2 a := fun a ha => by rw [hσ2, upA_ne ha, f2 a ha]
      have hR2 : RWm σ2 nv nc (.inl 44 :: .inr (trArg R j) :: l) := ⟨⟨by rw [hσ2, upA_eq, fup_at, List.length_cons, if_pos rfl]; rfl, by omega, by omega⟩, hR1.congr (fun a ha => by rw [hσ2, upA_ne (by omega)]) (fun i hi => by
        rw [List.length_cons] at hi
        rw [hσ2, upA_eq, fup_at, if_neg (by omega)])⟩
      have ea : arM R (j + 1) l = arM R j (.inl 44 :: .inr (trArg R j) :: l) := by
        show arM R j (if j = 0 then _ else _) = _
        rw [if_neg h0]
      obtain ⟨σ', a1, a2, a3, a4, a5⟩ := ih fuel (.inl 44 :: .inr (trArg R j) :: l) σ2 hR2 (by omega) (by omega) (by rw [List.length_cons, List.length_cons]; omega) (fun i hi => by
        obtain ⟨m', x1, x2⟩ := ha i (by omega)
        exact ⟨m', by rw [f3 _ (by omega), x1], by rw [f3 _ (by omega), f3 _ (by omega), f3 _ (by omega)]; exact x2⟩)
      rw [ea]
      rw [List.length_cons, List.length_cons] at a1 a3
      refine ⟨σ', a1, a2, by omega, by rw [a4, hσ2, hσ1]; rfl, fun a ha => by rw [a5 a ha, f3 a ha]⟩
def HWm (σ : qC) (nv nc : Nat) (b : Bd) (bi : Nat → Int) : Prop := nv ≤ 13000 ∧ nc ≤ 24000 ∧ bOrd nv b ∧ RVm (σ.2 72) (σ.2 73) (σ.2 74) (σ.2 75) nv nc b bi
theorem HWm.fr {σ σ' : qC} {nv nc : Nat} {b : Bd} {bi : Nat → Int} (h : HWm σ nv nc b bi) (hf : FrWm σ σ') : HWm σ' nv nc b bi := by
  unfold HWm
  rw [hf.2 72 (by omega) (by omega), hf.2 73 (by omega) (by omega), hf.2 74 (by omega) (by omega), hf.2 75 (by omega) (by omega)]
  exact h
