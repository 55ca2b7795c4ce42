/-! D59: the class reads a term -/
def TXc (σ : qC) (n : Nat) (tx : Nat → Int) : Prop := σ.1 2501 = Int32.ofInt n ∧ (∀ p, p < n → σ.2 26 p = Int32.ofInt (tx p)) ∧ n ≤ 48 ∧ (∀ p, n ≤ p → tx p = 0) ∧ (∀ p, 0 ≤ tx p ∧ tx p ≤ 126)
theorem TXc.congr {σ σ' : qC} {n : Nat} {tx : Nat → Int} (h : TXc σ n tx) (h1 : σ'.1 2501 = σ.1 2501) (h2 : σ'.2 26 = σ.2 26) : TXc σ' n tx := by
  unfold TXc
  rw [h1, h2]
  exact h
theorem at_c {σ : qC} {n i : Nat} {tx : Nat → Int} (h : TXc σ n tx) (hi : i ≤ 100) : c_at_32 (Int32.ofInt i) σ = Int32.ofInt (tx i) := by
  obtain ⟨h1, h2, h3, h4, h5⟩ := h
  unfold c_at_32
  rw [h1, z0, if_neg (zltN (by omega) (by omega) (by omega) (by omega) (by omega))]
  by_cases hn : n ≤ i
  · rw [if_pos (zleP (by omega) (by omega) (by omega) (by omega) (by omega)), h4 i hn]
  · rw [if_neg (zleN (by omega) (by omega) (by omega) (by omega) (by omega)), znat, if_neg (zleN (by omega) (by omega) (by omega) (by omega) (by omega)), zcl (by omega) (by omega)]
    exact h2 i (by omega)
theorem small_c {c : Int} (h : 0 ≤ c ∧ c ≤ 126) : c_isSmall_33 (Int32.ofInt c) = if isSm c then Int32.ofInt 1 else Int32.ofInt 0 := by
  unfold c_isSmall_33
  by_cases h1 : c < 97
  · rw [if_pos (zltP h1 (by omega) (by omega) (by omega) (by omega)), if_neg (by omega)]
  · rw [if_neg (zltN (by omega) (by omega) (by omega) (by omega) (by omega))]
    by_cases h2 : 122 < c
    · rw [if_pos (zltP h2 (by omega) (by omega) (by omega) (by omega)), if_neg (by omega)]
    · rw [if_neg (zltN (by omega) (by omega) (by omega) (by omega) (by omega)), if_pos (by omega)]
theorem cap_c {c : Int} (h : 0 ≤ c ∧ c ≤ 126) : c_isCapital_35 (Int32.ofInt c) = if isCa c then Int32.ofInt 1 else Int32.ofInt 0 := by
  unfold c_isCapital_35
  by_cases h1 : c < 65
  · rw [if_pos (zltP h1 (by omega) (by omega) (by omega) (by omega)), if_neg (by omega)]
  · rw [if_neg (zltN (by omega) (by omega) (by omega) (by omega) (by omega))]
    by_cases h2 : 90 < c
    · rw [if_pos (zltP h2 (by omega) (by omega) (by omega) (by omega)), if_neg (by omega)]
    · rw [if_neg (zltN (by omega) (by omega) (by omega) (by omega) (by omega)), if_pos (by omega)]
theorem dig_c {c : Int} (h : 0 ≤ c ∧ c ≤ 126) : c_isDigit_36 (Int32.ofInt c) = if isDi c then Int32.ofInt 1 else Int32.ofInt 0 := by
  unfold c_isDigit_36
  by_cases h1 : c < 48
  · rw [if_pos (zltP h1 (by omega) (by omega) (by omega) (by omega)), if_neg (by omega)]
  · rw [if_neg (zltN (by omega) (by omega) (by omega) (by omega) (by omega))]
    by_cases h2 : 57 < c
    · rw [if_pos (zltP h2 (by omega) (by omega) (by omega) (by omega)), if_neg (by omega)]
    · rw [if_neg (zltN (by omega) (by omega) (by omega) (by omega) (by omega)), if_pos (by omega)]
/-- the signs on the page that is read -/
def SGc (B : Nat → Int32) (p : Nat) (tx : Nat → Int) (i : Nat) : Prop := ∀ j, j < 48 → ∃ s : Int, B (9 * (48 * p + j)) = Int32.ofInt s ∧ ((s = 0 ∧ (i ≤ j ∨ ¬ isCa (tx j))) ∨ (s = tx j ∧ j < i ∧ (isCa (tx j) → B (9 * (48 * p + j) + 1) = Int32.ofInt 0)))
theorem SGc.congr {B B' : Nat → Int32} {p i : Nat} {tx : Nat → Int} (h : SGc B p tx i) (h0 : ∀ j, j < 48 → B' (9 * (48 * p + j)) = B (9 * (48 * p + j))) (h1 : ∀ j, j < 48 → isCa (tx j) → B' (9 * (48 * p + j) + 1) = B (9 * (48 * p + j) + 1)) : SGc B' p tx i := by
  intro j hj
  obtain ⟨s, g1, g2⟩ := h j hj
  refine ⟨s, by rw [h0 j hj, g1], ?_⟩
  rcases g2 with g2 | ⟨a, b, c⟩
  · exact Or.inl g2
  · exact Or.inr ⟨a, b, fun z => by rw [h1 j hj z, c z]⟩
def mkB (tx : Nat → Int) (i : Nat) : Nat → Bool := fun j => occ tx i (65 + (j : Int))
def RdC (σ : qC) (p n : Nat) (tx : Nat → Int) (i : Nat) : Prop := TXc σ n tx ∧ σ.1 3202 = Int32.ofInt p ∧ σ.1 3203 = Int32.ofInt i ∧ i ≤ n ∧ p < 13 ∧ σ.2 30 (4 * p) = Int32.ofInt (bval (mkB tx i) 26 : Nat) ∧ SGc (σ.2 28) p tx i
theorem mk_no {tx : Nat → Int} {i : Nat} (h : ¬ isCa (tx i)) : bval (mkB tx (i + 1)) 26 = bval (mkB tx i) 26 := by
  apply bval_ext
  intro j hj
  unfold mkB
  rw [occ_succ]
  have : (tx i == 65 + (j : Int)) = false := by
    rw [beq_eq_false_iff_ne]
    intro z
    exact h (by omega)
  rw [this, Bool.or_false]
theorem mk_yes {tx : Nat → Int} {i : Nat} (h : isCa (tx i)) : bval (mkB tx (i + 1)) 26 = bval (mkB tx i) 26 ||| 2 ^ (tx i - 65).toNat := by
  rw [bval_or _ (by omega)]
  apply bval_ext
  intro j hj
  unfold mkB
  rw [occ_succ]
  congr 1
  by_cases e : j = (tx i - 65).toNat
  · rw [decide_eq_true e]
    rw [beq_iff_eq]
    omega
  · rw [decide_eq_false e]
    rw [beq_eq_false_iff_ne]
    omega
theorem SGc.up {B : Nat → Int32} {p i : Nat} {tx : Nat → Int} (h : SGc B p tx i) (hc : ¬ isCa (tx i)) : SGc B p tx (i + 1) := by
  intro j hj
  obtain ⟨s, h1, h2⟩ := h j hj
  refine ⟨s, h1, ?_⟩
  rcases h2 with ⟨a, b⟩ | ⟨a, b, c⟩
  · refine Or.inl ⟨a, ?_⟩
    by_cases e : j = i
    · subst e
      exact Or.inr hc
    · rcases b with b | b
      · exact Or.inl (by omega)
      · exact Or.inr b
  · exact Or.inr ⟨a, by omega, c⟩
theorem RdC.up {σ : qC} {p n i : Nat} {tx : Nat → Int} (h : RdC σ p n tx i) (hi : i + 1 ≤ n) (hc : ¬ isCa (tx i)) : RdC (upS σ 3203 (Int32.ofInt (i + 1 : Nat))) p n tx (i + 1) := by
  obtain ⟨h1, h2, h3, h4, h5, h6, h7⟩ := h
  exact ⟨h1.congr (by rw [upS_1, if_neg (by omega)]) rfl, by rw [upS_1, if_neg (by omega), h2], by rw [upS_1, if_pos rfl], hi, h5, by rw [mk_no hc]; exact h6, h7.up hc⟩
theorem readSign_c {σ : qC} {p n i : Nat} {c : Int} {tx : Nat → Int} (h : RdC σ p n tx i) (hc : 0 ≤ c ∧ c ≤ 126) : c_readSign_39 (Int32.ofInt c) σ = if tx i = c then some (Int32.ofInt 1, upS σ 3203 (Int32.ofInt (i + 1 : Nat))) else some (Int32.ofInt 0, σ) := by
  have h5 := h.1.2.2.2.2 i
  have hn := h.1.2.2.1
  have hi := h.2.2.2.1
  unfold c_readSign_39
  rw [h.2.2.1, at_c h.1 (by omega)]
  by_cases e : tx i = c
  · rw [if_pos (by rw [e]), if_pos e]
    dsimp only [qlet]
    rw [zadd]
    rfl
  · rw [if_neg (zeqN e (by omega) (by omega) (by omega) (by omega)), if_neg e]
theorem node_c {σ : qC} {p n i : Nat} {tx : Nat → Int} (h : RdC σ p n tx i) : c_node_37 σ = Int32.ofInt (48 * p + i : Nat) := by
  unfold c_node_37 c_firstNode_31
  rw [h.2.1, h.2.2.1, zmul, zadd]
  congr 1
  omega
/-- what reading a term leaves -/
def FrR (σ σ' : qC) (p lo : Nat) : Prop := (∀ j, j ≠ 3203 → σ'.1 j = σ.1 j) ∧ (∀ a, a ≠ 28 → a ≠ 30 → σ'.2 a = σ.2 a) ∧ (∀ k, k ≠ 4 * p → σ'.2 30 k = σ.2 30 k) ∧ (∀ k, k < 9 * (48 * p + lo) ∨ 9 * (48 * p + 48) ≤ k ∨ k % 9 = 5 ∨ k % 9 = 6 ∨ k % 9 = 7 → σ'.2 28 k = σ.2 28 k)
theorem FrR.refl {σ : qC} {p lo : Nat} : FrR σ σ p lo := ⟨fun _ _ => rfl, fun _ _ _ => rfl, fun _ _ => rfl, fun _ _ => rfl⟩
theorem FrR.trans {σ σ' σ'' : qC} {p lo lo' : Nat} (h : FrR σ σ' p lo) (g : FrR σ' σ'' p lo') (hl : lo ≤ lo') : FrR σ σ'' p lo :=
  ⟨fun j hj => by rw [g.1 j hj, h.1 j hj], fun a x y => by rw [g.2.1 a x y, h.2.1 a x y], fun k hk => by rw [g.2.2.1 k hk, h.2.2.1 k hk], fun k hk => by rw [g.2.2.2 k (by omega), h.2.2.2 k hk]⟩
theorem FrR.up {σ : qC} {p lo : Nat} {v : Int32} : FrR σ (upS σ 3203 v) p lo := ⟨fun j hj => by rw [upS_1, if_neg hj], fun _ _ _ => rfl, fun _ _ => rfl, fun _ _ => rfl⟩
theorem FrR.lo {σ σ' : qC} {p lo lo' : Nat} (h : FrR σ σ' p lo) (hl : lo' ≤ lo) : FrR σ σ' p lo' := ⟨h.1, h.2.1, h.2.2.1, fun k hk => h.2.2.2 k (by omega)⟩
set_option maxHeartbeats 1000000 in
theorem noteT_c {σ : qC} {p n i : Nat} {tx : Nat → Int} (h : RdC σ p n tx i) (hi : i < n) :
    ∃ σ', c_noteTerm_38 (Int32.ofInt p) (Int32.ofInt (48 * p + i : Nat)) (Int32.ofInt (tx i)) σ = some σ' ∧ σ'.1 3203 = Int32.ofInt i ∧ RdC (upS σ' 3203 (Int32.ofInt (i + 1 : Nat))) p n tx (i + 1) ∧ FrR σ σ' p i ∧
      σ'.2 28 (9 * (48 * p + i)) = Int32.ofInt (tx i) ∧ σ'.2 28 (9 * (48 * p + i) + 1) = Int32.ofInt 0 ∧ σ'.2 28 (9 * (48 * p + i) + 8) = Int32.ofInt (-1) := by
  obtain ⟨h1, h2, h3, h4, h5, h6, h7⟩ := h
  have hn := h1.2.2.1
  have hr := h1.2.2.2.2 i
  unfold c_noteTerm_38
  rw [tputI (i := 9 * (48 * p + i)) (by omega) (by omega), Option.bind_some, tputI (i := 9 * (48 * p + i) + 1) (by omega) (by omega), Option.bind_some, tputI (i := 9 * (48 * p + i) + 8) (by omega) (by omega), Option.bind_some]
  obtain ⟨σ3, hσ3⟩ : ∃ σ3, σ3 = upA (upA (upA σ 28 (9 * (48 * p + i)) (Int32.ofInt (tx i))) 28 (9 * (48 * p + i) + 1) (Int32.ofInt 0)) 28 (9 * (48 * p + i) + 8) (Int32.ofInt (-1)) := ⟨_, rfl⟩
  rw [← hσ3]
  have s1 : σ3.1 = σ.1 := by rw [hσ3]; rfl
  have sa : ∀ a, a ≠ 28 → σ3.2 a = σ.2 a := fun a ha => by rw [hσ3, upA_ne ha, upA_ne ha, upA_ne ha]
  have s28 : ∀ k, σ3.2 28 k = if k = 9 * (48 * p + i) + 8 then Int32.ofInt (-1) else if k = 9 * (48 * p + i) + 1 then Int32.ofInt 0 else if k = 9 * (48 * p + i) then Int32.ofInt (tx i) else σ.2 28 k := by
    intro k
    rw [hσ3, upA_eq, fup_at, upA_eq, fup_at, upA_eq, fup_at]
  have f28 : ∀ k, k < 9 * (48 * p + i) ∨ 9 * (48 * p + 48) ≤ k ∨ k % 9 = 5 ∨ k % 9 = 6 ∨ k % 9 = 7 → σ3.2 28 k = σ.2 28 k := fun k hk => by
    rw [s28, if_neg (by omega), if_neg (by omega), if_neg (by omega)]
  have hsg : SGc (σ3.2 28) p tx (i + 1) := by
    intro j hj
    by_cases e : j = i
    · subst e
      exact ⟨tx j, by rw [s28, if_neg (by omega), if_neg (by omega), if_pos rfl], Or.inr ⟨rfl, by omega, fun _ => by rw [s28, if_neg (by omega), if_pos rfl]⟩⟩
    · obtain ⟨s, g1, g2⟩ := h7 j hj
      refine ⟨s, by rw [s28, if_neg (by omega), if_neg (by omega), if_neg (by omega), g1], ?_⟩
      rcases g2 with ⟨a, b⟩ | ⟨a, b, c⟩
      · refine Or.inl ⟨a, ?_⟩
        rcases b with b | b
        · exact Or.inl (by omega)
        · exact Or.inr b
      · exact Or.inr ⟨a, by omega, fun z => by rw [s28, if_neg (by omega), if_neg (by omega), if_neg (by omega), c z]⟩
  rw [cap_c hr]
  by_cases hc : isCa (tx i)
  · rw [if_pos hc, if_neg (by decide), tatI (i := 4 * p) (by omega) (by omega), sa 30 (by omega), h6, zsub, show tx i - 65 = (((tx i - 65).toNat : Nat) : Int) by omega]
    rw [zshl ⟨(tx i - 65).toNat, by omega⟩, zor, ← mk_yes hc, tputI (i := 4 * p) (by omega) (by omega), Option.bind_some]
    refine ⟨_, rfl, by rw [upA_1, s1, h3], ⟨h1.congr ?_ ?_, ?_, ?_, hi, h5, ?_, ?_⟩, ⟨fun j _ => by rw [upA_1, s1], fun a x y => by rw [upA_ne y, sa a x], fun k hk => by rw [upA_eq, fup_at, if_neg hk, sa 30 (by omega)], fun k hk => by rw [upA_ne (by omega), f28 k hk]⟩, ?_, ?_, ?_⟩
    · rw [upS_1, if_neg (by omega), upA_1, s1]
    · rw [upS_2, upA_ne (by omega), sa 26 (by omega)]
    · rw [upS_1, if_neg (by omega), upA_1, s1, h2]
    · rw [upS_1, if_pos rfl]
    · rw [upS_2, upA_eq, fup_at, if_pos rfl]
    · rw [upS_2, upA_ne (by omega)]
      exact hsg
    · rw [upA_ne (by omega), s28, if_neg (by omega), if_neg (by omega), if_pos rfl]
    · rw [upA_ne (by omega), s28, if_neg (by omega), if_pos rfl]
    · rw [upA_ne (by omega), s28, if_pos rfl]
  · rw [if_neg hc, if_pos (by decide)]
    refine ⟨_, rfl, by rw [s1, h3], ⟨h1.congr ?_ ?_, ?_, ?_, hi, h5, ?_, hsg⟩, ⟨fun j _ => by rw [s1], fun a x y => by rw [sa a x], fun k hk => by rw [sa 30 (by omega)], f28⟩, ?_, ?_, ?_⟩
    · rw [upS_1, if_neg (by omega), s1]
    · rw [upS_2, sa 26 (by omega)]
    · rw [upS_1, if_neg (by omega), s1, h2]
    · rw [upS_1, if_pos rfl]
    · rw [upS_2, sa 30 (by omega), h6, mk_no hc]
    · rw [s28, if_neg (by omega), if_neg (by omega), if_pos rfl]
    · rw [s28, if_neg (by omega), if_pos rfl]
    · rw [s28, if_pos rfl]
/-- the nodes of a term that was read -/
def NT (B : Nat → Int32) (p : Nat) (tx : Nat → Int) (e : Nat) : Nat → Nat → Prop
  | 0, _ => False
  | k + 1, i => i < e ∧ B (9 * (48 * p + i)) = Int32.ofInt (tx i) ∧ B (9 * (48 * p + i) + 1) = Int32.ofInt ((pT tx (k + 1) i).2.2.length : Nat) ∧ B (9 * (48 * p + i) + 8) = Int32.ofInt (-1) ∧ (pT tx (k + 1) i).2.2.length ≤ 3 ∧ ∀ j a : Nat, (pT tx (k + 1) i).2.2[j]? = some a → B (9 * (48 * p + i) + (2 + j)) = Int32.ofInt (48 * p + a : Nat) ∧ i < a ∧ NT B p tx e k a
theorem NT.congr {B B' : Nat → Int32} {p e lo e' : Nat} {tx : Nat → Int} (h : ∀ x, 9 * (48 * p + lo) ≤ x → x < 9 * (48 * p + e) → x % 9 ≠ 5 → x % 9 ≠ 6 → x % 9 ≠ 7 → B' x = B x) (he : e ≤ e') : ∀ {k i : Nat}, lo ≤ i → NT B p tx e k i → NT B' p tx e' k i
  | 0, _, _, z => z
  | k + 1, i, hi, ⟨z1, z2, z3, z4, z5, z6⟩ => by
    refine ⟨by omega, by rw [h _ (by omega) (by omega) (by omega) (by omega) (by omega), z2], by rw [h _ (by omega) (by omega) (by omega) (by omega) (by omega), z3], by rw [h _ (by omega) (by omega) (by omega) (by omega) (by omega), z4], z5, fun j a hj => ?_⟩
    have hj3 : j < (pT tx (k + 1) i).2.2.length := by
      apply Classical.byContradiction
      intro w
      rw [List.getElem?_eq_none (by omega)] at hj
      cases hj
    obtain ⟨y1, y2, y3⟩ := z6 j a hj
    exact ⟨by rw [h _ (by omega) (by omega) (by omega) (by omega) (by omega), y1], y2, NT.congr h he (by omega) y3⟩
