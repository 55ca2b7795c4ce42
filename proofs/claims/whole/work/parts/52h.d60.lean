/-! D60: the class reads a term, all of it -/
theorem pA_len {tx : Nat → Int} {f : Nat → Bool × Nat × List Nat} : ∀ (j i : Nat), (pA tx f j i).2.2.length ≤ j
  | 0, _ => Nat.le_refl _
  | j + 1, i => by
    unfold pA
    have := pA_len (tx := tx) (f := f) j ((f i).2.1 + 1)
    split
    · simp
    · split
      · simp
      · split
        · simp
        · simp only [List.length_cons]
          omega
theorem pA_place {tx : Nat → Int} {n k : Nat} (h0 : ∀ p, n ≤ p → tx p = 0) : ∀ (j i : Nat), i ≤ n → (pA tx (pT tx k) j i).2.1 ≤ n ∧ i ≤ (pA tx (pT tx k) j i).2.1 := by
  intro j
  induction j with
  | zero => intro i h; exact ⟨h, Nat.le_refl _⟩
  | succ j ihj =>
    intro i h
    have hi := pT_place h0 k i h
    unfold pA
    split
    · exact hi
    · split
      · rename_i h2
        refine ⟨?_, by dsimp only; omega⟩
        dsimp only
        apply Classical.byContradiction
        intro z
        have := h0 (pT tx k i).2.1 (by omega)
        omega
      · split
        · exact hi
        · rename_i h2 h3
          have h44 : tx (pT tx k i).2.1 = 44 := by
            apply Classical.byContradiction
            intro z
            exact h3 (Or.inr z)
          have hlt : (pT tx k i).2.1 < n := by
            apply Classical.byContradiction
            intro z
            have := h0 (pT tx k i).2.1 (by omega)
            omega
          have := ihj ((pT tx k i).2.1 + 1) (by omega)
          exact ⟨this.1, by dsimp only; omega⟩
/-- what reading arguments leaves: par is the first number of the node that has them -/
def FrA (σ σ' : qC) (p par c lo : Nat) : Prop := (∀ j, j ≠ 3203 → σ'.1 j = σ.1 j) ∧ (∀ a, a ≠ 28 → a ≠ 30 → σ'.2 a = σ.2 a) ∧ (∀ k, k ≠ 4 * p → σ'.2 30 k = σ.2 30 k) ∧ (∀ k, k < par + 1 ∨ (par + 2 ≤ k ∧ k < par + 2 + c) ∨ (par + 5 ≤ k ∧ k < 9 * (48 * p + lo)) ∨ 9 * (48 * p + 48) ≤ k ∨ k % 9 = 5 ∨ k % 9 = 6 ∨ k % 9 = 7 → σ'.2 28 k = σ.2 28 k)
theorem noteA_c {σ : qC} {p n i i0 c : Nat} {tx : Nat → Int} (h : RdC σ p n tx i) (hi0 : i0 < i) (hca : ¬ isCa (tx i0)) (hc : c < 3) :
    ∃ σ', c_noteArgument_40 (Int32.ofInt (48 * p + i0 : Nat)) (Int32.ofInt c) (Int32.ofInt (48 * p + i : Nat)) σ = some σ' ∧ RdC σ' p n tx i ∧ FrA σ σ' p (9 * (48 * p + i0)) c i ∧ σ'.2 28 (9 * (48 * p + i0) + 1) = Int32.ofInt (c + 1 : Nat) ∧ σ'.2 28 (9 * (48 * p + i0) + (2 + c)) = Int32.ofInt (48 * p + i : Nat) ∧ σ'.1 = σ.1 := by
  obtain ⟨h1, h2, h3, h4, h5, h6, h7⟩ := h
  have hn := h1.2.2.1
  unfold c_noteArgument_40
  rw [zadd, zadd, tputI (i := 9 * (48 * p + i0) + (2 + c)) (by omega) (by omega), Option.bind_some, tputI (i := 9 * (48 * p + i0) + 1) (by omega) (by omega), Option.bind_some]
  obtain ⟨σ3, hσ3⟩ : ∃ σ3, σ3 = upA (upA σ 28 (9 * (48 * p + i0) + (2 + c)) (Int32.ofInt (48 * p + i : Nat))) 28 (9 * (48 * p + i0) + 1) (Int32.ofInt ((c : Int) + 1)) := ⟨_, rfl⟩
  rw [← hσ3]
  have s1 : σ3.1 = σ.1 := by rw [hσ3]; rfl
  have sa : ∀ a, a ≠ 28 → σ3.2 a = σ.2 a := fun a ha => by rw [hσ3, upA_ne ha, upA_ne ha]
  have s28 : ∀ k, σ3.2 28 k = if k = 9 * (48 * p + i0) + 1 then Int32.ofInt ((c : Int) + 1) else if k = 9 * (48 * p + i0) + (2 + c) then Int32.ofInt (48 * p + i : Nat) else σ.2 28 k := by
    intro k
    rw [hσ3, upA_eq, fup_at, upA_eq, fup_at]
  refine ⟨σ3, rfl, ⟨h1.congr (by rw [s1]) (sa 26 (by omega)), by rw [s1, h2], by rw [s1, h3], h4, h5, by rw [sa 30 (by omega), h6], ?_⟩, ⟨fun j _ => by rw [s1], fun a x _ => sa a x, fun k _ => by rw [sa 30 (by omega)], fun k hk => ?_⟩, ?_, ?_, s1⟩
  · refine h7.congr (fun j hj => by rw [s28, if_neg (by omega), if_neg (by omega)]) (fun j hj hz => ?_)
    have : j ≠ i0 := fun z => hca (by rw [← z]; exact hz)
    rw [s28, if_neg (by omega), if_neg (by omega)]
  · rw [s28, if_neg (by omega), if_neg (by omega)]
  · rw [s28, if_pos rfl]
    rfl
  · rw [s28, if_neg (by omega), if_pos rfl]
theorem FrA.trR {σ σ' σ'' : qC} {p par c lo lo' : Nat} (h : FrA σ σ' p par c lo) (g : FrR σ' σ'' p lo') (hl : lo ≤ lo') (hp : par + 9 ≤ 9 * (48 * p + lo)) (hc : c ≤ 3) : FrA σ σ'' p par c lo :=
  ⟨fun j hj => by rw [g.1 j hj, h.1 j hj], fun a x y => by rw [g.2.1 a x y, h.2.1 a x y], fun k hk => by rw [g.2.2.1 k hk, h.2.2.1 k hk], fun k hk => by rw [g.2.2.2 k (by omega), h.2.2.2 k hk]⟩
set_option maxHeartbeats 4000000 in
theorem rdT_c {p n : Nat} {tx : Nat → Int} : ∀ (k i d fuel : Nat) (σ : qC), RdC σ p n tx i → d + k = 7 → k < fuel →
    ∃ σ', c_readTerm_34 fuel (Int32.ofInt d) σ = some (bo (pT tx k i).1, σ') ∧ RdC σ' p n tx (pT tx k i).2.1 ∧ FrR σ σ' p i ∧ ((pT tx k i).1 = true → NT (σ'.2 28) p tx (pT tx k i).2.1 k i) := by
  intro k
  induction k with
  | zero =>
    intro i d fuel σ h hd hf
    obtain ⟨fuel, rfl⟩ : ∃ m, fuel = m + 1 := ⟨fuel - 1, by omega⟩
    unfold c_readTerm_34
    rw [if_pos (zltP (by omega) (by omega) (by omega) (by omega) (by omega))]
    exact ⟨σ, rfl, h, FrR.refl, fun z => absurd z (by show ¬ false = true; simp)⟩
  | succ k ih =>
    have args : ∀ (j i c d i0 fuel fl : Nat) (σ : qC), RdC σ p n tx i → d + 1 + k = 7 → i0 < i → ¬ isCa (tx i0) → c + j = 3 → 1 ≤ j → k < fl → j < fuel →
        ∃ σ', c_readTerm_34_l97 (c_readTerm_34 fl) fuel (Int32.ofInt d) (Int32.ofInt (48 * p + i0 : Nat)) (Int32.ofInt c) σ = some (bo (pA tx (pT tx k) j i).1, σ') ∧ RdC σ' p n tx (pA tx (pT tx k) j i).2.1 ∧ FrA σ σ' p (9 * (48 * p + i0)) c i ∧
          ((pA tx (pT tx k) j i).1 = true → σ'.2 28 (9 * (48 * p + i0) + 1) = Int32.ofInt (c + (pA tx (pT tx k) j i).2.2.length : Nat) ∧ ∀ m a : Nat, (pA tx (pT tx k) j i).2.2[m]? = some a → σ'.2 28 (9 * (48 * p + i0) + (2 + (c + m))) = Int32.ofInt (48 * p + a : Nat) ∧ i ≤ a ∧ NT (σ'.2 28) p tx (pA tx (pT tx k) j i).2.1 k a) := by
      intro j
      induction j with
      | zero => intro i c d i0 fuel fl σ _ _ _ _ _ h; omega
      | succ j ihj =>
        intro i c d i0 fuel fl σ h hd hi0 hca0 hcj hj hfl hfu
        obtain ⟨fuel, rfl⟩ : ∃ m, fuel = m + 1 := ⟨fuel - 1, by omega⟩
        have hn := h.1.2.2.1
        have h0 := h.1.2.2.2.1
        have hin := h.2.2.2.1
        obtain ⟨o, ho⟩ : ∃ o, o = c_readTerm_34_l97 (c_readTerm_34 fl) (fuel + 1) (Int32.ofInt d) (Int32.ofInt (48 * p + i0 : Nat)) (Int32.ofInt c) σ := ⟨_, rfl⟩
        rw [← ho]
        unfold c_readTerm_34_l97 at ho
        obtain ⟨σ1, a1, a2, a3, a4, a5, a6⟩ := noteA_c h hi0 hca0 (show c < 3 by omega)
        rw [if_neg (zleN (by omega) (by omega) (by omega) (by omega) (by omega)), node_c h, a1, Option.bind_some, zadd] at ho
        obtain ⟨σ2, b1, b2, b3, b4⟩ := ih i (d + 1) fl σ1 a2 (by omega) hfl
        rw [show ((d : Int) + 1) = ((d + 1 : Nat) : Int) by omega, b1, Option.bind_some] at ho
        have hpl := pT_place h0 k i hin
        have f02 : FrA σ σ2 p (9 * (48 * p + i0)) c i := a3.trR b3 (Nat.le_refl _) (by omega) (by omega)
        have eA : pA tx (pT tx k) (j + 1) i = if (pT tx k i).1 = false then (false, (pT tx k i).2.1, [i]) else if tx (pT tx k i).2.1 = 41 then (true, (pT tx k i).2.1 + 1, [i]) else if j = 0 ∨ tx (pT tx k i).2.1 ≠ 44 then (false, (pT tx k i).2.1, [i]) else ((pA tx (pT tx k) j ((pT tx k i).2.1 + 1)).1, (pA tx (pT tx k) j ((pT tx k i).2.1 + 1)).2.1, i :: (pA tx (pT tx k) j ((pT tx k i).2.1 + 1)).2.2) := rfl
        rw [eA]
        by_cases hT : (pT tx k i).1 = false
        · rw [if_pos hT]
          rw [hT, if_pos (by show Int32.ofInt 0 = 0; decide)] at ho
          subst ho
          exact ⟨σ2, rfl, b2, f02, fun z => absurd z (by show ¬ false = true; simp)⟩
        have hT' : (pT tx k i).1 = true := by simpa using hT
        rw [if_neg hT]
        rw [hT', if_neg (by show ¬ Int32.ofInt 1 = 0; decide)] at ho
        dsimp only at ho
        rw [readSign_c b2 (by omega)] at ho
        have hNT := b4 hT'
        have p1 : σ2.2 28 (9 * (48 * p + i0) + 1) = Int32.ofInt (c + 1 : Nat) := by rw [b3.2.2.2 _ (by omega), a4]
        have p2 : σ2.2 28 (9 * (48 * p + i0) + (2 + c)) = Int32.ofInt (48 * p + i : Nat) := by rw [b3.2.2.2 _ (by omega), a5]
        by_cases h41 : tx (pT tx k i).2.1 = 41
        · have hlt : (pT tx k i).2.1 < n := by
            apply Classical.byContradiction
            intro z
            have := h0 (pT tx k i).2.1 (by omega)
            omega
          rw [if_pos h41]
          rw [if_pos h41, Option.bind_some, if_neg (by show ¬ Int32.ofInt 1 = 0; decide)] at ho
          subst ho
          refine ⟨_, rfl, b2.up (by omega) (by omega), f02.trR FrR.up (Nat.le_refl _) (by omega) (by omega), fun _ => ⟨p1, fun m a hm => ?_⟩⟩
          cases m with
          | zero =>
            have : i = a := by simpa using hm
            subst this
            exact ⟨p2, Nat.le_refl _, hNT.congr (fun x _ _ _ _ _ => rfl) (by dsimp only; omega) (Nat.le_refl _)⟩
          | succ m => simp at hm
        rw [if_neg h41]
        rw [if_neg h41, Option.bind_some, if_pos (by show Int32.ofInt 0 = 0; decide)] at ho
        dsimp only at ho
        by_cases hj0 : j = 0
        · rw [if_pos (Or.inl hj0)]
          rw [if_pos (by rw [show (c : Int) = 2 by omega])] at ho
          subst ho
          exact ⟨σ2, rfl, b2, f02, fun z => absurd z (by show ¬ false = true; simp)⟩
        rw [if_neg (zeqN (by omega) (by omega) (by omega) (by omega) (by omega)), readSign_c b2 (by omega)] at ho
        by_cases h44 : tx (pT tx k i).2.1 = 44
        · have hlt : (pT tx k i).2.1 < n := by
            apply Classical.byContradiction
            intro z
            have := h0 (pT tx k i).2.1 (by omega)
            omega
          rw [if_neg (by rintro (z | z) <;> omega)]
          rw [if_pos h44, Option.bind_some, if_neg (by show ¬ Int32.ofInt 1 = 0; decide), zadd] at ho
          have h3 := b2.up (by omega) (show ¬ isCa (tx (pT tx k i).2.1) by omega)
          obtain ⟨σ', q1, q2, q3, q4⟩ := ihj ((pT tx k i).2.1 + 1) (c + 1) d i0 fuel fl _ h3 hd (by omega) hca0 (by omega) (by omega) hfl (by omega)
          rw [show ((c : Int) + 1) = ((c + 1 : Nat) : Int) by omega] at ho
          have hpA := pA_place (tx := tx) (n := n) (k := k) h0 j ((pT tx k i).2.1 + 1) (by omega)
          refine ⟨σ', ho.trans q1, q2, ?_, fun z => ?_⟩
          · refine ⟨fun x hx => by rw [q3.1 x hx, upS_1, if_neg hx, f02.1 x hx], fun a x y => by rw [q3.2.1 a x y, upS_2, f02.2.1 a x y], fun x hx => by rw [q3.2.2.1 x hx, upS_2, f02.2.2.1 x hx], fun x hx => by rw [q3.2.2.2 x (by omega), upS_2, f02.2.2.2 x hx]⟩
          · obtain ⟨r1, r2⟩ := q4 z
            refine ⟨by rw [r1]; congr 2; rw [List.length_cons]; omega, fun m a hm => ?_⟩
            cases m with
            | zero =>
              have : i = a := by simpa using hm
              subst this
              exact ⟨by rw [q3.2.2.2 _ (by omega), upS_2, Nat.add_zero]; exact p2, Nat.le_refl _, hNT.congr (fun x x1 x2 _ _ _ => by rw [q3.2.2.2 _ (by omega), upS_2]) (by dsimp only; omega) (Nat.le_refl _)⟩
            | succ m =>
              obtain ⟨t1, t2, t3⟩ := r2 m a (by simpa using hm)
              exact ⟨by rw [show c + (m + 1) = c + 1 + m by omega]; exact t1, by omega, t3⟩
        · rw [if_pos (Or.inr h44)]
          rw [if_neg h44, Option.bind_some, if_pos (by show Int32.ofInt 0 = 0; decide)] at ho
          subst ho
          exact ⟨σ2, rfl, b2, f02, fun z => absurd z (by show ¬ false = true; simp)⟩
    intro i d fuel σ h hd hf
    obtain ⟨fuel, rfl⟩ : ∃ m, fuel = m + 1 := ⟨fuel - 1, by omega⟩
    have hn := h.1.2.2.1
    have h0 := h.1.2.2.2.1
    have hr := h.1.2.2.2.2 i
    have hr1 := h.1.2.2.2.2 (i + 1)
    have hin := h.2.2.2.1
    obtain ⟨o, ho⟩ : ∃ o, o = c_readTerm_34 (fuel + 1) (Int32.ofInt d) σ := ⟨_, rfl⟩
    rw [← ho]
    unfold c_readTerm_34 at ho
    rw [if_neg (zltN (by omega) (by omega) (by omega) (by omega) (by omega)), node_c h, h.2.1, h.2.2.1, at_c h.1 (by omega), small_c hr, cap_c hr, dig_c hr] at ho
    have hlt : ¬ (¬ isSm (tx i) ∧ ¬ isCa (tx i) ∧ ¬ isDi (tx i)) → i < n := by
      intro z
      apply Classical.byContradiction
      intro w
      have := h0 i (by omega)
      exact z ⟨by omega, by omega, by omega⟩
    have one : ∀ (hlt : i < n), (pT tx (k + 1) i) = (true, i + 1, []) → ∃ σ', c_noteTerm_38 (Int32.ofInt p) (Int32.ofInt (48 * p + i : Nat)) (Int32.ofInt (tx i)) σ = some σ' ∧ σ'.1 3203 = Int32.ofInt i ∧ RdC (upS σ' 3203 (Int32.ofInt (i + 1 : Nat))) p n tx (i + 1) ∧ FrR σ (upS σ' 3203 (Int32.ofInt (i + 1 : Nat))) p i ∧ NT (σ'.2 28) p tx (i + 1) (k + 1) i := by
      intro hlt hp
      obtain ⟨σ', a1, a2, a3, a4, a5, a6, a7⟩ := noteT_c h hlt
      refine ⟨σ', a1, a2, a3, a4.trans FrR.up (Nat.le_refl _), ?_⟩
      unfold NT
      rw [hp]
      refine ⟨by omega, a5, a6, a7, by simp, fun j a hj => ?_⟩
      simp at hj
    by_cases hsm : isSm (tx i)
    · have hl := hlt (fun z => z.1 hsm)
      rw [if_pos hsm, if_neg (by decide)] at ho
      obtain ⟨σ1, a1, a2, a3, a4, a5, a6, a7⟩ := noteT_c h hl
      rw [a1, Option.bind_some] at ho
      dsimp only [qlet] at ho
      rw [a2, zadd, show ((i : Int) + 1) = ((i + 1 : Nat) : Int) by omega] at ho
      by_cases hk : k = 0
      · have hp : pT tx (k + 1) i = (true, i + 1, []) := by
          unfold pT
          rw [if_neg (fun z => z.1 hsm), if_pos (Or.inr (Or.inl hk))]
        obtain ⟨σ', b1, b2, b3, b4, b5⟩ := one hl hp
        have e : σ' = σ1 := Option.some.inj (b1.symm.trans a1)
        subst e
        rw [if_pos (by rw [show (d : Int) = 6 by omega])] at ho
        rw [hp, ho]
        exact ⟨_, rfl, b3, b4, fun _ => b5⟩
      rw [if_neg (zeqN (by omega) (by omega) (by omega) (by omega) (by omega)), readSign_c a3 (by omega)] at ho
      by_cases h40 : tx (i + 1) = 40
      · have hp : pT tx (k + 1) i = pA tx (pT tx k) 3 (i + 2) := by
          conv => lhs; unfold pT
          rw [if_neg (fun z => z.1 hsm), if_neg (by rintro (z | z | z) <;> omega)]
        have hl2 : i + 1 < n := by
          apply Classical.byContradiction
          intro z
          have := h0 (i + 1) (by omega)
          omega
        rw [if_pos h40, Option.bind_some, if_neg (by show ¬ Int32.ofInt 1 = 0; decide)] at ho
        have h3 := a3.up (by omega) (show ¬ isCa (tx (i + 1)) by omega)
        obtain ⟨σ', q1, q2, q3, q4⟩ := args 3 (i + 2) 0 d i qF fuel _ h3 (by omega) (by omega) (show ¬ isCa (tx i) by omega) (by omega) (by omega) (by omega) (by unfold qF; omega)
        have hpA := pA_place (tx := tx) (n := n) (k := k) h0 3 (i + 2) (by omega)
        have hpl := pA_len (tx := tx) (f := pT tx k) 3 (i + 2)
        rw [hp]
        refine ⟨σ', ho.trans q1, q2, ⟨fun x hx => by rw [q3.1 x hx, upS_1, if_neg hx, upS_1, if_neg hx, a4.1 x hx], fun a x y => by rw [q3.2.1 a x y, upS_2, upS_2, a4.2.1 a x y], fun x hx => by rw [q3.2.2.1 x hx, upS_2, upS_2, a4.2.2.1 x hx], fun x hx => by rw [q3.2.2.2 x (by omega), upS_2, upS_2, a4.2.2.2 x hx]⟩, fun z => ?_⟩
        obtain ⟨r1, r2⟩ := q4 z
        unfold NT
        rw [hp]
        refine ⟨by omega, by rw [q3.2.2.2 _ (by omega), upS_2, upS_2, a5], by rw [r1, Nat.zero_add], by rw [q3.2.2.2 _ (by omega), upS_2, upS_2, a7], hpl, fun m a hm => ?_⟩
        obtain ⟨t1, t2, t3⟩ := r2 m a hm
        exact ⟨by rw [show 2 + m = 2 + (0 + m) by omega]; exact t1, by omega, t3⟩
      · have hp : pT tx (k + 1) i = (true, i + 1, []) := by
          unfold pT
          rw [if_neg (fun z => z.1 hsm), if_pos (Or.inr (Or.inr h40))]
        obtain ⟨σ', b1, b2, b3, b4, b5⟩ := one hl hp
        have e : σ' = σ1 := Option.some.inj (b1.symm.trans a1)
        subst e
        rw [if_neg h40, Option.bind_some, if_pos (by show Int32.ofInt 0 = 0; decide)] at ho
        rw [hp, ho]
        exact ⟨_, rfl, b3, b4, fun _ => b5⟩
    rw [if_neg hsm, if_pos (by decide)] at ho
    by_cases hca : isCa (tx i)
    · have hl := hlt (fun z => z.2.1 hca)
      have hp : pT tx (k + 1) i = (true, i + 1, []) := by
        unfold pT
        rw [if_neg (fun z => z.2.1 hca), if_pos (Or.inl hsm)]
      obtain ⟨σ', b1, b2, b3, b4, b5⟩ := one hl hp
      rw [if_pos hca, if_neg (by decide), b1, Option.bind_some] at ho
      dsimp only [qlet] at ho
      rw [b2, zadd] at ho
      rw [hp, ho]
      exact ⟨_, rfl, b3, b4, fun _ => b5⟩
    rw [if_neg hca, if_pos (by decide)] at ho
    by_cases hdi : isDi (tx i)
    · have hl := hlt (fun z => z.2.2 hdi)
      have hp : pT tx (k + 1) i = (true, i + 1, []) := by
        unfold pT
        rw [if_neg (fun z => z.2.2 hdi), if_pos (Or.inl hsm)]
      obtain ⟨σ', b1, b2, b3, b4, b5⟩ := one hl hp
      rw [if_pos hdi, if_neg (by decide), b1, Option.bind_some] at ho
      dsimp only [qlet] at ho
      rw [b2, zadd] at ho
      rw [hp, ho]
      exact ⟨_, rfl, b3, b4, fun _ => b5⟩
    · have hp : pT tx (k + 1) i = (false, i, []) := by
        unfold pT
        rw [if_pos ⟨hsm, hca, hdi⟩]
      rw [if_neg hdi, if_pos (by decide)] at ho
      rw [hp, ho]
      exact ⟨σ, rfl, h, FrR.refl, fun z => absurd z (by show ¬ false = true; simp)⟩
