/-! D56: the reference reads -/
def TXm (σ : qC) (n : Nat) (tx : Nat → Int) : Prop := σ.1 6407 = Int32.ofInt n ∧ (∀ p, p < n → σ.2 65 p = Int32.ofInt (tx p)) ∧ n ≤ 48 ∧ (∀ p, n ≤ p → tx p = 0) ∧ (∀ p, 0 ≤ tx p ∧ tx p ≤ 126)
theorem TXm.congr {σ σ' : qC} {n : Nat} {tx : Nat → Int} (h : TXm σ n tx) (h1 : σ'.1 6407 = σ.1 6407) (h2 : σ'.2 65 = σ.2 65) : TXm σ' n tx := by
  unfold TXm
  rw [h1, h2]
  exact h
theorem look_ok {σ : qC} {n i : Nat} {tx : Nat → Int} (h : TXm σ n tx) (hp : σ.1 6410 = Int32.ofInt i) (hi : i ≤ 100) : m_look_135 σ = some (Int32.ofInt (tx i)) := by
  obtain ⟨h1, h2, h3, h4, h5⟩ := h
  unfold m_look_135
  rw [h1, hp]
  by_cases hn : n ≤ i
  · rw [if_pos (zleP (by omega) (by omega) (by omega) (by omega) (by omega)), h4 i hn]
  · rw [if_neg (zleN (by omega) (by omega) (by omega) (by omega) (by omega)), agetI (i := i) rfl (by omega) (by omega), Option.bind_some, h2 i (by omega)]
theorem passes_ok {σ : qC} {n i : Nat} {c : Int} {tx : Nat → Int} (h : TXm σ n tx) (hp : σ.1 6410 = Int32.ofInt i) (hi : i ≤ 100) (hc : 0 ≤ c ∧ c ≤ 126) : m_passes_136 (Int32.ofInt c) σ = if tx i = c then some (Int32.ofInt 1, upS σ 6410 (Int32.ofInt (i + 1 : Nat))) else some (Int32.ofInt 0, σ) := by
  have h5 := h.2.2.2.2 i
  unfold m_passes_136
  rw [look_ok h hp hi, Option.bind_some]
  by_cases e : tx i = c
  · rw [if_pos (by rw [e]), if_pos e]
    dsimp only [qlet]
    rw [hp, zadd]
    rfl
  · rw [if_neg (zeqN e (by omega) (by omega) (by omega) (by omega)), if_neg e]
theorem pT_place {tx : Nat → Int} {n : Nat} (h0 : ∀ p, n ≤ p → tx p = 0) : ∀ (k i : Nat), i ≤ n → (pT tx k i).2.1 ≤ n ∧ i ≤ (pT tx k i).2.1 := by
  intro k
  induction k with
  | zero => intro i h; exact ⟨h, Nat.le_refl _⟩
  | succ k ih =>
    have hpA : ∀ (j i : Nat), i ≤ n → (pA tx (pT tx k) j i).2.1 ≤ n ∧ i ≤ (pA tx (pT tx k) j i).2.1 := by
      intro j
      induction j with
      | zero => intro i h; exact ⟨h, Nat.le_refl _⟩
      | succ j ihj =>
        intro i h
        have hi := ih i h
        unfold pA
        split
        · exact hi
        · split
          · rename_i h2
            refine ⟨?_, by dsimp only; omega⟩
            dsimp only
            apply Classical.byContradiction
            intro z
            have := h0 (pT tx k i).2.1 (by omega)
            omega
          · split
            · exact hi
            · rename_i h2 h3
              have h44 : tx (pT tx k i).2.1 = 44 := by
                apply Classical.byContradiction
                intro z
                exact h3 (Or.inr z)
              have hlt : (pT tx k i).2.1 < n := by
                apply Classical.byContradiction
                intro z
                have := h0 (pT tx k i).2.1 (by omega)
                omega
              have := ihj ((pT tx k i).2.1 + 1) (by omega)
              exact ⟨this.1, by dsimp only; omega⟩
    intro i h
    unfold pT
    split
    · exact ⟨h, Nat.le_refl _⟩
    · rename_i h1
      have hlt : i < n := by
        apply Classical.byContradiction
        intro z
        have := h0 i (by omega)
        apply h1
        rw [this]
        exact ⟨by omega, by omega, by omega⟩
      split
      · exact ⟨by dsimp only; omega, by dsimp only; omega⟩
      · rename_i h2
        have h40 : tx (i + 1) = 40 := by
          apply Classical.byContradiction
          intro z
          exact h2 (Or.inr (Or.inr z))
        have hlt2 : i + 1 < n := by
          apply Classical.byContradiction
          intro z
          have := h0 (i + 1) (by omega)
          omega
        have := hpA 3 (i + 2) (by omega)
        exact ⟨this.1, by omega⟩
/-- a name at depth 6 with ( behind it -/
def exc (tx : Nat → Int) (k i : Nat) : Prop := k = 1 ∧ isSm (tx i) ∧ tx (i + 1) = 40
def RdP (σ : qC) (n : Nat) (tx : Nat → Int) (i : Nat) : Prop := TXm σ n tx ∧ σ.1 6410 = Int32.ofInt i ∧ i ≤ n
/-- a term was read, or not -/
def RdT (fuel : Nat) (i1 : Int32) (d : Nat) (σ : qC) (n : Nat) (tx : Nat → Int) (i : Nat) (fine : Prop) (e : Nat) : Prop :=
  ∃ σ', (¬ fine → m_readTerm_134_l4 fuel i1 (Int32.ofInt d) (Int32.ofInt 1) σ = some (Int32.ofInt 0, σ')) ∧ (fine → ∃ fuel', fuel ≤ fuel' + (e - i) ∧ m_readTerm_134_l4 fuel i1 (Int32.ofInt d) (Int32.ofInt 1) σ = m_readTerm_134_l4 fuel' i1 (Int32.ofInt d) (Int32.ofInt 0) σ') ∧ RdP σ' n tx e ∧ (∀ j, j ≤ d → σ'.2 69 j = σ.2 69 j)
theorem RdP.up {σ : qC} {n i : Nat} {tx : Nat → Int} (h : RdP σ n tx i) (hi : i + 1 ≤ n) : RdP (upS σ 6410 (Int32.ofInt (i + 1 : Nat))) n tx (i + 1) := ⟨h.1.congr (by rw [upS_1, if_neg (by omega)]) rfl, by rw [upS_1, if_pos rfl], hi⟩
theorem hc_next {i1 : Int32} {d : Nat} {P : Prop} (h : i1 = Int32.ofInt 0 ∨ i1 = Int32.ofInt 1 ∧ (d ≠ 1 ∨ P)) (hd : 1 ≤ d) {Q : Prop} : i1 = Int32.ofInt 0 ∨ i1 = Int32.ofInt 1 ∧ (d + 1 ≠ 1 ∨ Q) := by
  rcases h with h | h
  · exact Or.inl h
  · exact Or.inr ⟨h.1, Or.inl (by omega)⟩
set_option maxHeartbeats 4000000 in
theorem rdT_m {n : Nat} {tx : Nat → Int} {i1 : Int32} : ∀ (k i d fuel : Nat) (σ : qC), RdP σ n tx i → d + k = 6 → 1 ≤ d → (i1 = Int32.ofInt 0 ∨ i1 = Int32.ofInt 1 ∧ (d ≠ 1 ∨ isSm (tx i))) → n + 2 < fuel + i → RdT fuel i1 d σ n tx i ((pT tx (k + 1) i).1 = true ∧ ¬ exc tx (k + 1) i) (pT tx (k + 1) i).2.1 := by
  intro k
  induction k with
  | zero =>
    intro i d fuel σ hP hdk hd hc hf
    have hT := hP.1
    have hin := hP.2.2
    have h0 := hT.2.2.2.1
    have hn48 := hT.2.2.1
    have h6 := hT.2.2.2.2 i
    have h61 := hT.2.2.2.2 (i + 1)
    cases fuel with
    | zero => omega
    | succ fuel =>
      have hd6 : d = 6 := by omega
      subst hd6
      obtain ⟨o, ho⟩ : ∃ o, o = m_readTerm_134_l4 (fuel + 1) i1 (Int32.ofInt (6 : Nat)) (Int32.ofInt 1) σ := ⟨_, rfl⟩
      unfold RdT
      rw [← ho]
      unfold m_readTerm_134_l4 at ho
      rw [z0, if_neg (by decide), if_neg (by decide), look_ok hT hP.2.1 (by omega), Option.bind_some] at ho
      dsimp only [qlet] at ho
      rw [in_ok (by omega) (by omega) (by omega), in_ok (by omega) (by omega) (by omega), in_ok (by omega) (by omega) (by omega), hP.2.1, zadd] at ho
      by_cases hsm : isSm (tx i)
      · have hlt : i < n := by
          apply Classical.byContradiction
          intro z
          have := h0 i (by omega)
          omega
        have hpT : pT tx (0 + 1) i = (true, i + 1, []) := by
          unfold pT
          rw [if_neg (fun z => z.1 hsm), if_pos (Or.inr (Or.inl rfl))]
        have hP1 := hP.up (by omega)
        rw [hpT]
        rw [if_pos hsm, if_neg (by decide), show ((i : Int) + 1) = ((i + 1 : Nat) : Int) by omega, look_ok hP1.1 hP1.2.1 (by omega), Option.bind_some] at ho
        by_cases h40 : tx (i + 1) = 40
        · rw [if_pos (by rw [h40]), if_pos (by decide)] at ho
          subst ho
          exact ⟨_, fun _ => rfl, fun z => absurd ⟨rfl, hsm, h40⟩ z.2, hP1, fun _ _ => rfl⟩
        · rw [if_neg (zeqN h40 (by omega) (by omega) (by omega) (by omega))] at ho
          subst ho
          exact ⟨_, fun z => absurd ⟨rfl, fun w => h40 w.2.2⟩ z, fun _ => ⟨fuel, by dsimp only; omega, rfl⟩, hP1, fun _ _ => rfl⟩
      · rw [if_neg hsm, if_pos rfl] at ho
        have hcom : ∀ (o : Option (Int32 × qC)), (if i1 = Int32.ofInt 0 then o else if Int32.ofInt ((6 : Nat) : Int) = Int32.ofInt 1 then some (Int32.ofInt 0, σ) else o) = o := by
          intro o
          split
          · rfl
          · rw [if_neg (by decide)]
        rw [hcom] at ho
        by_cases hca : isCa (tx i)
        · have hlt : i < n := by
            apply Classical.byContradiction
            intro z
            have := h0 i (by omega)
            omega
          have hpT : pT tx (0 + 1) i = (true, i + 1, []) := by
            unfold pT
            rw [if_neg (fun z => z.2.1 hca), if_pos (Or.inl hsm)]
          rw [hpT]
          rw [if_pos hca, if_neg (by decide)] at ho
          subst ho
          exact ⟨_, fun z => absurd ⟨rfl, fun w => hsm w.2.1⟩ z, fun _ => ⟨fuel, by dsimp only; omega, rfl⟩, hP.up (by omega), fun _ _ => rfl⟩
        · rw [if_neg hca, if_pos rfl] at ho
          by_cases hdi : isDi (tx i)
          · have hlt : i < n := by
              apply Classical.byContradiction
              intro z
              have := h0 i (by omega)
              omega
            have hpT : pT tx (0 + 1) i = (true, i + 1, []) := by
              unfold pT
              rw [if_neg (fun z => z.2.2 hdi), if_pos (Or.inl hsm)]
            rw [hpT]
            rw [if_pos hdi, if_neg (by decide)] at ho
            subst ho
            exact ⟨_, fun z => absurd ⟨rfl, fun w => hsm w.2.1⟩ z, fun _ => ⟨fuel, by dsimp only; omega, rfl⟩, hP.up (by omega), fun _ _ => rfl⟩
          · have hpT : pT tx (0 + 1) i = (false, i, []) := by
              unfold pT
              rw [if_pos ⟨hsm, hca, hdi⟩]
            rw [hpT]
            rw [if_neg hdi, if_pos rfl] at ho
            subst ho
            exact ⟨_, fun _ => rfl, fun z => absurd z.1 Bool.false_ne_true, hP, fun _ _ => rfl⟩
  | succ k ih =>
    -- the arguments
    have args : ∀ (j i d c fuel : Nat) (σ : qC), RdP σ n tx i → d + 1 + k = 6 → 1 ≤ d → 1 ≤ c → c + j = 4 → 1 ≤ j → σ.2 69 (d + 1) = Int32.ofInt c → (i1 = Int32.ofInt 0 ∨ i1 = Int32.ofInt 1 ∧ (d + 1 ≠ 1 ∨ isSm (tx i))) → n + 2 < fuel + i →
        ∃ σ', ((pA tx (pT tx (k + 1)) j i).1 = false → m_readTerm_134_l4 fuel i1 (Int32.ofInt (d + 1 : Nat)) (Int32.ofInt 1) σ = some (Int32.ofInt 0, σ')) ∧ ((pA tx (pT tx (k + 1)) j i).1 = true → ∃ fuel', fuel ≤ fuel' + ((pA tx (pT tx (k + 1)) j i).2.1 - i) ∧ m_readTerm_134_l4 fuel i1 (Int32.ofInt (d + 1 : Nat)) (Int32.ofInt 1) σ = m_readTerm_134_l4 fuel' i1 (Int32.ofInt d) (Int32.ofInt 0) σ') ∧ RdP σ' n tx (pA tx (pT tx (k + 1)) j i).2.1 ∧ (∀ j', j' ≤ d → σ'.2 69 j' = σ.2 69 j') := by
      intro j
      induction j with
      | zero => intro i d c fuel σ _ _ _ _ _ h; omega
      | succ j ihj =>
        intro i d c fuel σ hP hdk hd hc1 hcj hj h69 hc hf
        have hT := hP.1
        have h0 := hT.2.2.2.1
        have hn48 := hT.2.2.1
        obtain ⟨σ1, t1, t2, t3, t4⟩ := ih i (d + 1) fuel σ hP (by omega) (by omega) hc hf
        have hpl := pT_place h0 (k + 1) i hP.2.2
        have hT1 := t3.1
        have h6e := hT.2.2.2.2 (pT tx (k + 1) i).2.1
        have eA : pA tx (pT tx (k + 1)) (j + 1) i = if (pT tx (k + 1) i).1 = false then (false, (pT tx (k + 1) i).2.1, [i]) else if tx (pT tx (k + 1) i).2.1 = 41 then (true, (pT tx (k + 1) i).2.1 + 1, [i]) else if j = 0 ∨ tx (pT tx (k + 1) i).2.1 ≠ 44 then (false, (pT tx (k + 1) i).2.1, [i]) else ((pA tx (pT tx (k + 1)) j ((pT tx (k + 1) i).2.1 + 1)).1, (pA tx (pT tx (k + 1)) j ((pT tx (k + 1) i).2.1 + 1)).2.1, i :: (pA tx (pT tx (k + 1)) j ((pT tx (k + 1) i).2.1 + 1)).2.2) := rfl
        rw [eA]
        by_cases h1 : (pT tx (k + 1) i).1 = false
        · rw [if_pos h1]
          exact ⟨σ1, fun _ => t1 (fun z => by rw [h1] at z; exact absurd z.1 Bool.false_ne_true), fun z => absurd z (by simp), t3, fun j' hj' => t4 j' (by omega)⟩
        rw [if_neg h1]
        have h1' : (pT tx (k + 1) i).1 = true := by simpa using h1
        have hie := pT_ends (k + 1) i h1'
        by_cases hex : exc tx (k + 1) i
        · -- ( at depth 6
          have hk0 : k = 0 := by have := hex.1; omega
          subst hk0
          have hpT : pT tx (0 + 1) i = (true, i + 1, []) := by
            unfold pT
            rw [if_neg (fun z => z.1 hex.2.1), if_pos (Or.inr (Or.inl rfl))]
          have h40 := hex.2.2
          rw [hpT] at t3 ⊢
          dsimp only at t3 ⊢
          rw [if_neg (by omega), if_pos (Or.inr (by omega))]
          exact ⟨σ1, fun _ => t1 (fun z => z.2 hex), fun z => absurd z (by simp), t3, fun j' hj' => t4 j' (by omega)⟩
        obtain ⟨fuel1, u1, u2⟩ := t2 ⟨h1', hex⟩
        rw [u2]
        cases fuel1 with
        | zero => omega
        | succ fuel1 =>
          obtain ⟨o, ho⟩ : ∃ o, o = m_readTerm_134_l4 (fuel1 + 1) i1 (Int32.ofInt (d + 1 : Nat)) (Int32.ofInt 0) σ1 := ⟨_, rfl⟩
          rw [← ho]
          unfold m_readTerm_134_l4 at ho
          rw [z0, if_neg (zleN (by omega) (by omega) (by omega) (by omega) (by omega)), if_pos rfl, if_neg (zeqN (by omega) (by omega) (by omega) (by omega) (by omega)), look_ok hT1 t3.2.1 (by omega), Option.bind_some] at ho
          have hps := passes_ok (c := 41) hT1 t3.2.1 (by omega) (by omega)
          by_cases h41 : tx (pT tx (k + 1) i).2.1 = 41
          · rw [if_pos h41]
            rw [if_neg (zeqN (by omega) (by omega) (by omega) (by omega) (by omega)), hps, if_pos h41, Option.bind_some] at ho
            dsimp only at ho ⊢
            have hlt : (pT tx (k + 1) i).2.1 < n := by
              apply Classical.byContradiction
              intro z
              have := h0 (pT tx (k + 1) i).2.1 (by omega)
              omega
            rw [if_neg (by decide), zadd, show ((d + 1 : Nat) : Int) + -1 = (d : Int) by omega] at ho
            subst ho
            exact ⟨_, fun z => absurd z (by simp), fun _ => ⟨fuel1, by omega, rfl⟩, t3.up (by omega), fun j' hj' => t4 j' (by omega)⟩
          rw [if_neg h41]
          by_cases h44 : tx (pT tx (k + 1) i).2.1 = 44
          · rw [if_pos (by rw [h44]), agetI (i := d + 1) rfl (by omega) (by omega), Option.bind_some, t4 (d + 1) (Nat.le_refl _), h69] at ho
            by_cases hj0 : j = 0
            · rw [if_pos (Or.inl hj0)]
              rw [if_pos (zleP (by omega) (by omega) (by omega) (by omega) (by omega)), hps, if_neg h41, Option.bind_some, if_pos rfl] at ho
              subst ho
              exact ⟨σ1, fun _ => rfl, fun z => absurd z (by simp), t3, fun j' hj' => t4 j' (by omega)⟩
            · rw [if_neg (by rintro (z | z) <;> omega)]
              rw [if_neg (zleN (by omega) (by omega) (by omega) (by omega) (by omega)), t3.2.1, zadd] at ho
              dsimp only [qlet] at ho
              have hlt : (pT tx (k + 1) i).2.1 < n := by
                apply Classical.byContradiction
                intro z
                have := h0 (pT tx (k + 1) i).2.1 (by omega)
                omega
              rw [show ((pT tx (k + 1) i).2.1 : Int) + 1 = (((pT tx (k + 1) i).2.1 + 1 : Nat) : Int) by omega] at ho
              have hP2 := t3.up (by omega)
              obtain ⟨σ2, hσ2⟩ : ∃ σ2, σ2 = upS σ1 6410 (Int32.ofInt ((pT tx (k + 1) i).2.1 + 1 : Nat)) := ⟨_, rfl⟩
              rw [← hσ2] at hP2 ho
              have s22 : σ2.2 = σ1.2 := by rw [hσ2]; rfl
              rw [agetI (i := d + 1) rfl (by omega) (by omega), Option.bind_some, s22, t4 (d + 1) (Nat.le_refl _), h69, zadd, aputI (i := d + 1) rfl (by omega) (by omega), Option.bind_some] at ho
              obtain ⟨σ3, hσ3⟩ : ∃ σ3, σ3 = upA σ2 69 (d + 1) (Int32.ofInt ((c : Int) + 1)) := ⟨_, rfl⟩
              rw [← hσ3] at ho
              subst ho
              have hP3 : RdP σ3 n tx ((pT tx (k + 1) i).2.1 + 1) := by
                rw [hσ3]
                exact ⟨hP2.1.congr rfl (upA_ne (by omega)), hP2.2⟩
              obtain ⟨σ', p1, p2, p3, p4⟩ := ihj ((pT tx (k + 1) i).2.1 + 1) d (c + 1) fuel1 σ3 hP3 hdk hd (by omega) (by omega) (by omega) (by rw [hσ3, upA_eq, fup_at, if_pos rfl]; rfl) (by
                rcases hc with hc | hc
                · exact Or.inl hc
                · exact Or.inr ⟨hc.1, Or.inl (by omega)⟩) (by omega)
              have hpl2 : (pA tx (pT tx (k + 1)) j ((pT tx (k + 1) i).2.1 + 1)).1 = true → (pT tx (k + 1) i).2.1 + 1 < (pA tx (pT tx (k + 1)) j ((pT tx (k + 1) i).2.1 + 1)).2.1 := pA_ends (tx := tx) (k := k + 1) j _
              refine ⟨σ', p1, fun z => ?_, p3, fun j' hj' => ?_⟩
              · obtain ⟨fuel', q1, q2⟩ := p2 z
                have := hpl2 z
                exact ⟨fuel', by dsimp only at *; omega, q2⟩
              · rw [p4 j' hj', hσ3, upA_eq, fup_at, if_neg (by omega), s22, t4 j' (by omega)]
          · rw [if_pos (Or.inr h44)]
            rw [if_neg (zeqN h44 (by omega) (by omega) (by omega) (by omega)), hps, if_neg h41, Option.bind_some, if_pos rfl] at ho
            subst ho
            exact ⟨σ1, fun _ => rfl, fun z => absurd z (by simp), t3, fun j' hj' => t4 j' (by omega)⟩
    intro i d fuel σ hP hdk hd hc hf
    have hT := hP.1
    have hin := hP.2.2
    have h0 := hT.2.2.2.1
    have hn48 := hT.2.2.1
    have h6 := hT.2.2.2.2 i
    have h61 := hT.2.2.2.2 (i + 1)
    have hnex : ¬ exc tx (k + 1 + 1) i := fun z => by have := z.1; omega
    cases fuel with
    | zero => omega
    | succ fuel =>
      obtain ⟨o, ho⟩ : ∃ o, o = m_readTerm_134_l4 (fuel + 1) i1 (Int32.ofInt d) (Int32.ofInt 1) σ := ⟨_, rfl⟩
      unfold RdT
      rw [← ho]
      unfold m_readTerm_134_l4 at ho
      rw [z0, if_neg (zleN (by omega) (by omega) (by omega) (by omega) (by omega)), if_neg (by decide), look_ok hT hP.2.1 (by omega), Option.bind_some] at ho
      dsimp only [qlet] at ho
      rw [in_ok (by omega) (by omega) (by omega), in_ok (by omega) (by omega) (by omega), in_ok (by omega) (by omega) (by omega), hP.2.1, zadd, show ((i : Int) + 1) = ((i + 1 : Nat) : Int) by omega] at ho
      by_cases hsm : isSm (tx i)
      · have hlt : i < n := by
          apply Classical.byContradiction
          intro z
          have := h0 i (by omega)
          omega
        have hP1 := hP.up (by omega)
        rw [if_pos hsm, if_neg (by decide), look_ok hP1.1 hP1.2.1 (by omega), Option.bind_some] at ho
        by_cases h40 : tx (i + 1) = 40
        · have hpT : pT tx (k + 1 + 1) i = pA tx (pT tx (k + 1)) 3 (i + 2) := by
            conv => lhs; unfold pT
            rw [if_neg (fun z => z.1 hsm), if_neg (by rintro (z | z | z) <;> omega)]
          have hlt2 : i + 1 < n := by
            apply Classical.byContradiction
            intro z
            have := h0 (i + 1) (by omega)
            omega
          rw [hpT]
          rw [if_pos (by rw [h40]), if_neg (zeqN (by omega) (by omega) (by omega) (by omega) (by omega)), hP1.2.1, zadd, show (((i + 1 : Nat) : Int) + 1) = ((i + 1 + 1 : Nat) : Int) by omega, zadd, aputI (i := d + 1) (by omega) (by omega) (by omega), Option.bind_some] at ho
          have hP2 := hP1.up (by omega)
          obtain ⟨σ3, hσ3⟩ : ∃ σ3, σ3 = upA (upS (upS σ 6410 (Int32.ofInt (i + 1 : Nat))) 6410 (Int32.ofInt (i + 1 + 1 : Nat))) 69 (d + 1) (Int32.ofInt 1) := ⟨_, rfl⟩
          rw [← hσ3] at ho
          subst ho
          have hP3 : RdP σ3 n tx (i + 2) := by
            rw [hσ3]
            exact ⟨hP2.1.congr rfl (upA_ne (by omega)), hP2.2⟩
          obtain ⟨σ', p1, p2, p3, p4⟩ := args 3 (i + 2) d 1 fuel σ3 hP3 (by omega) hd (by omega) (by omega) (by omega) (by rw [hσ3, upA_eq, fup_at, if_pos rfl]; rfl) (hc_next hc hd) (by omega)
          refine ⟨σ', fun z => p1 ?_, fun z => ?_, p3, fun j' hj' => ?_⟩
          · cases hq : (pA tx (pT tx (k + 1)) 3 (i + 2)).1 with
            | false => rfl
            | true => exact absurd ⟨hq, hnex⟩ z
          · obtain ⟨fuel', q1, q2⟩ := p2 z.1
            have := pA_ends (tx := tx) (k := k + 1) 3 _ z.1
            exact ⟨fuel', by omega, q2⟩
          · rw [p4 j' hj', hσ3, upA_eq, fup_at, if_neg (by omega)]
            rfl
        · have hpT : pT tx (k + 1 + 1) i = (true, i + 1, []) := by
            conv => lhs; unfold pT
            rw [if_neg (fun z => z.1 hsm), if_pos (Or.inr (Or.inr h40))]
          rw [hpT]
          rw [if_neg (zeqN h40 (by omega) (by omega) (by omega) (by omega))] at ho
          subst ho
          exact ⟨_, fun z => absurd ⟨rfl, hnex⟩ z, fun _ => ⟨fuel, by dsimp only; omega, rfl⟩, hP1, fun _ _ => rfl⟩
      · rw [if_neg hsm, if_pos rfl] at ho
        have hcom : ∀ (o : Option (Int32 × qC)), (if i1 = Int32.ofInt 0 then o else if Int32.ofInt (d : Int) = Int32.ofInt 1 then some (Int32.ofInt 0, σ) else o) = o := by
          intro o
          split
          · rfl
          · rename_i z
            rcases hc with hc | ⟨-, hc | hc⟩
            · exact absurd hc z
            · rw [if_neg (zeqN (by omega) (by omega) (by omega) (by omega) (by omega))]
            · exact absurd hc hsm
        rw [hcom] at ho
        by_cases hca : isCa (tx i)
        · have hlt : i < n := by
            apply Classical.byContradiction
            intro z
            have := h0 i (by omega)
            omega
          have hpT : pT tx (k + 1 + 1) i = (true, i + 1, []) := by
            conv => lhs; unfold pT
            rw [if_neg (fun z => z.2.1 hca), if_pos (Or.inl hsm)]
          rw [hpT]
          rw [if_pos hca, if_neg (by decide)] at ho
          subst ho
          exact ⟨_, fun z => absurd ⟨rfl, hnex⟩ z, fun _ => ⟨fuel, by dsimp only; omega, rfl⟩, hP.up (by omega), fun _ _ => rfl⟩
        · rw [if_neg hca, if_pos rfl] at ho
          by_cases hdi : isDi (tx i)
          · have hlt : i < n := by
              apply Classical.byContradiction
              intro z
              have := h0 i (by omega)
              omega
            have hpT : pT tx (k + 1 + 1) i = (true, i + 1, []) := by
              conv => lhs; unfold pT
              rw [if_neg (fun z => z.2.2 hdi), if_pos (Or.inl hsm)]
            rw [hpT]
            rw [if_pos hdi, if_neg (by decide)] at ho
            subst ho
            exact ⟨_, fun z => absurd ⟨rfl, hnex⟩ z, fun _ => ⟨fuel, by dsimp only; omega, rfl⟩, hP.up (by omega), fun _ _ => rfl⟩
          · have hpT : pT tx (k + 1 + 1) i = (false, i, []) := by
              conv => lhs; unfold pT
              rw [if_pos ⟨hsm, hca, hdi⟩]
            rw [hpT]
            rw [if_neg hdi, if_pos rfl] at ho
            subst ho
            exact ⟨_, fun _ => rfl, fun z => absurd z.1 Bool.false_ne_true, hP, fun _ _ => rfl⟩
