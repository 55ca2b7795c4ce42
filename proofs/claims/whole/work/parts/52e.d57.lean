/-! D57: the reference reads goals and clauses -/
def bo (b : Bool) : Int32 := if b = true then Int32.ofInt 1 else Int32.ofInt 0
theorem bo_t : bo true = Int32.ofInt 1 := rfl
theorem bo_f : bo false = Int32.ofInt 0 := rfl
theorem bo01 (b : Bool) : bo b = 0 ∨ bo b = 1 := by cases b <;> decide
theorem readT_end {fuel : Nat} {i1 : Int32} {σ : qC} : m_readTerm_134_l4 (fuel + 2) i1 (Int32.ofInt 1) (Int32.ofInt 0) σ = some (Int32.ofInt 1, σ) := by
  unfold m_readTerm_134_l4
  rw [z0, if_neg (by decide), if_pos rfl, if_pos rfl]
  unfold m_readTerm_134_l4
  rw [z0, if_pos (by decide)]
theorem readT_m {σ : qC} {n i : Nat} {tx : Nat → Int} {i1 : Int32} (hP : RdP σ n tx i) (hc : i1 = Int32.ofInt 0 ∨ i1 = Int32.ofInt 1 ∧ isSm (tx i)) :
    ∃ σ', m_readTerm_134 i1 σ = some (bo (pT tx 6 i).1, σ') ∧ RdP σ' n tx (pT tx 6 i).2.1 := by
  have hn := hP.1.2.2.1
  have hi := hP.2.2
  have hpl := pT_place hP.1.2.2.2.1 6 i hi
  have hnex : ¬ exc tx (5 + 1) i := fun z => by have := z.1; omega
  unfold m_readTerm_134
  obtain ⟨σ', t1, t2, t3, -⟩ := rdT_m 5 i 1 qF σ hP (by omega) (by omega) (by
    rcases hc with h | h
    · exact Or.inl h
    · exact Or.inr ⟨h.1, Or.inr h.2⟩) (by unfold qF; omega)
  refine ⟨σ', ?_, t3⟩
  by_cases h : (pT tx 6 i).1 = true
  · obtain ⟨fuel', u1, u2⟩ := t2 ⟨h, hnex⟩
    have : m_readTerm_134_l4 qF i1 (Int32.ofInt (1 : Nat)) (Int32.ofInt 1) σ = some (Int32.ofInt 1, σ') := by
      rw [u2]
      obtain ⟨f2, hf2⟩ : ∃ f2, fuel' = f2 + 2 := ⟨fuel' - 2, by unfold qF at u1; rw [show 5 + 1 = 6 from rfl] at u1; omega⟩
      rw [hf2]
      exact readT_end
    rw [h]
    exact this
  · have h' : (pT tx 6 i).1 = false := by simpa using h
    rw [h']
    exact t1 (fun z => h z.1)
theorem readT_no {σ : qC} {n i : Nat} {tx : Nat → Int} (hP : RdP σ n tx i) (hc : ¬ isSm (tx i)) : m_readTerm_134 (Int32.ofInt 1) σ = some (Int32.ofInt 0, σ) := by
  have hn := hP.1.2.2.1
  have hi := hP.2.2
  have h6 := hP.1.2.2.2.2 i
  unfold m_readTerm_134
  have hF : qF = 16777215 + 1 := rfl
  rw [hF]
  unfold m_readTerm_134_l4
  rw [z0, if_neg (by decide), if_neg (by decide), look_ok hP.1 hP.2.1 (by omega), Option.bind_some]
  dsimp only [qlet]
  rw [in_ok (by omega) (by omega) (by omega), if_neg hc, if_pos rfl, if_neg (by decide), if_pos rfl]
theorem j99_m {σ : qC} {n i : Nat} {tx : Nat → Int} {K : qC → Option (Int32 × qC)} (hP : RdP σ n tx i) : m_readGoals_137_j99 K σ = if n ≤ i then some (Int32.ofInt 1, σ) else if tx i ≠ 44 then some (Int32.ofInt 0, σ) else K (upS σ 6410 (Int32.ofInt (i + 1 : Nat))) := by
  have hn := hP.1.2.2.1
  have hi := hP.2.2
  have h6 := hP.1.2.2.2.2 i
  unfold m_readGoals_137_j99
  rw [passes_ok (c := 44) hP.1 hP.2.1 (by omega) (by omega)]
  by_cases h : tx i = 44
  · rw [if_pos h, Option.bind_some, if_neg (by show ¬ Int32.ofInt 1 = 0; decide), if_neg (by
      intro z
      have := hP.1.2.2.2.1 i z
      omega), if_neg (fun z => z h)]
  · rw [if_neg h, Option.bind_some, if_pos (by show Int32.ofInt 0 = 0; decide)]
    dsimp only
    rw [hP.2.1, hP.1.1]
    by_cases e : n ≤ i
    · have : i = n := by omega
      subst this
      rw [if_pos rfl, if_pos e]
    · rw [if_neg (zeqN (by omega) (by omega) (by omega) (by omega) (by omega)), if_neg e, if_pos h]
set_option maxHeartbeats 4000000 in
theorem rdG_m {σ : qC} {n i fuel : Nat} {tx : Nat → Int} (hP : RdP σ n tx i) :
    ∃ σ', RdP σ' n tx (pG tx i).2.1 ∧ m_readGoals_137_l0 (fuel + 1) σ = if (pG tx i).1 = false then some (Int32.ofInt 0, σ') else m_readGoals_137_j99 (m_readGoals_137_l0 fuel) σ' := by
  have hn := hP.1.2.2.1
  have hi := hP.2.2
  have h0 := hP.1.2.2.2.1
  have h6 := hP.1.2.2.2.2 i
  unfold m_readGoals_137_l0
  rw [passes_ok (c := 33) hP.1 hP.2.1 (by omega) (by omega)]
  by_cases h33 : tx i = 33
  · have hpG : pG tx i = (true, i + 1, 0, i, i) := by
      unfold pG
      rw [if_pos h33]
    have hlt : i < n := by
      apply Classical.byContradiction
      intro z
      have := h0 i (by omega)
      omega
    rw [if_pos h33, Option.bind_some, if_neg (by show ¬ Int32.ofInt 1 = 0; decide), hpG]
    exact ⟨_, hP.up (by omega), rfl⟩
  rw [if_neg h33, Option.bind_some, if_pos (by show Int32.ofInt 0 = 0; decide)]
  dsimp only
  rw [look_ok hP.1 hP.2.1 (by omega), Option.bind_some]
  dsimp only [qlet]
  obtain ⟨σ1, e1, hP1⟩ := readT_m (i1 := Int32.ofInt 0) hP (Or.inl rfl)
  rw [e1, Option.bind_some]
  have hpl := pT_place h0 6 i hi
  have h6e := hP.1.2.2.2.2 (pT tx 6 i).2.1
  have h6f := hP.1.2.2.2.2 ((pT tx 6 i).2.1 + 1)
  by_cases hT : (pT tx 6 i).1 = true
  · rw [hT, if_neg (by show ¬ Int32.ofInt 1 = 0; decide)]
    dsimp only
    rw [look_ok hP1.1 hP1.2.1 (by omega), Option.bind_some]
    have hup : tx (pT tx 6 i).2.1 ≠ 0 → RdP (upS σ1 6410 (Int32.ofInt ((pT tx 6 i).2.1 + 1 : Nat))) n tx ((pT tx 6 i).2.1 + 1) := by
      intro hz
      apply hP1.up
      apply Classical.byContradiction
      intro z
      exact hz (h0 _ (by omega))
    have two : ∀ (c : Int), (c = 61 ∨ c = 126 ∨ c = 60) → tx (pT tx 6 i).2.1 = c → pG tx i = ((pT tx 6 ((pT tx 6 i).2.1 + 1)).1, (pT tx 6 ((pT tx 6 i).2.1 + 1)).2.1, (pG tx i).2.2) → ∃ σ', RdP σ' n tx (pG tx i).2.1 ∧ m_readGoals_137_j63 (m_readGoals_137_l0 fuel) (Int32.ofInt c) σ1 = if (pG tx i).1 = false then some (Int32.ofInt 0, σ') else m_readGoals_137_j99 (m_readGoals_137_l0 fuel) σ' := by
      intro c hc he hg
      have hP2 := hup (by omega)
      unfold m_readGoals_137_j63
      dsimp only [qlet]
      rw [hP1.2.1, zadd, if_neg (zeqN (by omega) (by omega) (by omega) (by omega) (by omega))]
      unfold m_readGoals_137_j85
      obtain ⟨σ2, e2, hP3⟩ := readT_m (i1 := Int32.ofInt 0) hP2 (Or.inl rfl)
      rw [show ((((pT tx 6 i).2.1 : Nat) : Int) + 1) = (((pT tx 6 i).2.1 + 1 : Nat) : Int) by omega, e2, Option.bind_some, hg]
      refine ⟨σ2, hP3, ?_⟩
      cases hz : (pT tx 6 ((pT tx 6 i).2.1 + 1)).1 with
      | true => rw [if_neg (by show ¬ Int32.ofInt 1 = 0; decide), if_neg (by simp)]
      | false => rw [if_pos (by show Int32.ofInt 0 = 0; decide), if_pos rfl]
    have hN : ¬ (pT tx 6 i).1 = false := by rw [hT]; simp
    by_cases h61 : tx (pT tx 6 i).2.1 = 61
    · rw [h61, if_pos rfl]
      exact two 61 (Or.inl rfl) h61 (by unfold pG; rw [if_neg h33, if_neg hN, if_pos h61])
    rw [if_neg (zeqN h61 (by omega) (by omega) (by omega) (by omega))]
    by_cases h126 : tx (pT tx 6 i).2.1 = 126
    · rw [h126, if_pos rfl]
      exact two 126 (Or.inr (Or.inl rfl)) h126 (by unfold pG; rw [if_neg h33, if_neg hN, if_neg h61, if_pos h126])
    rw [if_neg (zeqN h126 (by omega) (by omega) (by omega) (by omega))]
    by_cases h60 : tx (pT tx 6 i).2.1 = 60
    · rw [h60, if_pos rfl]
      exact two 60 (Or.inr (Or.inr rfl)) h60 (by unfold pG; rw [if_neg h33, if_neg hN, if_neg h61, if_neg h126, if_pos h60])
    rw [if_neg (zeqN h60 (by omega) (by omega) (by omega) (by omega))]
    by_cases h63 : tx (pT tx 6 i).2.1 = 63
    · have hP2 := hup (by omega)
      rw [h63, if_pos rfl]
      unfold m_readGoals_137_j63
      dsimp only [qlet]
      rw [hP1.2.1, zadd, if_pos rfl]
      unfold m_readGoals_137_j85
      rw [show ((((pT tx 6 i).2.1 : Nat) : Int) + 1) = (((pT tx 6 i).2.1 + 1 : Nat) : Int) by omega]
      by_cases hsm : isSm (tx ((pT tx 6 i).2.1 + 1))
      · have hg : pG tx i = ((pT tx 6 ((pT tx 6 i).2.1 + 1)).1, (pT tx 6 ((pT tx 6 i).2.1 + 1)).2.1, (pG tx i).2.2) := by
          unfold pG
          rw [if_neg h33, if_neg hN, if_neg h61, if_neg h126, if_neg h60, if_pos h63, if_pos hsm]
        obtain ⟨σ2, e2, hP3⟩ := readT_m (i1 := Int32.ofInt 1) hP2 (Or.inr ⟨rfl, hsm⟩)
        rw [e2, Option.bind_some, hg]
        refine ⟨σ2, hP3, ?_⟩
        cases hz : (pT tx 6 ((pT tx 6 i).2.1 + 1)).1 with
        | true => rw [if_neg (by show ¬ Int32.ofInt 1 = 0; decide), if_neg (by simp)]
        | false => rw [if_pos (by show Int32.ofInt 0 = 0; decide), if_pos rfl]
      · have hg : pG tx i = (false, (pT tx 6 i).2.1 + 1, (pG tx i).2.2) := by
          unfold pG
          rw [if_neg h33, if_neg hN, if_neg h61, if_neg h126, if_neg h60, if_pos h63, if_neg hsm]
        rw [readT_no hP2 hsm, Option.bind_some, hg, if_pos (by show Int32.ofInt 0 = 0; decide)]
        exact ⟨_, hP2, rfl⟩
    rw [if_neg (zeqN h63 (by omega) (by omega) (by omega) (by omega)), in_ok (by omega) (by omega) (by omega)]
    have hg : pG tx i = (decide (isSm (tx i)), (pT tx 6 i).2.1, (pG tx i).2.2) := by
      unfold pG
      rw [if_neg h33, if_neg hN, if_neg h61, if_neg h126, if_neg h60, if_neg h63]
    rw [hg]
    refine ⟨σ1, hP1, ?_⟩
    by_cases hsm : isSm (tx i)
    · rw [if_pos hsm, if_neg (by decide), if_neg (by simpa using hsm)]
    · rw [if_neg hsm, if_pos (by decide), if_pos (by simpa using hsm)]
  · have hT' : (pT tx 6 i).1 = false := by simpa using hT
    have hg : pG tx i = (false, (pT tx 6 i).2.1, 0, 0, 0) := by
      unfold pG
      rw [if_neg h33, if_pos hT']
    rw [hT', if_pos (by show Int32.ofInt 0 = 0; decide), hg]
    exact ⟨σ1, hP1, rfl⟩
theorem rdGs_m {n : Nat} {tx : Nat → Int} : ∀ (f fuel i : Nat) (σ : qC), RdP σ n tx i → n + 1 < 2 * f + i → f ≤ fuel → ∃ σ', m_readGoals_137_l0 fuel σ = some (bo (pGs tx n f i).1, σ') ∧ RdP σ' n tx (pGs tx n f i).2.1 := by
  intro f
  induction f with
  | zero =>
    intro fuel i σ hP h1 _
    have := hP.2.2
    omega
  | succ f ih =>
    intro fuel i σ hP h1 h2
    obtain ⟨fuel, rfl⟩ : ∃ m, fuel = m + 1 := ⟨fuel - 1, by omega⟩
    obtain ⟨σ1, hP1, e1⟩ := rdG_m (fuel := fuel) hP
    rw [e1]
    unfold pGs
    by_cases hg : (pG tx i).1 = false
    · rw [if_pos hg, if_pos hg]
      exact ⟨σ1, rfl, hP1⟩
    rw [if_neg hg, if_neg hg, j99_m hP1]
    by_cases hn : n ≤ (pG tx i).2.1
    · rw [if_pos hn, if_pos hn]
      exact ⟨σ1, rfl, hP1⟩
    rw [if_neg hn, if_neg hn]
    by_cases h44 : tx (pG tx i).2.1 ≠ 44
    · rw [if_pos h44, if_pos h44]
      exact ⟨σ1, rfl, hP1⟩
    rw [if_neg h44, if_neg h44]
    have := pG_ends (tx := tx) (i := i) (by simpa using hg)
    exact ih fuel _ _ (hP1.up (by omega)) (by omega) (by omega)
theorem readGs_m {n : Nat} {tx : Nat → Int} {i : Nat} {σ : qC} (hP : RdP σ n tx i) : ∃ σ', m_readGoals_137 σ = some (bo (pGs tx n 48 i).1, σ') ∧ RdP σ' n tx (pGs tx n 48 i).2.1 := by
  have := hP.1.2.2.1
  exact rdGs_m 48 qF i σ hP (by omega) (by unfold qF; omega)
theorem pC_no {tx : Nat → Int} {n : Nat} (h : ¬ isSm (tx 0)) : pC tx n = (false, 0, []) := by
  unfold pC
  rw [if_pos h]
theorem pC_noT {tx : Nat → Int} {n : Nat} (h : isSm (tx 0)) (hT : (pT tx 6 0).1 = false) : pC tx n = (false, (pT tx 6 0).2.1, []) := by
  unfold pC
  rw [if_neg (fun z => z h), if_pos hT]
theorem pC_end {tx : Nat → Int} {n : Nat} (h : isSm (tx 0)) (hT : (pT tx 6 0).1 = true) (hn : n ≤ (pT tx 6 0).2.1) : pC tx n = (true, (pT tx 6 0).2.1, []) := by
  unfold pC
  rw [if_neg (fun z => z h), if_neg (by rw [hT]; simp), if_pos hn]
theorem pC_no58 {tx : Nat → Int} {n : Nat} (h : isSm (tx 0)) (hT : (pT tx 6 0).1 = true) (hn : ¬ n ≤ (pT tx 6 0).2.1) (h5 : tx (pT tx 6 0).2.1 ≠ 58) : pC tx n = (false, (pT tx 6 0).2.1, []) := by
  unfold pC
  rw [if_neg (fun z => z h), if_neg (by rw [hT]; simp), if_neg hn, if_pos h5]
theorem pC_gs {tx : Nat → Int} {n : Nat} (h : isSm (tx 0)) (hT : (pT tx 6 0).1 = true) (hn : ¬ n ≤ (pT tx 6 0).2.1) (h5 : tx (pT tx 6 0).2.1 = 58) : pC tx n = pGs tx n 48 ((pT tx 6 0).2.1 + 1) := by
  unfold pC
  rw [if_neg (fun z => z h), if_neg (by rw [hT]; simp), if_neg hn, if_neg (fun z => z h5)]
theorem readC_m {n : Nat} {tx : Nat → Int} {σ : qC} (hP : RdP σ n tx 0) : ∃ σ', m_readClause_133 σ = some (bo (pC tx n).1, σ') ∧ RdP σ' n tx (pC tx n).2.1 := by
  have hn := hP.1.2.2.1
  have h0 := hP.1.2.2.2.1
  unfold m_readClause_133
  by_cases hsm : isSm (tx 0)
  · obtain ⟨σ1, e1, hP1⟩ := readT_m (i1 := Int32.ofInt 1) hP (Or.inr ⟨rfl, hsm⟩)
    have hi := hP1.2.2
    rw [e1, Option.bind_some]
    by_cases hT : (pT tx 6 0).1 = false
    · rw [pC_noT hsm hT, hT, if_pos (by show Int32.ofInt 0 = 0; decide)]
      exact ⟨σ1, rfl, hP1⟩
    have hT' : (pT tx 6 0).1 = true := by simpa using hT
    rw [hT', if_neg (by show ¬ Int32.ofInt 1 = 0; decide)]
    dsimp only
    rw [passes_ok (c := 58) hP1.1 hP1.2.1 (by omega) (by omega)]
    by_cases h58 : tx (pT tx 6 0).2.1 = 58
    · have hlt : (pT tx 6 0).2.1 < n := by
        apply Classical.byContradiction
        intro z
        have := h0 _ (show n ≤ (pT tx 6 0).2.1 by omega)
        omega
      rw [if_pos h58, Option.bind_some, if_neg (by show ¬ Int32.ofInt 1 = 0; decide), pC_gs hsm hT' (by omega) h58]
      dsimp only
      obtain ⟨σ2, e2, hP2⟩ := readGs_m (hP1.up (by omega))
      rw [e2, Option.bind_some, if_pos (bo01 _)]
      exact ⟨σ2, rfl, hP2⟩
    · rw [if_neg h58, Option.bind_some, if_pos (by show Int32.ofInt 0 = 0; decide)]
      dsimp only
      rw [hP1.2.1, hP1.1.1]
      by_cases e : n ≤ (pT tx 6 0).2.1
      · rw [pC_end hsm hT' e]
        have : (pT tx 6 0).2.1 = n := by omega
        rw [this, if_pos rfl]
        rw [this] at hP1
        exact ⟨σ1, rfl, hP1⟩
      · rw [pC_no58 hsm hT' e h58, if_neg (zeqN (by omega) (by omega) (by omega) (by omega) (by omega))]
        exact ⟨σ1, rfl, hP1⟩
  · rw [readT_no hP hsm, Option.bind_some, if_pos (by show Int32.ofInt 0 = 0; decide), pC_no hsm]
    exact ⟨σ, rfl, hP⟩
