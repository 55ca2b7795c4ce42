/-! D24: the class's CALL, retry -/
set_option maxHeartbeats 2000000 in
theorem leave_ok [Pg] {σ : qC} {cls : List Cl} {s bn na nc n e d : Nat} {st : Sto} {rest : List Go} {ch : List Ch} {W : Wc} {t : List Ec} {X : Tr} (h : CP1 σ cls s bn st rest ch W t na nc) (hX : CTx (σ.2 28) st.1 n e X) (hl : ¬ lab X < 0) (hd : d < 12) :
    ∃ σ', c_leaveChoice_83 (Int32.ofInt n) (Int32.ofInt e) (Int32.ofInt d) σ = some σ' ∧ σ'.1 5402 = Int32.ofInt ((X, d, rest, st) :: ch).length ∧ (∀ j, j ≠ 5402 → σ'.1 j = σ.1 j) ∧ (∀ k, k ≠ 54 → σ'.2 k = σ.2 k) ∧ SnC σ' s ((X, d, rest, st) :: ch) W t st.1 st.2.2.1 na nc := by
  obtain ⟨a1, a2, a3, ⟨⟨d1, d2, d3, d4, d5⟩, d6⟩, ⟨k1, k2, k3, k4, k5, k6⟩, ⟨x, x1, x2⟩, a7, a8, a9⟩ := h
  have hcw := a2.2.2.2.2.2
  unfold c_leaveChoice_83 c_changes_84 c_variables_85 c_sleepers_86 c_aparts_87
  rw [tappI (n := ch.length) k5 (by omega) (by omega), Option.bind_some, k5, x1]
  rw [tputI (i := 9 * ch.length + 4) (by omega) (by omega), Option.bind_some, tputI (i := 9 * ch.length + 5) (by omega) (by omega), Option.bind_some, tputI (i := 9 * ch.length + 6) (by omega) (by omega), Option.bind_some, tputI (i := 9 * ch.length + 7) (by omega) (by omega), Option.bind_some, tputI (i := 9 * ch.length + 8) (by omega) (by omega), Option.bind_some]
  simp only [upA_1, upS_1, tap4_1]
  simp only [show ¬ (4202 = 100 * 54 + 2) by omega, show ¬ (3602 = 100 * 54 + 2) by omega, show ¬ (3802 = 100 * 54 + 2) by omega, show ¬ (4002 = 100 * 54 + 2) by omega, show ¬ (5202 = 100 * 54 + 2) by omega, if_false]
  rw [a2.2.2.2.1.1, a2.2.2.2.1.2.1, a2.2.2.2.1.2.2.1, a2.2.2.2.1.2.2.2, k4]
  refine ⟨_, rfl, ?_, fun j hj => ?_, fun k hk => ?_, ?_⟩
  · simp only [upA_1, upS_1]
    rw [if_pos trivial]
    rfl
  · simp only [upA_1, upS_1, tap4_1]
    rw [if_neg (by omega)]
  · rw [upA_ne hk, upA_ne hk, upA_ne hk, upA_ne hk, upA_ne hk, upS_2, tap4_2, if_neg hk]
  · have e28 : ∀ (z : Int32), True := fun _ => trivial
    have g2 : ∀ k, k ≠ 54 → (upA (upA (upA (upA (upA (upS (tap4 σ 54 (ch.length * 9) (Int32.ofInt n) (Int32.ofInt e) (Int32.ofInt d) (Int32.ofInt x)) (100 * 54 + 2) (Int32.ofInt ((ch.length : Int) + 1))) 54 (9 * ch.length + 4) (Int32.ofInt t.length)) 54 (9 * ch.length + 5) (Int32.ofInt st.1)) 54 (9 * ch.length + 6) (Int32.ofInt st.2.2.1)) 54 (9 * ch.length + 7) (Int32.ofInt na)) 54 (9 * ch.length + 8) (Int32.ofInt nc)).2 k = σ.2 k := by
      intro k hk
      rw [upA_ne hk, upA_ne hk, upA_ne hk, upA_ne hk, upA_ne hk, upS_2, tap4_2, if_neg hk]
    have g54 : ∀ i, (upA (upA (upA (upA (upA (upS (tap4 σ 54 (ch.length * 9) (Int32.ofInt n) (Int32.ofInt e) (Int32.ofInt d) (Int32.ofInt x)) (100 * 54 + 2) (Int32.ofInt ((ch.length : Int) + 1))) 54 (9 * ch.length + 4) (Int32.ofInt t.length)) 54 (9 * ch.length + 5) (Int32.ofInt st.1)) 54 (9 * ch.length + 6) (Int32.ofInt st.2.2.1)) 54 (9 * ch.length + 7) (Int32.ofInt na)) 54 (9 * ch.length + 8) (Int32.ofInt nc)).2 54 i =
        fup (fup (fup (fup (fup (fup (fup (fup (fup (σ.2 54) (ch.length * 9) (Int32.ofInt n)) (ch.length * 9 + 1) (Int32.ofInt e)) (ch.length * 9 + 2) (Int32.ofInt d)) (ch.length * 9 + 3) (Int32.ofInt x)) (9 * ch.length + 4) (Int32.ofInt t.length)) (9 * ch.length + 5) (Int32.ofInt st.1)) (9 * ch.length + 6) (Int32.ofInt st.2.2.1)) (9 * ch.length + 7) (Int32.ofInt na)) (9 * ch.length + 8) (Int32.ofInt nc) i := by
      intro i
      rw [upA_eq, upA_eq, upA_eq, upA_eq, upA_eq, upS_2, tap4_2, if_pos rfl]
    generalize (upA (upA (upA (upA (upA (upS (tap4 σ 54 (ch.length * 9) (Int32.ofInt n) (Int32.ofInt e) (Int32.ofInt d) (Int32.ofInt x)) (100 * 54 + 2) (Int32.ofInt ((ch.length : Int) + 1))) 54 (9 * ch.length + 4) (Int32.ofInt t.length)) 54 (9 * ch.length + 5) (Int32.ofInt st.1)) 54 (9 * ch.length + 6) (Int32.ofInt st.2.2.1)) 54 (9 * ch.length + 7) (Int32.ofInt na)) 54 (9 * ch.length + 8) (Int32.ofInt nc)) = σ' at *
    have e28 := g2 28 (by omega)
    refine ⟨[], t, n, e, na, nc, x, rfl, a3.congr e28 (fun k _ _ => by rw [g2 38 (by omega)]) (fun k _ _ => by rw [g2 40 (by omega)]), ⟨d1, d2, d3, d4, d5⟩, hd, ⟨?_, ?_, ?_, ?_, ?_, ?_, ?_, ?_, ?_⟩, by rw [e28]; exact hX, hl, by rw [e28, g2 52 (by omega)]; exact x2, ⟨Nat.le_refl _, Nat.le_refl _, Nat.le_refl _, Nat.le_refl _⟩, ?_⟩
    all_goals first
      | (rw [g54]; repeat (first | rw [fup_at, if_pos (by omega)] | rw [fup_at, if_neg (by omega)]))
      | skip
    exact a7.congr e28 (fun k _ _ => by rw [g2 38 (by omega)]) (fun k _ _ => by rw [g2 40 (by omega)]) (fun k _ => by rw [g2 52 (by omega)]) (fun k hk => by rw [g54]; repeat (rw [fup_at, if_neg (by omega)]))
