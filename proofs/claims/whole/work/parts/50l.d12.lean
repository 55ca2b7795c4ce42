/-! D12: the class tests all aparts -/
def apF (wa : Nat → Int) (L R : Nat → Tr) : Nat → Nat → List (Tr × Tr)
  | 0, _ => []
  | k + 1, i => if wa i = 1 then (L i, R i) :: apF wa L R k (i + 1) else apF wa L R k (i + 1)
theorem apF_congr {wa wa' : Nat → Int} {L R : Nat → Tr} : ∀ {k i : Nat}, (∀ a, i ≤ a → a < i + k → wa' a = wa a) → apF wa' L R k i = apF wa L R k i
  | 0, _, _ => rfl
  | k + 1, i, h => by
    unfold apF
    rw [h i (by omega) (by omega), apF_congr (k := k) (i := i + 1) (fun a h1 h2 => h a (by omega) (by omega))]
def wa01 (W : Wc) : Prop := ∀ a, W.2.2.2.2 a = 0 ∨ W.2.2.2.2 a = 1
theorem tall_c {nv : Nat} {u : Us} {x y : Tr} {r : List (Tr × Tr)} {s : Nat} : tall nv u ((x, y) :: r) s =
    if (uni nv false 502 s u false [(x, y)]).1 = 2 then (2, (uni nv false 502 s u false [(x, y)]).2.1, []) else if (uni nv false 502 s u false [(x, y)]).1 = 1 then tall nv u r (uni nv false 502 s u false [(x, y)]).2.1 else if (uni nv false 502 s u false [(x, y)]).2.2.2 = false then (1, (uni nv false 502 s u false [(x, y)]).2.1, []) else
      ((tall nv u r (uni nv false 502 s u false [(x, y)]).2.1).1, (tall nv u r (uni nv false 502 s u false [(x, y)]).2.1).2.1, (x, y) :: (tall nv u r (uni nv false 502 s u false [(x, y)]).2.1).2.2) := by
  conv => lhs; unfold tall
def acode (c : Nat) : Nat := if c = 0 then 9 else if c = 1 then 7 else 3
set_option maxHeartbeats 2000000 in
theorem testAparts_ok [Pg] {nv ns na : Nat} {u : Us} {L R : Nat → Tr} : ∀ (k i n s : Nat) (W : Wc) (t : List Ec) (σ : qC), i + k = na → CU σ nv ns na W t u s → σ.1 4502 = Int32.ofInt 0 → wa01 W → (∀ a, a < na → RA1 σ nv a (L a) (R a)) → k < n → s ≤ 500 → t.length ≤ 3 * s + 10000 →
    ∃ σ' W' t', c_testAparts_97_l2 n (Int32.ofInt i) σ = some (acode (tall nv u (apF W.2.2.2.2 L R k i) s).1, σ') ∧ CU σ' nv ns na W' t' u (tall nv u (apF W.2.2.2.2 L R k i) s).2.1 ∧ σ'.1 4502 = Int32.ofInt 0 ∧ FrT σ σ' ∧ Und W t W' t' ∧ s ≤ (tall nv u (apF W.2.2.2.2 L R k i) s).2.1 ∧ (tall nv u (apF W.2.2.2.2 L R k i) s).2.1 ≤ 500 ∧ (tall nv u (apF W.2.2.2.2 L R k i) s).1 ≤ 2 ∧
      t'.length + 3 * s ≤ t.length + 3 * (tall nv u (apF W.2.2.2.2 L R k i) s).2.1 ∧ wa01 W' ∧ (W'.1, W'.2.1, W'.2.2.1, W'.2.2.2.1) = (W.1, W.2.1, W.2.2.1, W.2.2.2.1) ∧ (∀ a, a < i ∨ na ≤ a → W'.2.2.2.2 a = W.2.2.2.2 a) ∧ ((tall nv u (apF W.2.2.2.2 L R k i) s).1 = 0 → apF W'.2.2.2.2 L R k i = (tall nv u (apF W.2.2.2.2 L R k i) s).2.2) := by
  intro k
  induction k with
  | zero =>
    intro i n s W t σ hi hU hN hw hA hn hs ht
    cases n with
    | zero => omega
    | succ n =>
      have h6 := hU.1.2.2.2.2.2
      unfold c_testAparts_97_l2 c_aparts_87
      rw [hU.1.2.2.2.1.2.2.1, if_pos (zleP (by omega) (by omega) (by omega) (by omega) (by omega))]
      exact ⟨σ, W, t, rfl, hU, hN, FrT.refl, Und.refl, Nat.le_refl _, hs, by unfold apF tall; simp, Nat.le_refl _, hw, rfl, fun _ _ => rfl, fun _ => rfl⟩
  | succ k ih =>
    intro i n s W t σ hi hU hN hw hA hn hs ht
    cases n with
    | zero => omega
    | succ n =>
      have h6 := hU.1.2.2.2.2.2
      have h3 := hU.1.2.2.1 i (by omega)
      unfold c_testAparts_97_l2 c_aparts_87 c_isWaiting_17
      rw [hU.1.2.2.2.1.2.2.1, if_neg (zleN (by omega) (by omega) (by omega) (by omega) (by omega)), tatI (i := 4 * i + 2) (by omega) (by omega), h3]
      rcases hw i with w0 | w1
      · have ea : apF W.2.2.2.2 L R (k + 1) i = apF W.2.2.2.2 L R k (i + 1) := by
          conv => lhs; unfold apF
          rw [if_neg (by omega)]
        rw [w0, if_neg (by decide : ¬ Int32.ofInt 0 = Int32.ofInt 1), if_pos (by rfl), ea, zadd]
        obtain ⟨σ', W', t', q1, q2, q3, q4, q5, q6, q7, q8, q9, q10, q11, q12, q13⟩ := ih (i + 1) n s W t σ (by omega) hU hN hw hA (by omega) hs ht
        refine ⟨σ', W', t', q1, q2, q3, q4, q5, q6, q7, q8, q9, q10, q11, fun a ha => q12 a (by omega), fun hc => ?_⟩
        rw [← q13 hc]
        conv => lhs; unfold apF
        rw [if_neg (by rw [q12 i (by omega)]; omega)]
      · have ea : apF W.2.2.2.2 L R (k + 1) i = (L i, R i) :: apF W.2.2.2.2 L R k (i + 1) := by
          conv => lhs; unfold apF
          rw [if_pos w1]
        rw [w1, if_pos rfl, if_neg (by decide), ea, tall_c]
        obtain ⟨σ1, W1, t1, g1, g2, g3, g4, g5, g6, g7, g8, g9, g10, g11⟩ := testApart_ok (a := i) hU hN (by omega) w1 (hA i (by omega)) hs ht
        rw [g1, Option.bind_some]
        dsimp only
        have htc : 1 ≤ tcode (uni nv false 502 s u false [(L i, R i)]) ∧ tcode (uni nv false 502 s u false [(L i, R i)]) < 11 := by
          unfold tcode
          repeat' split
          all_goals omega
        rw [if_pos htc]
        have hA1 : ∀ a, a < na → RA1 σ1 nv a (L a) (R a) := fun a ha => (hA a ha).congr (Nat.le_refl _) g4.book (g4.2.1 _ (by omega)).2 (g4.2.1 _ (by omega)).2
        clear g1
        generalize uni nv false 502 s u false [(L i, R i)] = Q at *
        by_cases c2 : Q.1 = 2
        · have hW1 : W1 = W := by rw [g11, if_neg (by omega)]
          have ht : tcode Q = 3 := by unfold tcode; rw [if_pos c2]
          rw [if_pos c2, ht, if_neg (by omega)]
          rw [hW1] at g2 g5
          exact ⟨σ1, W, t1, rfl, g2, g3, g4, g5, g6, g7, by simp, g10, hw, rfl, fun _ _ => rfl, fun z => by cases z⟩
        · rw [if_neg c2]
          by_cases c1 : Q.1 = 1
          · have ht : tcode Q = 1 := by unfold tcode; rw [if_neg c2, if_pos c1]
            rw [if_pos c1, ht, if_pos rfl, zadd]
            rw [if_pos c1] at g11
            have hw1 : wa01 W1 := by
              intro a
              rw [g11]
              dsimp only
              rw [gup_at]
              split
              · exact Or.inl rfl
              · exact hw a
            have hap : apF W1.2.2.2.2 L R k (i + 1) = apF W.2.2.2.2 L R k (i + 1) := apF_congr (fun a h1 h2 => by rw [g11]; dsimp only; rw [gup_at, if_neg (by omega)])
            obtain ⟨σ', W', t', q1, q2, q3, q4, q5, q6, q7, q8, q9, q10, q11, q12, q13⟩ := ih (i + 1) n Q.2.1 W1 t1 σ1 (by omega) g2 g3 hw1 hA1 (by omega) g7 (by omega)
            rw [hap] at q1 q2 q6 q7 q8 q9 q13
            refine ⟨σ', W', t', q1, q2, q3, g4.trans q4, g5.trans q5, by omega, q7, q8, by omega, q10, ?_, fun a ha => ?_, fun hc => ?_⟩
            · rw [q11, g11]
            · rw [q12 a (by omega), g11]
              dsimp only
              rw [gup_at, if_neg (by omega)]
            · rw [← q13 hc]
              conv => lhs; unfold apF
              rw [if_neg (by rw [q12 i (by omega), g11]; dsimp only; rw [gup_at, if_pos rfl]; omega)]
          · have hW1 : W1 = W := by rw [g11, if_neg (by omega)]
            rw [if_neg c1]
            rw [hW1] at g2 g5
            by_cases hbd : Q.2.2.2 = false
            · have ht : tcode Q = 7 := by unfold tcode; rw [if_neg c2, if_neg c1, if_pos hbd]
              rw [if_pos hbd, ht, if_neg (by omega)]
              exact ⟨σ1, W, t1, rfl, g2, g3, g4, g5, g6, g7, by simp, g10, hw, rfl, fun _ _ => rfl, fun z => by cases z⟩
            · have ht : tcode Q = 1 := by unfold tcode; rw [if_neg c2, if_neg c1, if_neg hbd]
              rw [if_neg hbd, ht, if_pos rfl, zadd]
              obtain ⟨σ', W', t', q1, q2, q3, q4, q5, q6, q7, q8, q9, q10, q11, q12, q13⟩ := ih (i + 1) n Q.2.1 W t1 σ1 (by omega) g2 g3 hw hA1 (by omega) g7 (by omega)
              dsimp only
              refine ⟨σ', W', t', q1, q2, q3, g4.trans q4, g5.trans q5, by omega, q7, q8, by omega, q10, q11, fun a ha => q12 a (by omega), fun hc => ?_⟩
              rw [← q13 hc]
              conv => lhs; unfold apF
              rw [if_pos (by rw [q12 i (by omega)]; exact w1)]
