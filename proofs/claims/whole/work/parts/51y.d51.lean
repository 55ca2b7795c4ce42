/-! D51: the reference calls, performs, goes back -/
set_option maxHeartbeats 4000000 in
theorem call_m {σ : qC} {cls : List Cl} {s bn na nc ng : Nat} {st : Sto} {rest : List Go} {ch : List Ch} {W : Wm} {t : List Em} {behind x : Int} {X : Tr} (h : MP1 σ cls s bn st rest ch W t na nc ng behind) (hX : MTx (σ.2 72) (σ.2 73) (σ.2 74) st.1 nc x X) (hl : ¬ lab X < 0) (r : Nat × Ma)
    (hr : r = if cls.length ≤ nfit cls X 0 then (1, (s, bn, st, rest, ch)) else aTake cls (s, bn, st, rest, if cls.length ≤ nfit cls X (nfit cls X 0 + 1) then ch else (X, nfit cls X (nfit cls X 0 + 1), rest, st) :: ch) (nfit cls X 0) X rest ch.length) :
    ∃ σ', m_call_164 (Int32.ofInt x) (Int32.ofInt behind) σ = some (Int32.ofInt (if r.1 = 0 then 1 else 0), σ') ∧ MR σ' cls r := by
  have hfail := h.fail
  obtain ⟨a1, hB, a3, ⟨hd, d7, d8, d9, d10⟩, ⟨k1, k2, k3, k4⟩, a6, a7, a8⟩ := h
  have hnc := hB.2.2.2.2.2.1
  have h12 := a1.2.1
  have hs5 := hB.2.2.2.2.2.2
  unfold m_call_164
  rw [nextFit_m a1 hX hl hnc (a := 0) (i := 0) (by omega) (by omega), Option.bind_some, a1.1]
  by_cases hn : cls.length ≤ nfit cls X 0
  · have : nfit cls X 0 ≤ cls.length := by
      unfold nfit
      have := List.findIdx_le_length (p := fitA X) (xs := cls.drop 0)
      rw [List.length_drop] at this
      omega
    rw [if_pos hn] at hr
    subst hr
    have e : nfit cls X 0 = cls.length := by omega
    rw [if_pos (by rw [e])]
    exact ⟨σ, rfl, Or.inr ⟨by dsimp only; omega, by dsimp only; omega, hfail⟩⟩
  rw [if_neg hn] at hr
  have hf := nfit_fit (cls := cls) (X := X) (i := 0) (by omega)
  have hnx := nextFit_m a1 hX hl hnc (i := nfit cls X 0 + 1) (a := (nfit cls X 0 : Nat) + 1) (by omega) (by omega)
  rw [if_neg (zeqN (by omega) (by omega) (by omega) (by omega) (by omega)), zadd, hnx, Option.bind_some]
  have hge : nfit cls X (nfit cls X 0 + 1) ≤ cls.length := by
    have := List.findIdx_le_length (p := fitA X) (xs := cls.drop (nfit cls X 0 + 1))
    rw [List.length_drop] at this
    show nfit cls X 0 + 1 + _ ≤ _
    omega
  have bool : ∀ b : Bool, (Int32.ofInt (if b = true then 1 else 0) = 0 ∨ Int32.ofInt (if b = true then 1 else 0) = 1) := by decide
  by_cases hn2 : cls.length ≤ nfit cls X (nfit cls X 0 + 1)
  · rw [if_pos hn2] at hr
    rw [if_pos (zleP (by omega) (by omega) (by omega) (by omega) (by omega)), k4]
    obtain ⟨σ', p1, p2⟩ := take_m (td0 := rest) a1 hB a3 hd k1 k2 k3 k4 a6 a7 (by omega) (by omega : nfit cls X 0 < cls.length) hX hl hf (lvl := ch.length) (by omega)
    rw [p1, Option.bind_some, ← hr]
    rw [← hr] at p2
    refine ⟨σ', ?_, p2⟩
    have := bool (decide (r.1 = 0))
    simp only [decide_eq_true_eq] at this
    rw [if_pos this]
  · rw [if_neg hn2] at hr
    rw [if_neg (zleN (by omega) (by omega) (by omega) (by omega) (by omega))]
    have m1 := hB.1.2.2.2.1
    rw [k4, aputI (i := ch.length) rfl (by omega) (by omega), Option.bind_some, upA_1, k4, aputI (i := ch.length) rfl (by omega) (by omega), Option.bind_some, upA_1, upA_1, k4, aputI (i := ch.length) rfl (by omega) (by omega), Option.bind_some, upA_1, upA_1, upA_1, k4, k2, aputI (i := ch.length) rfl (by omega) (by omega), Option.bind_some, upA_1, upA_1, upA_1, upA_1, k4, m1.1, aputI (i := ch.length) rfl (by omega) (by omega), Option.bind_some, upA_1, upA_1, upA_1, upA_1, upA_1, k4, k3, aputI (i := ch.length) rfl (by omega) (by omega), Option.bind_some, upA_1, upA_1, upA_1, upA_1, upA_1, upA_1, k4, m1.2.2.2, aputI (i := ch.length) rfl (by omega) (by omega), Option.bind_some, upA_1, upA_1, upA_1, upA_1, upA_1, upA_1, upA_1, k4, m1.2.1, aputI (i := ch.length) rfl (by omega) (by omega), Option.bind_some, upA_1, upA_1, upA_1, upA_1, upA_1, upA_1, upA_1, upA_1, k4, m1.2.2.1, aputI (i := ch.length) rfl (by omega) (by omega), Option.bind_some]
    dsimp only [qlet]
    rw [upA_1, upA_1, upA_1, upA_1, upA_1, upA_1, upA_1, upA_1, upA_1, k4, zadd]
    obtain ⟨σ1, hσ1⟩ : ∃ σ1, σ1 = upS (upA (upA (upA (upA (upA (upA (upA (upA (upA σ 94 ch.length (Int32.ofInt x)) 95 ch.length (Int32.ofInt (nfit cls X (nfit cls X 0 + 1) : Nat))) 96 ch.length (Int32.ofInt behind)) 97 ch.length (Int32.ofInt nc)) 98 ch.length (Int32.ofInt st.1)) 99 ch.length (Int32.ofInt ng)) 100 ch.length (Int32.ofInt t.length)) 101 ch.length (Int32.ofInt st.2.2.1)) 102 ch.length (Int32.ofInt na)) 6433 (Int32.ofInt ((ch.length : Int) + 1)) := ⟨_, rfl⟩
    rw [← hσ1]
    have s1 : ∀ j, j ≠ 6433 → σ1.1 j = σ.1 j := fun j hj => by rw [hσ1, upS_1, if_neg hj]; rfl
    have s2 : ∀ k, k < 94 ∨ 102 < k → σ1.2 k = σ.2 k := fun k hk => by rw [hσ1, upS_2, upA_ne (by omega), upA_ne (by omega), upA_ne (by omega), upA_ne (by omega), upA_ne (by omega), upA_ne (by omega), upA_ne (by omega), upA_ne (by omega), upA_ne (by omega)]
    have eA : ∀ k i, σ1.2 k i = if k = 102 ∧ i = ch.length then Int32.ofInt na else if k = 101 ∧ i = ch.length then Int32.ofInt st.2.2.1 else if k = 100 ∧ i = ch.length then Int32.ofInt t.length else if k = 99 ∧ i = ch.length then Int32.ofInt ng else if k = 98 ∧ i = ch.length then Int32.ofInt st.1 else if k = 97 ∧ i = ch.length then Int32.ofInt nc else if k = 96 ∧ i = ch.length then Int32.ofInt behind else if k = 95 ∧ i = ch.length then Int32.ofInt (nfit cls X (nfit cls X 0 + 1) : Nat) else if k = 94 ∧ i = ch.length then Int32.ofInt x else σ.2 k i := fun k i => by rw [hσ1, upS_2, upA_at, upA_at, upA_at, upA_at, upA_at, upA_at, upA_at, upA_at, upA_at]
    have e72 := s2 72 (by omega)
    have e73 := s2 73 (by omega)
    have e74 := s2 74 (by omega)
    have hX1 : MTx (σ1.2 72) (σ1.2 73) (σ1.2 74) st.1 nc x X := by rw [e72, e73, e74]; exact hX
    have a11 : MStat σ1 cls := a1.congr (s1 _ (by omega)) (s2 _ (by omega)) (s2 _ (by omega))
    have hB1 : MB σ1 st.1 nc st.2.2.1 na W t st.2.1 s 0 := by
      obtain ⟨m1, m2, m3, m4, ⟨m5, m6, m7⟩, m8, m9⟩ := hB
      exact ⟨m1.congr (fun k hk => s2 k (by omega)) (fun j hj => s1 j (by omega)), m2.congr (Nat.le_refl _) (Nat.le_refl _) (fun _ _ => by rw [e72]) (fun _ _ => by rw [e73]) (fun _ _ => by rw [e74]), m3, m4, ⟨by rw [s1 _ (by omega), m5], by rw [s1 _ (by omega), m6], by rw [s1 _ (by omega), m7]⟩, m8, m9⟩
    have a31 : SRm σ1 W t na nc st := a3.congr (fun _ _ => by rw [e72]) (fun _ _ => by rw [e73]) (fun _ _ => by rw [e74]) (fun _ _ => by rw [s2 85 (by omega)]) (fun _ _ => ⟨by rw [s2 87 (by omega)], by rw [s2 88 (by omega)]⟩)
    have e78 : ∀ i, σ1.2 78 i = σ.2 78 i ∧ σ1.2 79 i = σ.2 79 i ∧ σ1.2 80 i = σ.2 80 i ∧ σ1.2 81 i = σ.2 81 i ∧ σ1.2 82 i = σ.2 82 i := fun i => ⟨by rw [s2 78 (by omega)], by rw [s2 79 (by omega)], by rw [s2 80 (by omega)], by rw [s2 81 (by omega)], by rw [s2 82 (by omega)]⟩
    have a61 : RTM σ1 st.1 nc ng rest behind := a6.mono (Nat.le_refl _) (Nat.le_refl _) (Nat.le_refl _) (fun _ _ => by rw [e72]) (fun _ _ => by rw [e73]) (fun _ _ => by rw [e74]) (fun i _ => e78 i)
    have a71 : SnM σ1 s ch W t st.1 st.2.2.1 na nc ng := a7.congr (fun _ _ => by rw [e72]) (fun _ _ => by rw [e73]) (fun _ _ => by rw [e74]) (fun _ _ => by rw [s2 85 (by omega)]) (fun _ _ => ⟨by rw [s2 87 (by omega)], by rw [s2 88 (by omega)]⟩) (fun i _ => e78 i) (fun k i ha hb hi => by rw [eA, if_neg (by omega), if_neg (by omega), if_neg (by omega), if_neg (by omega), if_neg (by omega), if_neg (by omega), if_neg (by omega), if_neg (by omega), if_neg (by omega)])
    have hsn : SnM σ1 s ((X, nfit cls X (nfit cls X 0 + 1), rest, st) :: ch) W t st.1 st.2.2.1 na nc ng := ⟨[], t, x, behind, na, nc, ng, rfl, a31, hd, by omega, ⟨by rw [eA]; simp, by rw [eA]; simp, by rw [eA]; simp, by rw [eA]; simp, by rw [eA]; simp, by rw [eA]; simp, by rw [eA]; simp, by rw [eA]; simp, by rw [eA]; simp⟩, hX1, hl, a61, ⟨Nat.le_refl _, Nat.le_refl _, Nat.le_refl _, Nat.le_refl _, Nat.le_refl _⟩, a71⟩
    obtain ⟨σ', p1, p2⟩ := take_m (td0 := rest) (ch := (X, nfit cls X (nfit cls X 0 + 1), rest, st) :: ch) a11 hB1 a31 hd (by rw [s1 _ (by omega), k1]) (by rw [s1 _ (by omega), k2]) (by rw [s1 _ (by omega), k3]) (by rw [hσ1, upS_1, if_pos rfl]; rfl) a61 hsn (by rw [List.length_cons]; omega) (by omega : nfit cls X 0 < cls.length) hX1 hl hf (lvl := ch.length) (by omega)
    rw [p1, Option.bind_some, ← hr]
    rw [← hr] at p2
    refine ⟨σ', ?_, p2⟩
    have := bool (decide (r.1 = 0))
    simp only [decide_eq_true_eq] at this
    rw [if_pos this]
