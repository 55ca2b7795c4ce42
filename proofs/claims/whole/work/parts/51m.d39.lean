/-! D39: the reference does APART, LESS, SLEEP, SAME, CUT -/
/-- a step was taken; the goal's number is at hand; behind it: rest -/
def MP1 (σ : qC) (cls : List Cl) (s bn : Nat) (st : Sto) (rest : List Go) (ch : List Ch) (W : Wm) (t : List Em) (na nc ng : Nat) (behind : Int) : Prop :=
  MStat σ cls ∧ MB σ st.1 nc st.2.2.1 na W t st.2.1 s 0 ∧ SRm σ W t na nc st ∧ (Bm1 s na nc ng t st ∧ 1 ≤ s ∧ st.2.2.1 + 1 ≤ s ∧ na + 1 ≤ s ∧ t.length + 4 ≤ 4 * s) ∧ (σ.1 6427 = Int32.ofInt bn ∧ σ.1 6425 = Int32.ofInt nc ∧ σ.1 6428 = Int32.ofInt ng ∧ σ.1 6433 = Int32.ofInt ch.length) ∧ RTM σ st.1 nc ng rest behind ∧ SnM σ s ch W t st.1 st.2.2.1 na nc ng ∧ ch.length + 1 ≤ s
theorem MP1.fail {σ : qC} {cls : List Cl} {s bn na nc ng : Nat} {st : Sto} {rest : List Go} {ch : List Ch} {W : Wm} {t : List Em} {behind : Int} (h : MP1 σ cls s bn st rest ch W t na nc ng behind) : MFl σ cls s bn ch 0 := by
  obtain ⟨a1, a2, a3, a4, a5, a6, a7, a8⟩ := h
  exact ⟨W, t, st.1, st.2.2.1, na, nc, ng, a1, a2.1, a2.2.2.1, a2.2.2.2.2.1, ⟨a5.1, a5.2.2.2⟩, a7, a2.2.2.2.2.2.2, by omega⟩
/-- todo is set, nothing else -/
theorem MP1.done {σ : qC} {cls : List Cl} {s bn na nc ng : Nat} {st : Sto} {rest : List Go} {ch : List Ch} {W : Wm} {t : List Em} {behind : Int} (h : MP1 σ cls s bn st rest ch W t na nc ng behind) : MS (upS σ 6429 (Int32.ofInt behind)) cls (s, bn, st, rest, ch) := by
  obtain ⟨a1, ⟨m1, m2, m3, m4, ⟨m5, m6, m7⟩, m8, m9⟩, a3, ⟨⟨d1, d2, d3, d4, d5, d6⟩, d7⟩, ⟨k1, k2, k3, k4⟩, a6, a7, a8⟩ := h
  have e1 : ∀ j, j ≠ 6429 → (upS σ 6429 (Int32.ofInt behind)).1 j = σ.1 j := fun j hj => by rw [upS_1, if_neg hj]
  refine ⟨W, t, na, nc, ng, a1.congr (e1 _ (by omega)) rfl rfl, ⟨m1.congr (fun _ _ => rfl) (fun j hj => e1 j (by omega)), m2, m3, m4, ⟨by rw [e1 _ (by omega)]; exact m5, by rw [e1 _ (by omega)]; exact m6, by rw [e1 _ (by omega)]; exact m7⟩, m8, m9⟩, a3, ⟨by (try dsimp only); omega, by (try dsimp only); omega, by (try dsimp only); omega, by (try dsimp only); omega, by (try dsimp only); omega, by (try dsimp only); omega⟩, ⟨by rw [e1 _ (by omega)]; exact k1, by rw [e1 _ (by omega)]; exact k2, by rw [e1 _ (by omega)]; exact k3, by rw [e1 _ (by omega)]; exact k4⟩, ⟨behind, by rw [upS_1, if_pos rfl], ?_⟩, ?_, by dsimp only; omega⟩
  · exact RTM.mono (σ := σ) (σ' := upS σ 6429 (Int32.ofInt behind)) (Nat.le_refl _) (Nat.le_refl _) (Nat.le_refl _) (fun _ _ => rfl) (fun _ _ => rfl) (fun _ _ => rfl) (fun _ _ => ⟨rfl, rfl, rfl, rfl, rfl⟩) a6
  · exact SnM.congr (σ := σ) (σ' := upS σ 6429 (Int32.ofInt behind)) a7 (fun _ _ => rfl) (fun _ _ => rfl) (fun _ _ => rfl) (fun _ _ => rfl) (fun _ _ => ⟨rfl, rfl⟩) (fun _ _ => ⟨rfl, rfl, rfl, rfl, rfl⟩) (fun _ _ _ _ _ => rfl)
theorem in_ok {a l h : Int} (ha : -2147483648 ≤ a ∧ a < 2147483648) (hl : -2147483648 ≤ l ∧ l < 2147483648) (hh : -2147483648 ≤ h ∧ h < 2147483648) : m_in_129 (Int32.ofInt a) (Int32.ofInt l) (Int32.ofInt h) = if l ≤ a ∧ a ≤ h then Int32.ofInt 1 else Int32.ofInt 0 := by
  unfold m_in_129
  by_cases h1 : a < l
  · rw [if_pos (zltP h1 (by omega) (by omega) (by omega) (by omega)), if_neg (by omega)]
  · rw [if_neg (zltN (by omega) (by omega) (by omega) (by omega) (by omega))]
    by_cases h2 : h < a
    · rw [if_pos (zltP h2 (by omega) (by omega) (by omega) (by omega)), if_neg (by omega)]
    · rw [if_neg (zltN (by omega) (by omega) (by omega) (by omega) (by omega)), if_pos (by omega)]
theorem MP1.val {σ : qC} {cls : List Cl} {s bn na nc ng : Nat} {st : Sto} {rest : List Go} {ch : List Ch} {W : Wm} {t : List Em} {behind x : Int} {T : Tr} (h : MP1 σ cls s bn st rest ch W t na nc ng behind) (hT : MTx (σ.2 72) (σ.2 73) (σ.2 74) st.1 nc x T) :
    ∃ x' : Int, m_value_158 (Int32.ofInt x) σ = some (Int32.ofInt x') ∧ MTx (σ.2 72) (σ.2 73) (σ.2 74) st.1 nc x' (fnd (st.1 + 1) st.2.1.1 T) ∧ (lab (fnd (st.1 + 1) st.2.1.1 T) < 0 → st.2.1.1 (vnum (fnd (st.1 + 1) st.2.1.1 T)) = none) :=
  value_ok h.2.1.1.2.2.2.2.2.1 h.2.1.2.2.2.2.2.1 h.2.1.2.2.2.1 (h.2.1.2.1.RV h.2.1.1) hT
set_option maxHeartbeats 1000000 in
theorem lessM {σ : qC} {cls : List Cl} {s bn na nc ng : Nat} {st : Sto} {rest : List Go} {ch : List Ch} {W : Wm} {t : List Em} {behind x y : Int} {X Y : Tr} (h : MP1 σ cls s bn st rest ch W t na nc ng behind) (hX : MTx (σ.2 72) (σ.2 73) (σ.2 74) st.1 nc x X) (hY : MTx (σ.2 72) (σ.2 73) (σ.2 74) st.1 nc y Y) :
    ∃ σ' c, m_less_166 (Int32.ofInt x) (Int32.ofInt y) (Int32.ofInt behind) σ = some (Int32.ofInt (if c = 0 then 1 else 0), σ') ∧ (if isDi (lab (fnd (st.1 + 1) st.2.1.1 X)) ∧ isDi (lab (fnd (st.1 + 1) st.2.1.1 Y)) then (if lab (fnd (st.1 + 1) st.2.1.1 X) < lab (fnd (st.1 + 1) st.2.1.1 Y) then 0 else 1, (s, bn, st, rest, ch)) else (3, (s, bn, st, rest, ch))) = (c, (s, bn, st, rest, ch)) ∧ MR σ' cls (c, (s, bn, st, rest, ch)) := by
  obtain ⟨x', v1, v2, -⟩ := h.val hX
  obtain ⟨y', w1, w2, -⟩ := h.val hY
  have rx := v2.rng
  have ry := w2.rng
  have hd := h.done
  have h24 := h.2.1.2.2.2.2.2.1
  have hnv := h.2.1.1.2.2.2.2.2.1
  unfold m_less_166
  rw [v1, Option.bind_some, w1, Option.bind_some]
  dsimp only [qlet]
  generalize fnd (st.1 + 1) st.2.1.1 X = A at *
  generalize fnd (st.1 + 1) st.2.1.1 Y = B at *
  have h4 : MFl (upS (upS σ 6429 (Int32.ofInt behind)) 6411 (Int32.ofInt 4)) cls s bn ch (thc 3) := by
    obtain ⟨a1, ⟨m1, m2, m3, m4, ⟨m5, m6, m7⟩, m8, m9⟩, a3, d, ⟨k1, k2, k3, k4⟩, a6, a7, a8⟩ := h
    have e1 : ∀ j, j ≠ 6429 → j ≠ 6411 → (upS (upS σ 6429 (Int32.ofInt behind)) 6411 (Int32.ofInt 4)).1 j = σ.1 j := fun j a b => by rw [upS_1, if_neg b, upS_1, if_neg a]
    refine ⟨W, t, st.1, st.2.2.1, na, nc, ng, a1.congr (e1 _ (by omega) (by omega)) rfl rfl, m1.congr (fun _ _ => rfl) (fun j hj => e1 j (by omega) (by omega)), m3, ⟨by rw [e1 _ (by omega) (by omega)]; exact m5, by rw [e1 _ (by omega) (by omega)]; exact m6, by rw [upS_1, if_pos rfl]; rfl⟩, ⟨by rw [e1 _ (by omega) (by omega)]; exact k1, by rw [e1 _ (by omega) (by omega)]; exact k4⟩, ?_, m9, by omega⟩
    exact SnM.congr (σ := σ) (σ' := upS (upS σ 6429 (Int32.ofInt behind)) 6411 (Int32.ofInt 4)) a7 (fun _ _ => rfl) (fun _ _ => rfl) (fun _ _ => rfl) (fun _ _ => rfl) (fun _ _ => ⟨rfl, rfl⟩) (fun _ _ => ⟨rfl, rfl, rfl, rfl, rfl⟩) (fun _ _ _ _ _ => rfl)
  have h0 : MFl (upS σ 6429 (Int32.ofInt behind)) cls s bn ch (thc 1) := by
    obtain ⟨W', t', na', nc', ng', a1, a2, a3, a4, a5, a6, a7, a8⟩ := hd
    exact ⟨W', t', _, _, na', nc', ng', a1, a2.1, a2.2.2.1, a2.2.2.2.2.1, ⟨a5.1, a5.2.2.2⟩, a7, a2.2.2.2.2.2.2, a8⟩
  have no : ¬ (isDi (lab A) ∧ isDi (lab B)) → ∃ σ' c, some (Int32.ofInt 0, upS (upS σ 6429 (Int32.ofInt behind)) 6411 (Int32.ofInt 4)) = some (Int32.ofInt (if c = 0 then 1 else 0), σ') ∧ (if isDi (lab A) ∧ isDi (lab B) then (if lab A < lab B then 0 else 1, (s, bn, st, rest, ch)) else (3, (s, bn, st, rest, ch))) = (c, (s, bn, st, rest, ch)) ∧ MR σ' cls (c, (s, bn, st, rest, ch)) := by
    intro z
    exact ⟨_, 3, rfl, by rw [if_neg z], Or.inr ⟨by dsimp only; omega, by dsimp only; omega, h4⟩⟩
  by_cases hx0 : x' < 0
  · rw [z0, if_pos (zltP hx0 (by omega) (by omega) (by omega) (by omega))]
    have := rx.2.2.1.mp hx0
    exact no (fun z => by omega)
  · rw [z0, if_neg (zltN (by omega) (by omega) (by omega) (by omega) (by omega))]
    by_cases hy0 : y' < 0
    · rw [if_pos (zltP hy0 (by omega) (by omega) (by omega) (by omega))]
      have := ry.2.2.1.mp hy0
      exact no (fun z => by omega)
    · rw [if_neg (zltN (by omega) (by omega) (by omega) (by omega) (by omega))]
      rcases v2.cases with ⟨z, -⟩ | ⟨-, cx, ax, ax3, axb, sx, sx1, sxb, lx, -⟩
      · omega
      rcases w2.cases with ⟨z, -⟩ | ⟨-, cy, ay, ay3, ayb, sy, sy1, syb, ly, -⟩
      · omega
      have ex : aget ((upS σ 6429 (Int32.ofInt behind)).2 72) 24000 (Int32.ofInt x') = some (Int32.ofInt sx) := by rw [agetI (i := x'.toNat) (by omega) (by omega) (by omega), upS_2, sxb]
      have ey : aget ((upS σ 6429 (Int32.ofInt behind)).2 72) 24000 (Int32.ofInt y') = some (Int32.ofInt sy) := by rw [agetI (i := y'.toNat) (by omega) (by omega) (by omega), upS_2, syb]
      rw [ex, Option.bind_some, in_ok (by omega) (by omega) (by omega), ey]
      by_cases dx : 48 ≤ sx ∧ sx ≤ 57
      · rw [if_pos dx, if_neg (by decide), Option.bind_some, in_ok (by omega) (by omega) (by omega)]
        by_cases dy : 48 ≤ sy ∧ sy ≤ 57
        · rw [if_pos dy, if_neg (by decide), Option.bind_some, Option.bind_some]
          have hc : isDi (lab A) ∧ isDi (lab B) := ⟨by omega, by omega⟩
          by_cases hlt : sy ≤ sx
          · rw [if_pos (zleP hlt (by omega) (by omega) (by omega) (by omega))]
            exact ⟨_, 1, rfl, by rw [if_pos hc, if_neg (by omega)], Or.inr ⟨by dsimp only; omega, by dsimp only; omega, h0⟩⟩
          · rw [if_neg (zleN (by omega) (by omega) (by omega) (by omega) (by omega))]
            exact ⟨_, 0, rfl, by rw [if_pos hc, if_pos (by omega)], Or.inl ⟨rfl, hd⟩⟩
        · rw [if_neg dy, if_pos (by rfl)]
          exact no (fun z => dy ⟨by omega, by omega⟩)
      · rw [if_neg dx, if_pos (by rfl)]
        exact no (fun z => dx ⟨by omega, by omega⟩)
