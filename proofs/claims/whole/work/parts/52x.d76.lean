/-! D76: the reference adds and drops clauses -/
theorem ms_stat {σ σ' : qC} {cls : List Cl} {m : Ma} (h2 : ∀ k, 72 ≤ k ∧ k ≤ 102 → σ'.2 k = σ.2 k) (h1 : ∀ j, 6425 ≤ j ∧ j ≤ 6430 ∨ 6432 ≤ j ∧ j ≤ 6435 ∨ j = 6440 → σ'.1 j = σ.1 j) (h11 : σ'.1 6411 = Int32.ofInt 0) (hst : MStat σ' cls) (hS : MS σ cls m) : MS σ' cls m := by
  obtain ⟨W, t, na, nc, ng, a1, ⟨m1, m2, m3, m4, ⟨m5, m6, m7⟩, m8, m9⟩, a3, a4, ⟨k1, k2, k3, k4⟩, ⟨g, g1, g2⟩, a7, a8⟩ := hS
  refine ⟨W, t, na, nc, ng, hst, ⟨m1.congr (fun k hk => h2 k (by omega)) (fun j hj => h1 j (by omega)), m2.congr (Nat.le_refl _) (Nat.le_refl _) (fun _ _ => by rw [h2 72 (by omega)]) (fun _ _ => by rw [h2 73 (by omega)]) (fun _ _ => by rw [h2 74 (by omega)]), m3, m4, ⟨by rw [h1 _ (by omega), m5], by rw [h1 _ (by omega), m6], h11⟩, m8, m9⟩, a3.congr (fun _ _ => by rw [h2 72 (by omega)]) (fun _ _ => by rw [h2 73 (by omega)]) (fun _ _ => by rw [h2 74 (by omega)]) (fun _ _ => by rw [h2 85 (by omega)]) (fun _ _ => ⟨by rw [h2 87 (by omega)], by rw [h2 88 (by omega)]⟩), a4, ⟨by rw [h1 _ (by omega), k1], by rw [h1 _ (by omega), k2], by rw [h1 _ (by omega), k3], by rw [h1 _ (by omega), k4]⟩, ⟨g, by rw [h1 _ (by omega), g1], ?_⟩, ?_, a8⟩
  · exact g2.mono (Nat.le_refl _) (Nat.le_refl _) (Nat.le_refl _) (fun _ _ => by rw [h2 72 (by omega)]) (fun _ _ => by rw [h2 73 (by omega)]) (fun _ _ => by rw [h2 74 (by omega)]) (fun _ _ => ⟨by rw [h2 78 (by omega)], by rw [h2 79 (by omega)], by rw [h2 80 (by omega)], by rw [h2 81 (by omega)], by rw [h2 82 (by omega)]⟩)
  · exact a7.congr (fun _ _ => by rw [h2 72 (by omega)]) (fun _ _ => by rw [h2 73 (by omega)]) (fun _ _ => by rw [h2 74 (by omega)]) (fun _ _ => by rw [h2 85 (by omega)]) (fun _ _ => ⟨by rw [h2 87 (by omega)], by rw [h2 88 (by omega)]⟩) (fun _ _ => ⟨by rw [h2 78 (by omega)], by rw [h2 79 (by omega)], by rw [h2 80 (by omega)], by rw [h2 81 (by omega)], by rw [h2 82 (by omega)]⟩) (fun k i a b _ => by rw [h2 k (by omega)])
theorem TXm.nil {σ : qC} (h : σ.1 6407 = Int32.ofInt 0) : TXm σ 0 (fun _ => 0) := ⟨h, fun p hp => by omega, by omega, fun _ _ => rfl, fun _ => ⟨by dsimp only; omega, by dsimp only; omega⟩⟩
/-- the text is copied -/
theorem copyL_m {n c : Nat} {b : Bool} {tx : Nat → Int} (hn : n ≤ 48) (hc : c < 12) : ∀ (d i fuel : Nat) (σ : qC), i + d = n → d < fuel → σ.1 6407 = Int32.ofInt n → σ.1 6408 = Int32.ofInt c → (∀ p, p < n → σ.2 65 p = Int32.ofInt (tx p)) → (∀ p, p < i → σ.2 66 (48 * c + p) = Int32.ofInt (tx p)) →
    ∃ v σ', m_add_132_l44 fuel (bo b) (Int32.ofInt i) σ = some (v, σ') ∧ σ'.1 6407 = Int32.ofInt 0 ∧ σ'.1 6411 = Int32.ofInt (if b = true then 0 else 1) ∧ (b = true → v = Int32.ofInt (c + 1 : Nat)) ∧ σ'.1 6408 = Int32.ofInt (if b = true then c + 1 else c : Nat) ∧ σ'.1 6438 = (if b = true then Int32.ofInt 0 else σ.1 6438) ∧ (∀ p, p < n → σ'.2 66 (48 * c + p) = Int32.ofInt (tx p)) ∧ σ'.2 67 c = Int32.ofInt n ∧ (∀ k, k < 48 * c → σ'.2 66 k = σ.2 66 k) ∧ (∀ k, k < c → σ'.2 67 k = σ.2 67 k) ∧ (∀ a, a ≠ 66 → a ≠ 67 → σ'.2 a = σ.2 a) ∧ (∀ j, j ≠ 6407 → j ≠ 6408 → j ≠ 6411 → j ≠ 6438 → σ'.1 j = σ.1 j) := by
  intro d
  induction d with
  | zero =>
    intro i fuel σ hi hf h1 h2 h3 h4
    obtain ⟨fuel, rfl⟩ : ∃ m, fuel = m + 1 := ⟨fuel - 1, by omega⟩
    unfold m_add_132_l44 m_bad_130
    rw [h1, if_pos (zleP (by omega) (by omega) (by omega) (by omega) (by omega)), h2, aputI (i := c) rfl (by omega) (by omega), Option.bind_some]
    dsimp only [qlet]
    cases b with
    | false =>
      rw [if_pos (by rfl), Option.bind_some, if_neg (by show ¬ Int32.ofInt 1 = 0; decide)]
      refine ⟨_, _, rfl, ?_, ?_, fun z => (by cases z), ?_, ?_, fun p hp => ?_, ?_, fun k hk => ?_, fun k hk => ?_, fun a x y => ?_, fun j x y z w => ?_⟩
      · rw [upS_1, if_neg (by omega), upS_1, if_pos rfl]
      · rw [upS_1, if_pos rfl]
        rfl
      · rw [upS_1, if_neg (by omega), upS_1, if_neg (by omega), upA_1, h2]
        rfl
      · rw [upS_1, if_neg (by omega), upS_1, if_neg (by omega)]
        rfl
      · rw [upS_2, upS_2, upA_ne (by omega)]
        exact h4 p (by omega)
      · rw [upS_2, upS_2, upA_eq, fup_at, if_pos rfl]
      · rw [upS_2, upS_2, upA_ne (by omega)]
      · rw [upS_2, upS_2, upA_eq, fup_at, if_neg (by omega)]
      · rw [upS_2, upS_2, upA_ne y]
      · rw [upS_1, if_neg z, upS_1, if_neg x]
        rfl
    | true =>
      rw [if_neg (by decide), Option.bind_some, if_pos (by rfl)]
      have e8 : ∀ v w z, (upS (upS (upS (upA σ 67 c (Int32.ofInt n)) 6407 v) 6411 w) 6438 z).1 6408 = Int32.ofInt c := fun v w z => by rw [upS_1, if_neg (by omega), upS_1, if_neg (by omega), upS_1, if_neg (by omega), upA_1, h2]
      rw [e8, zadd]
      refine ⟨_, _, rfl, ?_, ?_, fun _ => ?_, ?_, ?_, fun p hp => ?_, ?_, fun k hk => ?_, fun k hk => ?_, fun a x y => ?_, fun j x y z w => ?_⟩
      · rw [upS_1, if_neg (by omega), upS_1, if_neg (by omega), upS_1, if_neg (by omega), upS_1, if_pos rfl]
      · rw [upS_1, if_neg (by omega), upS_1, if_neg (by omega), upS_1, if_pos rfl]
        rfl
      · rw [upS_1, if_pos rfl]
        rfl
      · rw [upS_1, if_pos rfl]
        rfl
      · rw [upS_1, if_neg (by omega), upS_1, if_pos rfl]
        rfl
      · rw [upS_2, upS_2, upS_2, upS_2, upA_ne (by omega)]
        exact h4 p (by omega)
      · rw [upS_2, upS_2, upS_2, upS_2, upA_eq, fup_at, if_pos rfl]
      · rw [upS_2, upS_2, upS_2, upS_2, upA_ne (by omega)]
      · rw [upS_2, upS_2, upS_2, upS_2, upA_eq, fup_at, if_neg (by omega)]
      · rw [upS_2, upS_2, upS_2, upS_2, upA_ne y]
      · rw [upS_1, if_neg y, upS_1, if_neg w, upS_1, if_neg z, upS_1, if_neg x]
        rfl
  | succ d ih =>
    intro i fuel σ hi hf h1 h2 h3 h4
    obtain ⟨fuel, rfl⟩ : ∃ m, fuel = m + 1 := ⟨fuel - 1, by omega⟩
    conv => enter [1, v, 1, σ', 1, 1]; unfold m_add_132_l44
    rw [h1, if_neg (zleN (by omega) (by omega) (by omega) (by omega) (by omega)), agetI (i := i) rfl (by omega) (by omega), Option.bind_some, h3 i (by omega), h2, zmul, zadd, zadd, aputI (i := 48 * c + i) (by omega) (by omega) (by omega), Option.bind_some, show ((i : Int) + 1) = ((i + 1 : Nat) : Int) by omega]
    obtain ⟨v, σ', a1, a2, a3, a4, a5, a6, a7, a8, a9, a10, a11, a12⟩ := ih (i + 1) fuel (upA σ 66 (48 * c + i) (Int32.ofInt (tx i))) (by omega) (by omega) h1 h2 (by rw [upA_ne (by omega)]; exact h3) (fun p hp => by
      rw [upA_eq, fup_at]
      by_cases e : p = i
      · subst e
        rw [if_pos rfl]
      · rw [if_neg (by omega)]
        exact h4 p (by omega))
    refine ⟨v, σ', a1, a2, a3, a4, a5, a6, a7, a8, fun k hk => by rw [a9 k hk, upA_eq, fup_at, if_neg (by omega)], fun k hk => by rw [a10 k hk, upA_ne (by omega)], fun a x y => by rw [a11 a x y, upA_ne x], fun j x y z w => by rw [a12 j x y z w]; rfl⟩
theorem MStat.old {σ σ' : qC} {cls : List Cl} {c : Nat} (h : MStat σ cls) (hc : c = cls.length) (h1 : σ'.1 6408 = Int32.ofInt c) (h66 : ∀ k, k < 48 * c → σ'.2 66 k = σ.2 66 k) (h67 : ∀ k, k < c → σ'.2 67 k = σ.2 67 k) : MStat σ' cls := by
  subst hc
  refine ⟨h1, h.2.1, fun i hi => ?_⟩
  obtain ⟨a1, a2, a3⟩ := h.2.2 i hi
  have := a3.1
  exact ⟨by rw [h67 i hi, a1], fun j hj => by rw [h66 _ (by omega), a2 j hj], a3⟩
set_option maxHeartbeats 1000000 in
theorem add_m {σ : qC} {A : As} (h : MJ σ A) (hA : AW A) : ∃ v σ', m_add_132 σ = some (v, σ') ∧ MV (aAdd A).1 fTy v σ' ∧ MJ σ' (aAdd A).2 := by
  have h' := h
  obtain ⟨h1, h2, h3, h4, h5, h6⟩ := h
  have h12 := h2.2.1
  unfold m_add_132 aAdd m_fail_131
  dsimp only [qlet]
  rw [h2.1]
  by_cases hl : A.cls.length = 12
  · rw [if_pos (by rw [hl]; rfl), if_pos hl, Option.bind_some]
    have g2 : ∀ j, j ≠ 6411 → j ≠ 6407 → (upS (upS σ 6407 (Int32.ofInt 0)) 6411 (Int32.ofInt 2)).1 j = σ.1 j := fun j x y => by rw [upS_1, if_neg x, upS_1, if_neg y]
    exact ⟨_, _, rfl, by show (upS _ 6411 _).1 6411 = _; rw [upS_1, if_pos rfl]; rfl, h'.keys (TXm.nil (by rw [upS_1, if_neg (by omega), upS_1, if_pos rfl])) (by rw [g2 _ (by omega) (by omega)]; exact h3) rfl rfl (fun _ _ => rfl) (fun j hj => g2 j (by omega) (by omega))⟩
  rw [if_neg (zeqN (by omega) (by omega) (by omega) (by omega) (by omega)), if_neg hl]
  have hP : RdP (upS σ 6410 (Int32.ofInt 0)) A.n A.tx 0 := ⟨h1.congr (by rw [upS_1, if_neg (by omega)]) rfl, by rw [upS_1, if_pos rfl]; rfl, Nat.zero_le _⟩
  obtain ⟨σ1, e1, hP1⟩ := readC_m hP
  have hw := m_readClause_133_fr (L := fun x => x ∈ _) (A := fun x => x ∈ _) (σ0 := upS σ 6410 (Int32.ofInt 0)) (fun x hx => hx) (fun x hx => hx) (upS σ 6410 (Int32.ofInt 0)) Wr.refl _ e1
  dsimp only at hw
  have f1 : ∀ j, j ≠ 6410 → σ1.1 j = σ.1 j := fun j hj => by rw [hw.1 j (by simpa using hj), upS_1, if_neg hj]
  have f2 : ∀ a, a ≠ 69 → σ1.2 a = σ.2 a := fun a ha => by rw [hw.2 a (by simpa using ha), upS_2]
  rw [e1, Option.bind_some]
  dsimp only
  by_cases hc : (pC A.tx A.n).1 = true
  · rw [if_pos hc, hc, if_neg (by decide)]
    obtain ⟨v, σ', a1, a2, a3, a4, a5, a6, a7, a8, a9, a10, a11, a12⟩ := copyL_m (b := true) (tx := A.tx) (n := A.n) (c := A.cls.length) hA.1.1 (by omega) A.n 0 qF σ1 (by omega) (by have := hA.1.1; unfold qF; omega) (by rw [f1 _ (by omega)]; exact h1.1) (by rw [f1 _ (by omega)]; exact h2.1) (by rw [f2 _ (by omega)]; exact h1.2.1) (fun p hp => by omega)
    rw [show Int32.ofInt ((0 : Nat) : Int) = Int32.ofInt 0 from rfl] at a1
    refine ⟨v, σ', a1, ⟨a4 rfl, a3⟩, TXm.nil a2, ⟨?_, ?_, fun i hi => ?_⟩, by rw [a12 _ (by omega) (by omega) (by omega) (by omega), f1 _ (by omega)]; exact h3, ⟨by rw [a12 _ (by omega) (by omega) (by omega) (by omega), f1 _ (by omega)]; exact h4.1, by rw [a12 _ (by omega) (by omega) (by omega) (by omega), f1 _ (by omega)]; exact h4.2⟩, fun _ => a6, fun q m a z => by cases z⟩
    · rw [len_app]
      exact a5
    · show (A.cls ++ [(A.tx, A.n, (pC A.tx A.n).2.2)]).length ≤ 12
      rw [len_app]
      omega
    · have hi' : i < A.cls.length + 1 := by
        have : i < (A.cls ++ [(A.tx, A.n, (pC A.tx A.n).2.2)]).length := hi
        rwa [len_app] at this
      by_cases e : i = A.cls.length
      · subst e
        rw [getD_last]
        exact ⟨a8, a7, hA.1.1, hA.1.2.1, hA.1.2.2, hc, rfl⟩
      · rw [getD_old (by omega)]
        obtain ⟨w1, w2, w3⟩ := h2.2.2 i (by omega)
        have := w3.1
        exact ⟨by rw [a10 _ (by omega), f2 _ (by omega), w1], fun j hj => by rw [a9 _ (by omega), f2 _ (by omega), w2 j hj], w3⟩
  · have hc' : (pC A.tx A.n).1 = false := by simpa using hc
    rw [if_neg hc, hc', if_pos (by decide)]
    have g9 : ∀ j, j ≠ 6409 → (upS σ1 6409 (σ1.1 6410)).1 j = σ1.1 j := fun j hj => by rw [upS_1, if_neg hj]
    obtain ⟨v, σ', a1, a2, a3, a4, a5, a6, a7, a8, a9, a10, a11, a12⟩ := copyL_m (b := false) (tx := A.tx) (n := A.n) (c := A.cls.length) hA.1.1 (by omega) A.n 0 qF (upS σ1 6409 (σ1.1 6410)) (by omega) (by have := hA.1.1; unfold qF; omega) (by rw [g9 _ (by omega), f1 _ (by omega)]; exact h1.1) (by rw [g9 _ (by omega), f1 _ (by omega)]; exact h2.1) (by rw [upS_2, f2 _ (by omega)]; exact h1.2.1) (fun p hp => by omega)
    rw [show Int32.ofInt ((0 : Nat) : Int) = Int32.ofInt 0 from rfl] at a1
    have k1 : ∀ j, j ≠ 6407 → j ≠ 6408 → j ≠ 6411 → j ≠ 6438 → j ≠ 6409 → j ≠ 6410 → σ'.1 j = σ.1 j := fun j x y z w u t => by rw [a12 j x y z w, g9 j u, f1 j t]
    have k38 : σ'.1 6438 = σ.1 6438 := by
      rw [a6]
      show (upS σ1 6409 (σ1.1 6410)).1 6438 = _
      rw [g9 _ (by omega), f1 _ (by omega)]
    have k2 : ∀ a, a ≠ 66 → a ≠ 67 → a ≠ 69 → σ'.2 a = σ.2 a := fun a x y z => by rw [a11 a x y, upS_2, f2 a z]
    have hSt : MStat σ' A.cls := h2.old rfl a5 (fun k hk => by rw [a9 k hk, upS_2, f2 _ (by omega)]) (fun k hk => by rw [a10 k hk, upS_2, f2 _ (by omega)])
    refine ⟨v, σ', a1, a3, TXm.nil a2, hSt, ?_, ⟨by rw [k1 _ (by omega) (by omega) (by omega) (by omega) (by omega) (by omega)]; exact h4.1, by rw [k1 _ (by omega) (by omega) (by omega) (by omega) (by omega) (by omega)]; exact h4.2⟩, fun z => by rw [k38]; exact h5 z, fun q m a z => ?_⟩
    · rw [a12 _ (by omega) (by omega) (by omega) (by omega), upS_1, if_pos rfl, hP1.2.1]
    · obtain ⟨b1, b2, b3, b4⟩ := h6 q m a z
      refine ⟨by rw [k38, b1], by rw [k1 _ (by omega) (by omega) (by omega) (by omega) (by omega) (by omega), b2], ?_, by rw [k2 _ (by omega) (by omega) (by omega)]; exact b4⟩
      refine ms_stat (σ := upS σ 6411 (Int32.ofInt 0)) (fun k hk => k2 k (by omega) (by omega) (by omega)) (fun j hj => ?_) (by rw [upS_1, if_pos rfl]) (hSt.congr (by rw [upS_1, if_neg (by omega)]) rfl rfl) b3
      rw [upS_1, if_neg (by omega), upS_1, if_neg (by omega), k1 j (by omega) (by omega) (by omega) (by omega) (by omega) (by omega)]
