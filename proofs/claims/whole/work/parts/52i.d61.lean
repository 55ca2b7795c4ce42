/-! D61: the class reads goals -/
/-- what reading goals leaves -/
def FrQ (σ σ' : qC) (p lo : Nat) : Prop := (∀ j, j ≠ 3203 → σ'.1 j = σ.1 j) ∧ (∀ a, a ≠ 28 → a ≠ 30 → σ'.2 a = σ.2 a) ∧ (∀ k, k ≠ 4 * p → σ'.2 30 k = σ.2 30 k) ∧ (∀ k, k < 9 * (48 * p + lo) ∨ (9 * (48 * p + 48) ≤ k ∧ k ≠ 9 * (48 * p + 48) + 5 ∧ k ≠ 9 * (48 * p + 48) + 6 ∧ k ≠ 9 * (48 * p + 48) + 7) → σ'.2 28 k = σ.2 28 k)
theorem FrQ.refl {σ : qC} {p lo : Nat} : FrQ σ σ p lo := ⟨fun _ _ => rfl, fun _ _ _ => rfl, fun _ _ => rfl, fun _ _ => rfl⟩
theorem FrQ.trans {σ σ' σ'' : qC} {p lo lo' : Nat} (h : FrQ σ σ' p lo) (g : FrQ σ' σ'' p lo') (hl : lo ≤ lo') : FrQ σ σ'' p lo :=
  ⟨fun j hj => by rw [g.1 j hj, h.1 j hj], fun a x y => by rw [g.2.1 a x y, h.2.1 a x y], fun k hk => by rw [g.2.2.1 k hk, h.2.2.1 k hk], fun k hk => by rw [g.2.2.2 k (by omega), h.2.2.2 k hk]⟩
theorem FrR.q {σ σ' : qC} {p lo : Nat} (h : FrR σ σ' p lo) : FrQ σ σ' p lo := ⟨h.1, h.2.1, h.2.2.1, fun k hk => h.2.2.2 k (by omega)⟩
theorem FrQ.up {σ : qC} {p lo : Nat} {v : Int32} : FrQ σ (upS σ 3203 v) p lo := FrR.up.q
/-- a goal is noted at node j of the page -/
theorem noteG_c {σ : qC} {p n i j : Nat} {tx : Nat → Int} {a b : Int32} (h : RdC σ p n tx i) (hj : j ≤ 48) :
    ∃ σ', c_noteGoal_45 (Int32.ofInt (48 * p + j : Nat)) a b σ = some σ' ∧ RdC σ' p n tx i ∧ σ'.1 = σ.1 ∧ (∀ c, c ≠ 28 → σ'.2 c = σ.2 c) ∧ (∀ k, σ'.2 28 k = if k = 9 * (48 * p + j) + 7 then Int32.ofInt (-1) else if k = 9 * (48 * p + j) + 6 then b else if k = 9 * (48 * p + j) + 5 then a else σ.2 28 k) := by
  obtain ⟨h1, h2, h3, h4, h5, h6, h7⟩ := h
  unfold c_noteGoal_45
  rw [tputI (i := 9 * (48 * p + j) + 5) (by omega) (by omega), Option.bind_some, tputI (i := 9 * (48 * p + j) + 6) (by omega) (by omega), Option.bind_some, tputI (i := 9 * (48 * p + j) + 7) (by omega) (by omega), Option.bind_some]
  obtain ⟨σ3, hσ3⟩ : ∃ σ3, σ3 = upA (upA (upA σ 28 (9 * (48 * p + j) + 5) a) 28 (9 * (48 * p + j) + 6) b) 28 (9 * (48 * p + j) + 7) (Int32.ofInt (-1)) := ⟨_, rfl⟩
  rw [← hσ3]
  have s1 : σ3.1 = σ.1 := by rw [hσ3]; rfl
  have sa : ∀ a, a ≠ 28 → σ3.2 a = σ.2 a := fun a ha => by rw [hσ3, upA_ne ha, upA_ne ha, upA_ne ha]
  have s28 : ∀ k, σ3.2 28 k = if k = 9 * (48 * p + j) + 7 then Int32.ofInt (-1) else if k = 9 * (48 * p + j) + 6 then b else if k = 9 * (48 * p + j) + 5 then a else σ.2 28 k := by
    intro k
    rw [hσ3, upA_eq, fup_at, upA_eq, fup_at, upA_eq, fup_at]
  refine ⟨σ3, rfl, ⟨h1.congr (by rw [s1]) (sa 26 (by omega)), by rw [s1, h2], by rw [s1, h3], h4, h5, by rw [sa 30 (by omega), h6], ?_⟩, s1, sa, s28⟩
  exact h7.congr (fun j hj => by rw [s28, if_neg (by omega), if_neg (by omega), if_neg (by omega)]) (fun j hj _ => by rw [s28, if_neg (by omega), if_neg (by omega), if_neg (by omega)])
/-- a goal that was read, at its nodes -/
def NG (B : Nat → Int32) (p : Nat) (tx : Nat → Int) (e : Nat) (g : Nat × Nat × Nat) : Prop := g.1 ≤ 5 ∧ g.2.1 < e ∧ B (9 * (48 * p + g.2.1) + 5) = Int32.ofInt (kch g.1) ∧ (g.1 ≠ 0 → NT B p tx e 6 g.2.1) ∧ (2 ≤ g.1 → g.2.1 < g.2.2 ∧ g.2.2 < e ∧ B (9 * (48 * p + g.2.1) + 6) = Int32.ofInt (48 * p + g.2.2 : Nat) ∧ NT B p tx e 6 g.2.2 ∧ (g.1 = 5 → B (9 * (48 * p + g.2.2) + 5) = Int32.ofInt 40 ∧ B (9 * (48 * p + g.2.2) + 7) = Int32.ofInt (-1)))
theorem NG.congr {B B' : Nat → Int32} {p e e' : Nat} {tx : Nat → Int} {g : Nat × Nat × Nat} (h : ∀ x, 9 * (48 * p + g.2.1) ≤ x → x < 9 * (48 * p + e) → x ≠ 9 * (48 * p + g.2.1) + 7 → B' x = B x) (he : e ≤ e') (hg : NG B p tx e g) : NG B' p tx e' g := by
  obtain ⟨h1, h2, h3, h4, h5⟩ := hg
  refine ⟨h1, by omega, by rw [h _ (by omega) (by omega) (by omega), h3], fun z => (h4 z).congr (lo := g.2.1) (fun x a b c d f => h x a b (by omega)) he (Nat.le_refl _), fun z => ?_⟩
  obtain ⟨a1, a2, a3, a4, a5⟩ := h5 z
  refine ⟨a1, by omega, by rw [h _ (by omega) (by omega) (by omega), a3], a4.congr (lo := g.2.1) (fun x a b c d f => h x a b (by omega)) he (by omega), fun w => ?_⟩
  obtain ⟨b1, b2⟩ := a5 w
  exact ⟨by rw [h _ (by omega) (by omega) (by omega), b1], by rw [h _ (by omega) (by omega) (by omega), b2]⟩
set_option maxHeartbeats 4000000 in
theorem rdG_c {σ : qC} {p n i : Nat} {tx : Nat → Int} (h : RdC σ p n tx i) :
    ∃ σ', c_readGoal_44 σ = some (bo (pG tx i).1, σ') ∧ RdC σ' p n tx (pG tx i).2.1 ∧ FrQ σ σ' p i ∧ ((pG tx i).1 = true → NG (σ'.2 28) p tx (pG tx i).2.1 (pG tx i).2.2 ∧ (pG tx i).2.2.2.1 = i ∧ σ'.2 28 (9 * (48 * p + i) + 7) = Int32.ofInt (-1)) := by
  have hn := h.1.2.2.1
  have hin := h.2.2.2.1
  have h0 := h.1.2.2.2.1
  have hr := h.1.2.2.2.2 i
  unfold c_readGoal_44
  rw [readSign_c h (by omega)]
  by_cases h33 : tx i = 33
  · have hpG : pG tx i = (true, i + 1, 0, i, i) := by
      unfold pG
      rw [if_pos h33]
    have hlt : i < n := by
      apply Classical.byContradiction
      intro z
      have := h0 i (by omega)
      omega
    rw [if_pos h33, Option.bind_some, if_neg (by show ¬ Int32.ofInt 1 = 0; decide), node_c h]
    obtain ⟨σ1, a1, a2, a3, a4, a5⟩ := noteG_c (a := Int32.ofInt 33) (b := Int32.ofInt (-1)) (h.up (by omega) (by omega)) (show i ≤ 48 by omega)
    rw [a1, Option.bind_some, hpG]
    refine ⟨σ1, rfl, a2, ⟨fun j hj => by rw [a3, upS_1, if_neg hj], fun a x y => by rw [a4 a x, upS_2], fun k _ => by rw [a4 30 (by omega), upS_2], fun k hk => by rw [a5, if_neg (by omega), if_neg (by omega), if_neg (by omega), upS_2]⟩, fun _ => ⟨⟨by dsimp only; omega, by dsimp only; omega, by dsimp only; rw [a5, if_neg (by omega), if_neg (by omega), if_pos rfl]; rfl, fun z => absurd rfl z, fun z => absurd z (by dsimp only; omega)⟩, rfl, by rw [a5, if_pos rfl]⟩⟩
  rw [if_neg h33, Option.bind_some, if_pos (by show Int32.ofInt 0 = 0; decide)]
  dsimp only
  obtain ⟨σ1, e1, hP1, f1, nt1⟩ := rdT_c 6 i 1 8 σ h (by omega) (by omega)
  rw [show Int32.ofInt ((1 : Nat) : Int) = Int32.ofInt 1 from rfl] at e1
  rw [e1, Option.bind_some, node_c h]
  have hpl := pT_place h0 6 i hin
  have h6e := h.1.2.2.2.2 (pT tx 6 i).2.1
  have h6f := h.1.2.2.2.2 ((pT tx 6 i).2.1 + 1)
  by_cases hT : (pT tx 6 i).1 = true
  · rw [hT, if_neg (by show ¬ Int32.ofInt 1 = 0; decide)]
    dsimp only
    have hends := pT_ends 6 i hT
    have hNT1 := nt1 hT
    rw [hP1.2.2.1, at_c hP1.1 (by omega)]
    have hup : tx (pT tx 6 i).2.1 ≠ 0 → ¬ isCa (tx (pT tx 6 i).2.1) → RdC (upS σ1 3203 (Int32.ofInt ((pT tx 6 i).2.1 + 1 : Nat))) p n tx ((pT tx 6 i).2.1 + 1) := by
      intro hz hc
      refine hP1.up ?_ hc
      apply Classical.byContradiction
      intro z
      exact hz (h0 _ (by omega))
    have two : ∀ (c : Int) (kd : Nat), (c = 61 ∧ kd = 2 ∨ c = 126 ∧ kd = 3 ∨ c = 60 ∧ kd = 4) → tx (pT tx 6 i).2.1 = c → pG tx i = ((pT tx 6 ((pT tx 6 i).2.1 + 1)).1, (pT tx 6 ((pT tx 6 i).2.1 + 1)).2.1, kd, i, (pT tx 6 i).2.1 + 1) →
        ∃ σ', (c_noteGoal_45 (Int32.ofInt (48 * p + i : Nat)) (Int32.ofInt c) (c_node_37 (upS σ1 3203 (Int32.ofInt ((pT tx 6 i).2.1 : Nat) + Int32.ofInt 1))) (upS σ1 3203 (Int32.ofInt ((pT tx 6 i).2.1 : Nat) + Int32.ofInt 1))).bind (fun p10 => (c_readTerm_34 8 (Int32.ofInt 1) p10).bind (fun p12 => if p12.1 = 0 ∨ p12.1 = 1 then some (p12.1, p12.2) else none)) = some (bo (pG tx i).1, σ') ∧ RdC σ' p n tx (pG tx i).2.1 ∧ FrQ σ σ' p i ∧ ((pG tx i).1 = true → NG (σ'.2 28) p tx (pG tx i).2.1 (pG tx i).2.2 ∧ (pG tx i).2.2.2.1 = i ∧ σ'.2 28 (9 * (48 * p + i) + 7) = Int32.ofInt (-1)) := by
      intro c kd hc he hg
      have hP2 := hup (by omega) (by omega)
      rw [zadd, show ((((pT tx 6 i).2.1 : Nat) : Int) + 1) = (((pT tx 6 i).2.1 + 1 : Nat) : Int) by omega, node_c hP2]
      obtain ⟨σ2, a1, a2, a3, a4, a5⟩ := noteG_c (a := Int32.ofInt c) (b := Int32.ofInt (48 * p + ((pT tx 6 i).2.1 + 1) : Nat)) hP2 (show i ≤ 48 by omega)
      rw [a1, Option.bind_some]
      obtain ⟨σ3, e3, hP3, f3, nt3⟩ := rdT_c 6 ((pT tx 6 i).2.1 + 1) 1 8 σ2 a2 (by omega) (by omega)
      have hpl2 := pT_place h0 6 ((pT tx 6 i).2.1 + 1) hP2.2.2.2.1
      rw [show Int32.ofInt ((1 : Nat) : Int) = Int32.ofInt 1 from rfl] at e3
      rw [e3, Option.bind_some, if_pos (bo01 _), hg]
      have fr2 : FrQ σ1 σ2 p i := ⟨fun j hj => by rw [a3, upS_1, if_neg hj], fun a x y => by rw [a4 a x, upS_2], fun k _ => by rw [a4 30 (by omega), upS_2], fun k hk => by rw [a5, if_neg (by omega), if_neg (by omega), if_neg (by omega), upS_2]⟩
      refine ⟨σ3, rfl, hP3, (f1.q.trans fr2 (Nat.le_refl _)).trans f3.q (by omega), fun z => ⟨⟨by dsimp only; omega, by dsimp only; omega, ?_, fun _ => ?_, fun _ => ⟨by dsimp only; omega, ?_, ?_, nt3 z, fun w => absurd w (by dsimp only; omega)⟩⟩, rfl, ?_⟩⟩
      · dsimp only
        rw [f3.2.2.2 _ (by omega), a5, if_neg (by omega), if_neg (by omega), if_pos rfl]
        rcases hc with ⟨rfl, rfl⟩ | ⟨rfl, rfl⟩ | ⟨rfl, rfl⟩ <;> rfl
      · exact hNT1.congr (lo := i) (fun x x1 x2 x3 x4 x5 => by rw [f3.2.2.2 _ (by omega), a5, if_neg (by omega), if_neg (by omega), if_neg (by omega), upS_2]) (by dsimp only; omega) (Nat.le_refl _)
      · have := pT_ends 6 ((pT tx 6 i).2.1 + 1) z
        dsimp only
        omega
      · dsimp only
        rw [f3.2.2.2 _ (by omega), a5, if_neg (by omega), if_pos rfl]
      · rw [f3.2.2.2 _ (by omega), a5, if_pos rfl]
    have hN : ¬ (pT tx 6 i).1 = false := by rw [hT]; simp
    by_cases h61 : tx (pT tx 6 i).2.1 = 61
    · rw [h61, if_pos rfl]
      exact two 61 2 (Or.inl ⟨rfl, rfl⟩) h61 (by unfold pG; rw [if_neg h33, if_neg hN, if_pos h61])
    rw [if_neg (zeqN h61 (by omega) (by omega) (by omega) (by omega))]
    by_cases h126 : tx (pT tx 6 i).2.1 = 126
    · rw [h126, if_pos rfl]
      exact two 126 3 (Or.inr (Or.inl ⟨rfl, rfl⟩)) h126 (by unfold pG; rw [if_neg h33, if_neg hN, if_neg h61, if_pos h126])
    rw [if_neg (zeqN h126 (by omega) (by omega) (by omega) (by omega))]
    by_cases h60 : tx (pT tx 6 i).2.1 = 60
    · rw [h60, if_pos rfl]
      exact two 60 4 (Or.inr (Or.inr ⟨rfl, rfl⟩)) h60 (by unfold pG; rw [if_neg h33, if_neg hN, if_neg h61, if_neg h126, if_pos h60])
    rw [if_neg (zeqN h60 (by omega) (by omega) (by omega) (by omega))]
    by_cases h63 : tx (pT tx 6 i).2.1 = 63
    · have hP2 := hup (by omega) (by omega)
      rw [h63, if_pos rfl]
      dsimp only [qlet]
      rw [zadd, show ((((pT tx 6 i).2.1 : Nat) : Int) + 1) = (((pT tx 6 i).2.1 + 1 : Nat) : Int) by omega, node_c hP2]
      obtain ⟨σ2, a1, a2, a3, a4, a5⟩ := noteG_c (a := Int32.ofInt 63) (b := Int32.ofInt (48 * p + ((pT tx 6 i).2.1 + 1) : Nat)) hP2 (show i ≤ 48 by omega)
      rw [a1, Option.bind_some, node_c a2]
      have hi2 := a2.2.2.2.1
      obtain ⟨σ3, b1, b2, b3, b4, b5⟩ := noteG_c (a := Int32.ofInt 40) (b := Int32.ofInt (-1)) a2 (show (pT tx 6 i).2.1 + 1 ≤ 48 by omega)
      rw [b1, Option.bind_some, b2.2.2.1, at_c b2.1 (by omega), small_c h6f]
      have fr2 : FrQ σ1 σ2 p i := ⟨fun j hj => by rw [a3, upS_1, if_neg hj], fun a x y => by rw [a4 a x, upS_2], fun k _ => by rw [a4 30 (by omega), upS_2], fun k hk => by rw [a5, if_neg (by omega), if_neg (by omega), if_neg (by omega), upS_2]⟩
      have fr3 : FrQ σ2 σ3 p i := ⟨fun j hj => by rw [b3], fun a x y => b4 a x, fun k _ => by rw [b4 30 (by omega)], fun k hk => by rw [b5, if_neg (by omega), if_neg (by omega), if_neg (by omega)]⟩
      have fr : FrQ σ σ3 p i := (f1.q.trans fr2 (Nat.le_refl _)).trans fr3 (Nat.le_refl _)
      by_cases hsm : isSm (tx ((pT tx 6 i).2.1 + 1))
      · have hg : pG tx i = ((pT tx 6 ((pT tx 6 i).2.1 + 1)).1, (pT tx 6 ((pT tx 6 i).2.1 + 1)).2.1, 5, i, (pT tx 6 i).2.1 + 1) := by
          unfold pG
          rw [if_neg h33, if_neg hN, if_neg h61, if_neg h126, if_neg h60, if_pos h63, if_pos hsm]
        rw [if_pos hsm, if_neg (by decide)]
        obtain ⟨σ4, e4, hP4, f4, nt4⟩ := rdT_c 6 ((pT tx 6 i).2.1 + 1) 1 8 σ3 b2 (by omega) (by omega)
        have hpl2 := pT_place h0 6 ((pT tx 6 i).2.1 + 1) hP2.2.2.2.1
        rw [show Int32.ofInt ((1 : Nat) : Int) = Int32.ofInt 1 from rfl] at e4
        rw [e4, Option.bind_some, hg]
        refine ⟨σ4, ?_, hP4, fr.trans f4.q (by omega), fun z => ⟨⟨by dsimp only; omega, by dsimp only; omega, ?_, fun _ => ?_, fun _ => ⟨by dsimp only; omega, ?_, ?_, nt4 z, fun _ => ⟨?_, ?_⟩⟩⟩, rfl, ?_⟩⟩
        · cases (pT tx 6 ((pT tx 6 i).2.1 + 1)).1 <;> rfl
        · dsimp only
          rw [f4.2.2.2 _ (by omega), b5, if_neg (by omega), if_neg (by omega), if_neg (by omega), a5, if_neg (by omega), if_neg (by omega), if_pos rfl]
          rfl
        · exact hNT1.congr (lo := i) (fun x x1 x2 x3 x4 x5 => by rw [f4.2.2.2 _ (by omega), b5, if_neg (by omega), if_neg (by omega), if_neg (by omega), a5, if_neg (by omega), if_neg (by omega), if_neg (by omega), upS_2]) (by dsimp only; omega) (Nat.le_refl _)
        · have := pT_ends 6 ((pT tx 6 i).2.1 + 1) z
          dsimp only
          omega
        · dsimp only
          rw [f4.2.2.2 _ (by omega), b5, if_neg (by omega), if_neg (by omega), if_neg (by omega), a5, if_neg (by omega), if_pos rfl]
        · dsimp only
          rw [f4.2.2.2 _ (by omega), b5, if_neg (by omega), if_neg (by omega), if_pos rfl]
        · dsimp only
          rw [f4.2.2.2 _ (by omega), b5, if_pos rfl]
        · rw [f4.2.2.2 _ (by omega), b5, if_neg (by omega), if_neg (by omega), if_neg (by omega), a5, if_pos rfl]
      · have hg : pG tx i = (false, (pT tx 6 i).2.1 + 1, 0, 0, 0) := by
          unfold pG
          rw [if_neg h33, if_neg hN, if_neg h61, if_neg h126, if_neg h60, if_pos h63, if_neg hsm]
        rw [if_neg hsm, if_pos (by decide), hg]
        exact ⟨σ3, rfl, b2, fr, fun z => absurd z (by show ¬ false = true; simp)⟩
    rw [if_neg (zeqN h63 (by omega) (by omega) (by omega) (by omega)), h.2.2.1, at_c h.1 (by omega), small_c hr]
    have hg : pG tx i = (decide (isSm (tx i)), (pT tx 6 i).2.1, 1, i, i) := by
      unfold pG
      rw [if_neg h33, if_neg hN, if_neg h61, if_neg h126, if_neg h60, if_neg h63]
    obtain ⟨σ2, a1, a2, a3, a4, a5⟩ := noteG_c (a := Int32.ofInt 40) (b := Int32.ofInt (-1)) hP1 (show i ≤ 48 by omega)
    rw [a1, Option.bind_some, hg]
    have fr2 : FrQ σ1 σ2 p i := ⟨fun j hj => by rw [a3], fun a x y => a4 a x, fun k _ => by rw [a4 30 (by omega)], fun k hk => by rw [a5, if_neg (by omega), if_neg (by omega), if_neg (by omega)]⟩
    refine ⟨σ2, ?_, a2, f1.q.trans fr2 (Nat.le_refl _), fun z => ⟨⟨by dsimp only; omega, by dsimp only; omega, ?_, fun _ => ?_, fun w => absurd w (by dsimp only; omega)⟩, rfl, ?_⟩⟩
    · by_cases hsm : isSm (tx i)
      · rw [if_pos hsm, if_pos (by decide)]
        dsimp only
        rw [decide_eq_true hsm]
        rfl
      · rw [if_neg hsm, if_pos (by decide)]
        dsimp only
        rw [decide_eq_false hsm]
        rfl
    · dsimp only
      rw [a5, if_neg (by omega), if_neg (by omega), if_pos rfl]
      rfl
    · exact hNT1.congr (lo := i) (fun x x1 x2 x3 x4 x5 => by rw [a5, if_neg (by omega), if_neg (by omega), if_neg (by omega)]) (by dsimp only; omega) (Nat.le_refl _)
    · rw [a5, if_pos rfl]
  · have hT' : (pT tx 6 i).1 = false := by simpa using hT
    have hg : pG tx i = (false, (pT tx 6 i).2.1, 0, 0, 0) := by
      unfold pG
      rw [if_neg h33, if_pos hT']
    rw [hT', if_pos (by show Int32.ofInt 0 = 0; decide), hg]
    exact ⟨σ1, rfl, hP1, f1.q, fun z => absurd z (by show ¬ false = true; simp)⟩
