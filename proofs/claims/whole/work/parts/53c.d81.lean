/-! D81: the reference writes; its letters -/
theorem MTx.vlt2 {G C A : Nat → Int32} {nv nc : Nat} {t : Int} {T : Tr} (h : MTx G C A nv nc t T) (hl : lab T < 0) : vnum T < nv := by
  rcases h.cases with ⟨a, b, c⟩ | ⟨a, b, n, -, -, s, hs, -, e, -⟩
  · rw [c, vnum_var]
    omega
  · omega
set_option maxHeartbeats 2000000 in
theorem writeL_m {nv nc : Nat} {b : Bd} {bi : Nat → Int} : ∀ (N n k fuel : Nat) (l : List It) (σ : qC), n ≤ N → k + n = 80 → n < fuel → HWm σ nv nc b bi → RWm σ nv nc l → σ.1 6463 = Int32.ofInt k → l.length + 6 * n ≤ 700 →
    ∃ σ', m_write_170_l14 fuel (Int32.ofInt l.length) σ = some σ' ∧ σ'.1 6463 = Int32.ofInt (k + (wA nv b n l).length : Nat) ∧ (∀ t, t < k → σ'.2 103 t = σ.2 103 t) ∧ (∀ t, t < (wA nv b n l).length → σ'.2 103 (k + t) = Int32.ofInt ((wA nv b n l).getD t 0)) ∧ FrWm σ σ' := by
  intro N
  induction N with
  | zero =>
    intro n k fuel l σ hN hk hf hH hR h63 hl
    obtain ⟨fuel, rfl⟩ : ∃ m, fuel = m + 1 := ⟨fuel - 1, by omega⟩
    have : n = 0 := by omega
    subst this
    have e : m_write_170_l14 (fuel + 1) (Int32.ofInt l.length) σ = some σ := by
      unfold m_write_170_l14
      rw [h63]
      split
      · rfl
      · rw [if_pos (zleP (by omega) (by omega) (by omega) (by omega) (by omega))]
    rw [e]
    exact ⟨σ, rfl, h63, fun _ _ => rfl, fun t ht => absurd ht (by show ¬ t < 0; omega), fun _ _ => rfl, fun _ _ _ => rfl⟩
  | succ N ih =>
    intro n k fuel l σ hN hk hf hH hR h63 hl
    obtain ⟨fuel, rfl⟩ : ∃ m, fuel = m + 1 := ⟨fuel - 1, by omega⟩
    cases n with
    | zero =>
      have e : m_write_170_l14 (fuel + 1) (Int32.ofInt l.length) σ = some σ := by
        unfold m_write_170_l14
        rw [h63]
        split
        · rfl
        · rw [if_pos (zleP (by omega) (by omega) (by omega) (by omega) (by omega))]
      rw [e]
      exact ⟨σ, rfl, h63, fun _ _ => rfl, fun t ht => absurd ht (by show ¬ t < 0; omega), fun _ _ => rfl, fun _ _ _ => rfl⟩
    | succ n =>
      cases l with
      | nil =>
        have e : m_write_170_l14 (fuel + 1) (Int32.ofInt ([] : List It).length) σ = some σ := by
          unfold m_write_170_l14
          rw [if_pos (by decide)]
        rw [e]
        exact ⟨σ, rfl, h63, fun _ _ => rfl, fun t ht => absurd ht (by show ¬ t < 0; omega), fun _ _ => rfl, fun _ _ _ => rfl⟩
      | cons it l =>
        rw [List.length_cons] at hl ⊢
        obtain ⟨o, ho⟩ : ∃ o, o = m_write_170_l14 (fuel + 1) (Int32.ofInt (l.length + 1 : Nat)) σ := ⟨_, rfl⟩
        rw [← ho]
        unfold m_write_170_l14 at ho
        rw [z0, if_neg (zleN (by omega) (by omega) (by omega) (by omega) (by omega)), h63, if_neg (zleN (by omega) (by omega) (by omega) (by omega) (by omega)), zadd, show ((l.length + 1 : Nat) : Int) + -1 = (l.length : Nat) by omega, agetI (i := l.length) rfl (by omega) (by omega), Option.bind_some] at ho
        -- one character, then the rest
        have one : ∀ (c : Int), (∀ m, wA nv b (m + 1) (it :: l) = c :: wA nv b m l) → RWm σ nv nc l → o = (m_put_171 (Int32.ofInt c) σ).bind (fun p => m_write_170_l14 fuel (Int32.ofInt l.length) p) → ∃ σ', o = some σ' ∧ σ'.1 6463 = Int32.ofInt (k + (wA nv b (n + 1) (it :: l)).length : Nat) ∧ (∀ t, t < k → σ'.2 103 t = σ.2 103 t) ∧ (∀ t, t < (wA nv b (n + 1) (it :: l)).length → σ'.2 103 (k + t) = Int32.ofInt ((wA nv b (n + 1) (it :: l)).getD t 0)) ∧ FrWm σ σ' := by
          intro c hw hR1 hoo
          obtain ⟨σ1, p1, -, p3, p4, p5⟩ := put_m (c := Int32.ofInt c) h63 (by omega)
          obtain ⟨p6, p7⟩ := p3 (by omega)
          rw [p1, Option.bind_some] at hoo
          obtain ⟨σ', a1, a2, a3, a4, a5⟩ := ih n (k + 1) fuel l σ1 (by omega) (by omega) (by omega) (hH.fr p4) (hR1.congr (fun a ha => p4.2 a (by omega) (by omega)) (fun i _ => by rw [p5])) p6 (by omega)
          rw [hw n, List.length_cons]
          refine ⟨σ', hoo.trans a1, by rw [a2, show k + 1 + (wA nv b n l).length = k + ((wA nv b n l).length + 1) by omega], fun t ht => by rw [a3 t (by omega), p7, fup_at, if_neg (by omega)], fun t ht => ?_, p4.trans a5⟩
          cases t with
          | zero => rw [Nat.add_zero, a3 k (by omega), p7, fup_at, if_pos rfl]; rfl
          | succ t =>
            rw [show k + (t + 1) = k + 1 + t by omega, a4 t (by omega)]
            rfl
        cases it with
        | inl c =>
          obtain ⟨⟨h1, h2⟩, h4⟩ := hR
          rw [h1, if_neg (zltN (by omega) (by omega) (by omega) (by omega) (by omega)), zsub, show 100000 + c - 100000 = c by omega] at ho
          exact one c (fun m => rfl) h4 ho
        | inr T =>
          obtain ⟨⟨t, h1, h2⟩, h4⟩ := hR
          have htr : t < 24000 ∧ -13001 ≤ t := by
            have hnv := hH.1
            have hnc := hH.2.1
            rcases h2.cases with ⟨x1, x2, -⟩ | ⟨x1, x2, -⟩ <;> omega
          rw [h1, if_pos (zltP (by omega) (by omega) (by omega) (by omega) (by omega))] at ho
          obtain ⟨t', v1, v2, -⟩ := value_m hH.1 hH.2.1 hH.2.2.1 hH.2.2.2 h2 (fun z => by have := h2.vlt2 z; omega)
          rw [v1, Option.bind_some] at ho
          have hnv := hH.1
          have hnc := hH.2.1
          rcases v2.cases with ⟨x1, x2, x3⟩ | ⟨x1, x2, a, ha, x3, s, hs, x4, x5, x6, x7⟩
          · have hneg : ¬ Int32.ofInt 0 ≤ Int32.ofInt t' := zleN (by omega) (by omega) (by omega) (by omega) (by omega)
            have hlt : Int32.ofInt t' < Int32.ofInt 0 := zltP (by omega) (by omega) (by omega) (by omega) (by omega)
            rw [if_neg hneg] at ho
            refine one 95 (fun m => ?_) h4 ?_
            · conv => lhs; unfold wA
              rw [if_pos (by rw [x3, lab_var]; omega)]
            · rw [ho]
              congr 1
              funext p
              rw [if_pos hlt]
          · have hpos : Int32.ofInt 0 ≤ Int32.ofInt t' := zleP (by omega) (by omega) (by omega) (by omega) (by omega)
            have hlt : ¬ Int32.ofInt t' < Int32.ofInt 0 := zltN (by omega) (by omega) (by omega) (by omega) (by omega)
            have hlab : ¬ lab (fnd (nv + 1) b T) < 0 := by omega
            rw [if_pos hpos, agetI (i := t'.toNat) (by omega) (by omega) (by omega), Option.bind_some, x4] at ho
            by_cases ha0 : a = 0
            · refine one s (fun m => ?_) h4 ?_
              · conv => lhs; unfold wA
                rw [if_neg hlab, if_pos (by rw [x6]; exact ha0), x5]
              · obtain ⟨σ1, p1, -, p3, p4, p5⟩ := put_m (c := Int32.ofInt s) h63 (by omega)
                rw [p1, Option.bind_some] at ho ⊢
                rw [if_neg hlt, agetI (i := t'.toNat) (by omega) (by omega) (by omega), Option.bind_some, p4.2 _ (by omega) (by omega), x3, if_pos (by rw [ha0]; rfl)] at ho
                exact ho
            · obtain ⟨σ1, p1, -, p3, p4, p5⟩ := put_m (c := Int32.ofInt s) h63 (by omega)
              obtain ⟨p6, p7⟩ := p3 (by omega)
              rw [p1, Option.bind_some] at ho
              rw [if_neg hlt, agetI (i := t'.toNat) (by omega) (by omega) (by omega), Option.bind_some, p4.2 _ (by omega) (by omega), x3, if_neg (zeqN (by omega) (by omega) (by omega) (by omega) (by omega))] at ho
              obtain ⟨σ2, q1, q2, q3, q4, q5⟩ := put_m (c := Int32.ofInt 40) p6 (by omega)
              rw [q1, Option.bind_some, aputI (i := l.length) rfl (by omega) (by omega), Option.bind_some] at ho
              obtain ⟨σ3, hσ3⟩ : ∃ σ3, σ3 = upA σ2 104 l.length (Int32.ofInt 100041) := ⟨_, rfl⟩
              rw [← hσ3] at ho
              have f3 : FrWm σ2 σ3 := ⟨fun j _ => by rw [hσ3]; rfl, fun a x y => by rw [hσ3, upA_ne y]⟩
              have fr3 := (p4.trans q4).trans f3
              rw [agetI (i := t'.toNat) (by omega) (by omega) (by omega), Option.bind_some, fr3.2 _ (by omega) (by omega), x3, zsub, zadd, show ((l.length : Nat) : Int) + 1 = ((l.length + 1 : Nat) : Int) by omega] at ho
              have hR3 : RWm σ3 nv nc (.inl 41 :: l) := ⟨⟨by rw [hσ3, upA_eq, fup_at, if_pos rfl]; rfl, by omega, by omega⟩, h4.congr (fun a ha => fr3.2 a (by omega) (by omega)) (fun i hi => by rw [hσ3, upA_eq, fup_at, if_neg (by omega), q5, p5])⟩
              obtain ⟨σ4, r1, r2, r3, r4, r5⟩ := argsL_m (K := m_write_170_l14 fuel) (t := t') (R := fnd (nv + 1) b T) hnc ⟨x1, x2⟩ a qF (.inl 41 :: l) σ3 hR3 ha (by unfold qF; omega) (by rw [List.length_cons]; omega) (fun i hi => by
                obtain ⟨m, y1, y2⟩ := x7 i hi
                exact ⟨m, by rw [fr3.2 _ (by omega) (by omega), y1], by rw [fr3.2 _ (by omega) (by omega), fr3.2 _ (by omega) (by omega), fr3.2 _ (by omega) (by omega)]; exact y2⟩)
              rw [List.length_cons] at r1 r3
              rw [r1] at ho
              have f4 : FrWm σ3 σ4 := ⟨fun j _ => by rw [r4], fun a x y => r5 a y⟩
              have fr4 := fr3.trans f4
              obtain ⟨a', rfl⟩ : ∃ a', a = a' + 1 := ⟨a - 1, by omega⟩
              have hwA : ∀ m, wA nv b (m + 1) (.inr T :: l) = s :: wA nv b m (.inl 40 :: arM (fnd (nv + 1) b T) (a' + 1) (.inl 41 :: l)) := fun m => by
                conv => lhs; unfold wA
                rw [if_neg hlab, x6, if_neg (by omega), arI_M, x5]
              rw [hwA n, List.length_cons]
              cases n with
              | zero =>
                have e80 : σ4.1 6463 = Int32.ofInt (80 : Nat) := by
                  rw [r4, hσ3, upA_1, q2 (by omega), p6, show k + 1 = 80 by omega]
                have e103 : σ4.2 103 = σ1.2 103 := by rw [r5 _ (by omega), hσ3, upA_ne (by omega), q2 (by omega)]
                obtain ⟨σ', a1, a2, a3, a4, a5⟩ := ih 0 80 fuel (arM (fnd (nv + 1) b T) (a' + 1) (.inl 41 :: l)) σ4 (by omega) (by omega) (by omega) (hH.fr fr4) r2 e80 (by omega)
                refine ⟨σ', ho.trans a1, by rw [a2]; show _ = Int32.ofInt (k + (0 + 1) : Nat); rw [show k + (0 + 1) = 80 + 0 by omega]; rfl, fun t ht => by rw [a3 t (by omega), e103, p7, fup_at, if_neg (by omega)], fun t ht => ?_, fr4.trans a5⟩
                have : t = 0 := by
                  have h' : t < 0 + 1 := ht
                  omega
                subst this
                rw [Nat.add_zero, a3 k (by omega), e103, p7, fup_at, if_pos rfl]
                rfl
              | succ n =>
                obtain ⟨q6, q7⟩ := q3 (by omega)
                have e82 : σ4.1 6463 = Int32.ofInt (k + 1 + 1 : Nat) := by rw [r4, hσ3, upA_1, q6]
                have e103 : σ4.2 103 = fup (fup (σ.2 103) k (Int32.ofInt s)) (k + 1) (Int32.ofInt 40) := by rw [r5 _ (by omega), hσ3, upA_ne (by omega), q7, p7]
                obtain ⟨σ', a1, a2, a3, a4, a5⟩ := ih n (k + 1 + 1) fuel (arM (fnd (nv + 1) b T) (a' + 1) (.inl 41 :: l)) σ4 (by omega) (by omega) (by omega) (hH.fr fr4) r2 e82 (by omega)
                have hw2 : wA nv b (n + 1) (.inl 40 :: arM (fnd (nv + 1) b T) (a' + 1) (.inl 41 :: l)) = 40 :: wA nv b n (arM (fnd (nv + 1) b T) (a' + 1) (.inl 41 :: l)) := rfl
                rw [hw2, List.length_cons]
                refine ⟨σ', ho.trans a1, by rw [a2, show k + 1 + 1 + (wA nv b n (arM (fnd (nv + 1) b T) (a' + 1) (.inl 41 :: l))).length = k + ((wA nv b n (arM (fnd (nv + 1) b T) (a' + 1) (.inl 41 :: l))).length + 1 + 1) by omega], fun t ht => by rw [a3 t (by omega), e103, fup_at, if_neg (by omega), fup_at, if_neg (by omega)], fun t ht => ?_, fr4.trans a5⟩
                rcases t with _ | _ | t
                · rw [Nat.add_zero, a3 k (by omega), e103, fup_at, if_neg (by omega), fup_at, if_pos rfl]
                  rfl
                · rw [a3 _ (by omega), e103, fup_at, if_pos (by omega)]
                  rfl
                · rw [show k + (t + 1 + 1) = k + 1 + 1 + t by omega, a4 t (by omega)]
                  rfl
theorem write_m {σ : qC} {nv nc v : Nat} {b : Bd} {bi : Nat → Int} (hH : HWm σ nv nc b bi) (hv : v < nv) :
    ∃ σ', m_write_170 (Int32.ofInt (-1 - (v : Int))) σ = some σ' ∧ σ'.1 6463 = Int32.ofInt (wA nv b 80 [.inr (trVar v)]).length ∧ (∀ t, t < (wA nv b 80 [.inr (trVar v)]).length → σ'.2 103 t = Int32.ofInt ((wA nv b 80 [.inr (trVar v)]).getD t 0)) ∧ FrWm σ σ' := by
  unfold m_write_170
  dsimp only [qlet]
  rw [aputI (i := 0) (a := 0) (by omega) (by omega) (by omega), Option.bind_some]
  obtain ⟨σ1, hσ1⟩ : ∃ σ1, σ1 = upA (upS σ 6463 (Int32.ofInt 0)) 104 0 (Int32.ofInt (-1 - (v : Int))) := ⟨_, rfl⟩
  rw [← hσ1]
  have f1 : FrWm σ σ1 := ⟨fun j hj => by rw [hσ1, upA_1, upS_1, if_neg hj], fun a x y => by rw [hσ1, upA_ne y, upS_2]⟩
  obtain ⟨σ', a1, a2, a3, a4, a5⟩ := writeL_m 80 80 0 qF [.inr (trVar v)] σ1 (by omega) (by omega) (by unfold qF; omega) (hH.fr f1) ⟨⟨_, by rw [hσ1, upA_eq, fup_at]; exact if_pos rfl, MTx.var hv⟩, trivial⟩ (by rw [hσ1, upA_1, upS_1, if_pos rfl]; rfl) (by simp)
  rw [Nat.zero_add] at a2
  exact ⟨σ', a1, a2, fun t ht => by rw [← a4 t ht, Nat.zero_add], f1.trans a5⟩
def fLe (c : Nat) : Int := if c = 12 then 1 else 2
theorem letter_m {σ : qC} {A : As} {i j : Int} (hi : -2147483648 ≤ i ∧ i < 2147483648) (hj : -2147483648 ≤ j ∧ j < 2147483648) (h : MJ σ A) (hA : AW A) : ∃ v σ', m_letter_169 (Int32.ofInt i) (Int32.ofInt j) σ = some (v, σ') ∧ MV (aLetter i j A) fLe v σ' ∧ MJ σ' A := by
  have h' := h
  obtain ⟨h1, h2, h3, h4, h5, h6⟩ := h
  unfold m_letter_169 aLetter m_bad_130 m_fail_131
  rw [in_ok (by omega) (by omega) (by omega)]
  have g : ∀ v j, j ≠ 6411 → (upS σ 6411 v).1 j = σ.1 j := fun v j hj => by rw [upS_1, if_neg hj]
  have hJ : ∀ v, MJ (upS σ 6411 v) A := fun v => h'.keys (h1.congr (g _ _ (by omega)) rfl) (by rw [g _ _ (by omega)]; exact h3) rfl rfl (fun _ _ => rfl) (fun j hj => g _ j (by omega))
  have again : ∀ (τ : qC) v, MJ τ A → MJ (upS τ 6411 v) A := fun τ v hτ => hτ.keys (hτ.1.congr (by rw [upS_1, if_neg (by omega)]) rfl) (by rw [upS_1, if_neg (by omega)]; exact hτ.2.2.1) rfl rfl (fun _ _ => rfl) (fun j hj => by rw [upS_1, if_neg (by omega)])
  have e11 : ∀ (τ : qC) v, (upS τ 6411 v).1 6411 = v := fun τ v => by rw [upS_1, if_pos rfl]
  by_cases hn : 0 ≤ i ∧ i < 26
  · rw [if_pos (show (0 : Int) ≤ i ∧ i ≤ 25 by omega), if_neg (by decide), if_pos hn]
    dsimp only [qlet]
    rw [Option.bind_some, if_pos (by rfl)]
    dsimp only
    rw [g _ _ (by omega)]
    cases hq : A.q with
    | none =>
      rw [h5 hq, if_pos (by decide)]
      exact ⟨_, _, rfl, e11 _ _, again _ _ (hJ _)⟩
    | some x =>
      obtain ⟨q, m, a⟩ := x
      obtain ⟨b1, b2, b3, b4⟩ := h6 q m a hq
      obtain ⟨w1, w2, w3⟩ := hA.2.2.2.2 q m a hq
      rw [b1, if_neg (by decide), agetI (i := i.toNat) (by omega) (by omega) (by omega), Option.bind_some, upS_2, b4 _ (by omega), show (65 + ((i.toNat : Nat) : Int)) = 65 + i by omega]
      dsimp only
      by_cases ho : occ q.1 q.2.1 (65 + i) = true
      · have hrk : rnk q.1 q.2.1 i.toNat < clNv q := by
          obtain ⟨p, p1, p2⟩ := occ_iff.mp ho
          have := rnk_lt p1 (show isCa (q.1 p) by omega)
          rw [p2, show (65 + i - 65).toNat = i.toNat by omega] at this
          exact this
        have hnv := w2.nv
        rw [if_pos ho, if_pos ho, if_pos (by rw [z0]; exact zleP (by omega) (by omega) (by omega) (by omega) (by omega)), Option.bind_some, zsub]
        obtain ⟨W, t, na, nc, ng, a1, ⟨m1, m2, m3, m4, m5, m6, m7⟩, a3, a4, -⟩ := b3
        have hnv13 := m1.2.2.2.2.2.1
        obtain ⟨σ1, g1, g2, g3, g4⟩ := write_m (σ := upS σ 6411 (Int32.ofInt 0)) (v := rnk q.1 q.2.1 i.toNat) ⟨hnv13, m6, m4, m2.RV m1⟩ (by have := w3.1; omega)
        rw [g1, Option.bind_some]
        have hJ1 : MJ σ1 A := (hJ (Int32.ofInt 0)).keys ((hJ (Int32.ofInt 0)).1.congr (g4.1 _ (by omega)) (g4.2 _ (by omega) (by omega))) (by rw [g4.1 _ (by omega)]; exact (hJ (Int32.ofInt 0)).2.2.1) rfl rfl (fun a ha => g4.2 a (by omega) (by omega)) (fun j hj => g4.1 j (by omega))
        have e1 : σ1.1 6411 = Int32.ofInt 0 := by rw [g4.1 _ (by omega), e11]
        have hlen := wA_len (nv := m.2.2.1.1) (b := m.2.2.1.2.1.1) 80 [.inr (trVar (rnk q.1 q.2.1 i.toNat))]
        generalize wA m.2.2.1.1 m.2.2.1.2.1.1 80 [.inr (trVar (rnk q.1 q.2.1 i.toNat))] = w at *
        by_cases ej : j = -1
        · rw [if_pos (by rw [ej]), if_pos ej, g2]
          exact ⟨_, _, rfl, ⟨rfl, e1⟩, hJ1⟩
        rw [if_neg (zeqN ej (by omega) (by omega) (by omega) (by omega)), if_neg ej, g2, zsub, in_ok (by omega) (by omega) (by omega)]
        by_cases er : 0 ≤ j ∧ j < w.length
        · rw [if_pos (show (0 : Int) ≤ j ∧ j ≤ (w.length : Int) - 1 by omega), if_neg (by decide), if_pos er, agetI (i := j.toNat) (by omega) (by omega) (by omega), Option.bind_some, g3 _ (by omega)]
          exact ⟨_, _, rfl, ⟨rfl, e1⟩, hJ1⟩
        · rw [if_neg (show ¬ ((0 : Int) ≤ j ∧ j ≤ (w.length : Int) - 1) by omega), if_pos (by decide), if_neg er, Option.bind_some]
          exact ⟨_, _, rfl, e11 _ _, again _ _ hJ1⟩
      · rw [if_neg ho, if_neg ho, if_neg (by decide), Option.bind_some]
        exact ⟨_, _, rfl, e11 _ _, again _ _ (hJ _)⟩
  · rw [if_neg (show ¬ ((0 : Int) ≤ i ∧ i ≤ 25) by omega), if_pos (by decide), if_neg hn]
    dsimp only [qlet]
    rw [Option.bind_some, if_neg (by show ¬ Int32.ofInt 1 = 0; decide)]
    exact ⟨_, _, rfl, e11 _ _, hJ _⟩
