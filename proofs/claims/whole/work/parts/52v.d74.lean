/-! D74: the class's letters -/
theorem letter_c {σ : qC} {A : As} {i j : Int} (hi : -2147483648 ≤ i ∧ i < 2147483648) (hj : -2147483648 ≤ j ∧ j < 2147483648) (h : CJ σ A) (hA : AW A) : ∃ σ', c_letter_114 (Int32.ofInt i) (Int32.ofInt j) σ = some (aLetter i j A, σ') ∧ CJ σ' A := by
  have h' := h
  obtain ⟨h1, h2, h3, h4, pg, h5, h6, h7⟩ := h
  unfold c_letter_114 aLetter
  rw [varname_c hi]
  by_cases hn : 0 ≤ i ∧ i < 26
  · rw [if_pos hn, if_pos hn, if_neg (by decide)]
    cases hq : A.q with
    | none =>
      unfold c_questionNode_116
      rw [h6 hq, if_pos (by decide), Option.bind_some, if_pos rfl]
      exact ⟨σ, rfl, h'⟩
    | some x =>
      obtain ⟨q, m, a⟩ := x
      obtain ⟨b1, b2, b3, b4, b5⟩ := h7 q m a hq
      obtain ⟨w1, w2, w3⟩ := hA.2.2.2.2 q m a hq
      dsimp only
      rcases qnode_c b1 b4 b5 w2 hn with ⟨o1, x, o2, o3⟩ | ⟨o1, o2⟩
      · have hx6 := (@CTx.cases (pgOf 0) _ _ _ _ _ o3).1
        rw [o2, Option.bind_some, if_neg (zeqN (by omega) (by omega) (by omega) (by omega) (by omega)), if_pos o1]
        obtain ⟨W, t, na, nc, a1, a2, a3, a4, -⟩ := b3
        have hT : @CTx (pgUse A.cls.length pg) (σ.2 28) m.2.2.1.1 x 0 (trVar (rnk q.1 q.2.1 i.toNat)) := @CTx.mono (pgUse A.cls.length pg) _ _ _ _ _ _ (CTx.map PM.use0 o3) w3.1
        obtain ⟨σ1, g1, g2, g3, g4⟩ := @write_c (pgUse A.cls.length pg) σ m.2.2.1.1 x m.2.2.1.2.1.1 _ ⟨a2.2.2.2.2.2.1, a3.2.2.1, @WU.RV (pgUse A.cls.length pg) _ _ _ _ _ _ _ a3.1 a2, a2.2.2.2.1.1⟩ h4 hT
        rw [g1, Option.bind_some]
        have hJ : CJ σ1 A := h'.keys (fun a _ => g3.2 a (by omega) (by omega)) (fun j hj => g3.1 j (by omega) (by omega) (by omega) (by omega)) g4
        have hlen := wA_len (nv := m.2.2.1.1) (b := m.2.2.1.2.1.1) 80 [.inr (trVar (rnk q.1 q.2.1 i.toNat))]
        generalize wA m.2.2.1.1 m.2.2.1.2.1.1 80 [.inr (trVar (rnk q.1 q.2.1 i.toNat))] = w at *
        by_cases e1 : j = -1
        · rw [if_pos (by rw [e1]), if_pos e1]
          exact ⟨σ1, rfl, hJ⟩
        rw [if_neg (zeqN e1 (by omega) (by omega) (by omega) (by omega)), if_neg e1]
        by_cases e2 : j < 0
        · rw [z0, if_pos (zltP e2 (by omega) (by omega) (by omega) (by omega)), if_neg (by omega)]
          exact ⟨σ1, rfl, hJ⟩
        rw [z0, if_neg (zltN (by omega) (by omega) (by omega) (by omega) (by omega))]
        by_cases e3 : j < w.length
        · rw [if_pos (zltP e3 (by omega) (by omega) (by omega) (by omega)), if_pos (by omega)]
          unfold c_characterAt_123
          rw [z0, if_neg (zltN (by omega) (by omega) (by omega) (by omega) (by omega)), znat, if_neg (zleN (by omega) (by omega) (by omega) (by omega) (by omega)), zcl (by omega) (by omega), g2 j.toNat (by omega)]
          exact ⟨σ1, rfl, hJ⟩
        · rw [if_neg (zltN (by omega) (by omega) (by omega) (by omega) (by omega)), if_neg (by omega)]
          exact ⟨σ1, rfl, hJ⟩
      · rw [o2, Option.bind_some, if_pos rfl, if_neg (by rw [o1]; simp)]
        exact ⟨σ, rfl, h'⟩
  · rw [if_neg hn, if_neg hn, if_pos (by decide)]
    exact ⟨σ, rfl, h'⟩
