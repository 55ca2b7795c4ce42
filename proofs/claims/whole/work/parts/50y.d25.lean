/-! D25: CALL, a goal, retry: the class does as the common machine -/
set_option maxHeartbeats 2000000 in
theorem call_ok [Pg] {σ : qC} {cls : List Cl} {s bn na nc n e : Nat} {st : Sto} {rest : List Go} {ch : List Ch} {W : Wc} {t : List Ec} {X : Tr} (h : CP1 σ cls s bn st rest ch W t na nc) (hX : CTx (σ.2 28) st.1 n e X) (hl : ¬ lab X < 0) :
    ∃ σ1 o1, c_doCall_79 (Int32.ofInt n) (Int32.ofInt e) σ = some (o1, σ1) ∧ ∃ k σ' o', k ≤ 3 ∧ Reach σ1 o1 k σ' o' ∧ CR σ' o' cls (if cls.length ≤ nfit cls X 0 then (1, (s, bn, st, rest, ch)) else aTake cls (s, bn, st, rest, if cls.length ≤ nfit cls X (nfit cls X 0 + 1) then ch else (X, nfit cls X (nfit cls X 0 + 1), rest, st) :: ch) (nfit cls X 0) X rest ch.length) := by
  have hst := h.1
  have hlen := hst.2.1
  unfold c_doCall_79
  rw [show (Int32.ofInt 0) = Int32.ofInt ((0 : Nat) : Int) from rfl, find_ok hst hX hl 0 (by omega), Option.bind_some]
  by_cases h0 : cls.length ≤ nfit cls X 0
  · unfold fitI
    rw [if_pos h0, if_pos rfl, if_pos h0]
    exact ⟨σ, 7, rfl, 0, σ, 7, by omega, Reach.refl, Or.inr (Or.inl ⟨rfl, rfl, h.fail⟩)⟩
  · have hf0 : fitA X (cls.getD (nfit cls X 0) clNil) = true := by
      have hlt : nfit cls X 0 < cls.length := by omega
      unfold nfit at hlt ⊢
      rw [Nat.zero_add, List.drop_zero] at *
      have := List.findIdx_getElem (w := hlt)
      rw [List.getD_eq_getElem?_getD, List.getElem?_eq_getElem hlt]
      exact this
    have e0 : fitI cls (nfit cls X 0) = (nfit cls X 0 : Nat) := by unfold fitI; rw [if_neg h0]
    rw [e0, if_neg (zeqN (by omega) (by omega) (by omega) (by omega) (by omega)), if_neg h0, show (Int32.ofInt ((nfit cls X 0 : Nat) : Int) + Int32.ofInt 1) = Int32.ofInt ((nfit cls X 0 + 1 : Nat) : Int) by rw [zadd]; rfl, find_ok hst hX hl _ (by omega), Option.bind_some]
    obtain ⟨a1, a2, a3, ⟨a4, d6⟩, ⟨k1, k2, k3, k4, k5, k6⟩, a6, a7, a8, a9⟩ := h
    by_cases h1 : cls.length ≤ nfit cls X (nfit cls X 0 + 1)
    · have e1 : fitI cls (nfit cls X (nfit cls X 0 + 1)) = -1 := by unfold fitI; rw [if_pos h1]
      rw [e1, if_pos rfl, if_pos h1, k5]
      obtain ⟨σ1, q1, nc', q2, q3⟩ := take_ok (lvl := ch.length) a1 a2 a3 a4 k1 k2 k3 k4 k5 k6 a6 a7 a8 (by omega) (by omega : nfit cls X 0 < cls.length) hX hl hf0 (by omega)
      rw [q1, Option.bind_some]
      obtain ⟨k, σ', o', p1, p2, p3⟩ := aSame_ok (td0 := rest) q2 (by rw [prs_len]; exact q3)
      exact ⟨σ1, 4, rfl, k, σ', o', p1, p2, p3⟩
    · have e1 : fitI cls (nfit cls X (nfit cls X 0 + 1)) = (nfit cls X (nfit cls X 0 + 1) : Nat) := by unfold fitI; rw [if_neg h1]
      rw [e1, if_neg (zeqN (by omega) (by omega) (by omega) (by omega) (by omega)), if_neg h1]
      obtain ⟨σ2, l1, l2, l3, l4, l5⟩ := leave_ok (d := nfit cls X (nfit cls X 0 + 1)) ⟨a1, a2, a3, ⟨a4, d6⟩, ⟨k1, k2, k3, k4, k5, k6⟩, a6, a7, a8, a9⟩ hX hl (by omega)
      rw [l1, Option.bind_some, k5]
      have e28 := l4 28 (by omega)
      obtain ⟨x, x1, x2⟩ := a6
      obtain ⟨σ1, q1, nc', q2, q3⟩ := take_ok (σ := σ2) (lvl := ch.length) (ch := (X, nfit cls X (nfit cls X 0 + 1), rest, st) :: ch) (a1.congr e28 (l4 _ (by omega)) (l4 _ (by omega)) (l3 _ (by omega))) (a2.congr (l4 _ (by omega)) (l4 _ (by omega)) (l4 _ (by omega)) (l4 _ (by omega)) (l3 _ (by omega)) (l3 _ (by omega)) (l3 _ (by omega)) (l3 _ (by omega))) (a3.congr e28 (fun k _ _ => by rw [l4 38 (by omega)]) (fun k _ _ => by rw [l4 40 (by omega)])) a4 (by rw [l3 _ (by omega), k1]) (by rw [l3 _ (by omega), k2]) (by rw [l3 _ (by omega), k3]) (by rw [l3 _ (by omega), k4]) l2 (by rw [l3 _ (by omega)]; exact k6) ⟨x, by rw [l3 _ (by omega), x1], by rw [e28, l4 52 (by omega)]; exact x2⟩ l5 a8 (by rw [List.length_cons]; omega) (by omega : nfit cls X 0 < cls.length) (by rw [e28]; exact hX) hl hf0 (by omega)
      rw [q1, Option.bind_some]
      obtain ⟨k, σ', o', p1, p2, p3⟩ := aSame_ok (td0 := rest) q2 (by rw [prs_len]; exact q3)
      exact ⟨σ1, 4, rfl, k, σ', o', p1, p2, p3⟩
/-- a CALL's term is no variable -/
def callT (l : List Go) : Prop := ∀ g, g ∈ l → g.1 = 1 → ¬ lab g.2.1 < 0
set_option maxHeartbeats 2000000 in
theorem do_ok [Pg] {σ : qC} {cls : List Cl} {s bn : Nat} {st : Sto} {g : Go} {rest : List Go} {ch : List Ch} (h : CS σ cls (s, bn, st, g :: rest, ch)) (hs : s < 500) (hcall : g.1 = 1 → ¬ lab g.2.1 < 0) :
    ∃ k σ' o', k ≤ 4 ∧ Reach σ 1 k σ' o' ∧ CR σ' o' cls (aDo cls g (s + 1, bn, st, rest, ch)) := by
  obtain ⟨σ1, W, t, na, nc, n, env, q1, q2, q3, q4, x, x1, x2⟩ := pop_ok h hs
  obtain ⟨g1, g2, g3, g4, g5, g6, g7⟩ := q3
  have hk := rd_kind (σ := σ1) g1
  rw [g5] at hk
  obtain ⟨kd, X, Y, lvl⟩ := g
  dsimp only at *
  have key : ∀ (σ2 : qC) (o2 : Nat) (r : Nat × Ma), dispatch (Int32.ofInt n) (Int32.ofInt env) (Int32.ofInt lvl) σ1 = some (o2, σ2) → (∃ k σ' o', k ≤ 3 ∧ Reach σ2 o2 k σ' o' ∧ CR σ' o' cls r) → ∃ k σ' o', k ≤ 4 ∧ Reach σ 1 k σ' o' ∧ CR σ' o' cls r := by
    intro σ2 o2 r hd ⟨k, σ', o', p1, p2, p3⟩
    exact ⟨1 + k, σ', o', by omega, (turn1 x1 x2 (q1.trans hd)).trans p2, p3⟩
  have hne : ∀ j, j ≤ 5 → kd ≠ j → ¬ Int32.ofInt (kch kd) = Int32.ofInt (kch j) := fun j hj h => kch_ne g3.1 hj h
  obtain ⟨nv, u, ns, sg, ap⟩ := st
  rcases (by omega : kd = 0 ∨ kd = 4 ∨ kd = 2 ∨ kd = 5 ∨ kd = 3 ∨ kd = 1) with rfl | rfl | rfl | rfl | rfl | rfl
  · refine key (tshr σ1 54 (Int32.ofInt lvl)) 1 _ ?_ ⟨0, _, _, by omega, Reach.refl, Or.inl ⟨rfl, rfl, cut_ok q2 q4⟩⟩
    unfold dispatch
    have hk' : c_kind_67 (Int32.ofInt n) σ1 = Int32.ofInt 33 := hk
    rw [hk', if_pos rfl]
    rfl
  · obtain ⟨m, m1, m2, -⟩ := g7 (by omega)
    obtain ⟨σ2, o2, w1, w2⟩ := less_ok q2 g1 (g6 (by omega)) m1 m2
    refine key σ2 o2 _ ?_ ⟨0, _, _, by omega, Reach.refl, w2⟩
    unfold dispatch
    have hk' : c_kind_67 (Int32.ofInt n) σ1 = Int32.ofInt 60 := hk
    rw [hk', if_neg (by decide), if_pos rfl, w1, Option.bind_some]
  · obtain ⟨m, m1, m2, -⟩ := g7 (by omega)
    obtain ⟨σ2, w1, w2⟩ := same_ok q2 (g6 (by omega)) m2
    refine key σ2 4 _ ?_ w2
    unfold dispatch
    have hk' : c_kind_67 (Int32.ofInt n) σ1 = Int32.ofInt 61 := hk
    rw [hk', if_neg (by decide), if_neg (by decide), if_pos rfl, rd_right g1, m1, w1, Option.bind_some]
  · obtain ⟨m, m1, m2, m3⟩ := g7 (by omega)
    obtain ⟨σ2, w1, w2⟩ := sleep_ok q2 g1 (g6 (by omega)) m1 m2 (m3 rfl).1 (m3 rfl).2.1 (m3 rfl).2.2
    refine key σ2 1 _ ?_ ⟨0, _, _, by omega, Reach.refl, ?_⟩
    · unfold dispatch
      have hk' : c_kind_67 (Int32.ofInt n) σ1 = Int32.ofInt 63 := hk
      rw [hk', if_neg (by decide), if_neg (by decide), if_neg (by decide), if_pos rfl, w1, Option.bind_some]
    · unfold aDo
      dsimp only at w2 ⊢
      rw [if_neg (by omega), if_neg (by omega), if_neg (by omega), if_neg (by omega), if_neg (by omega)]
      by_cases hl : lab (fnd (nv + 1) u.1 X) < 0
      · rw [if_pos hl] at w2 ⊢
        exact Or.inl ⟨rfl, rfl, w2⟩
      · rw [if_neg hl] at w2 ⊢
        exact Or.inl ⟨rfl, rfl, w2⟩
  · obtain ⟨m, m1, m2, -⟩ := g7 (by omega)
    obtain ⟨σ2, w1, w2⟩ := apart_ok q2 g1 g3.2 (g6 (by omega)) m1 m2
    refine key σ2 5 _ ?_ w2
    unfold dispatch
    have hk' : c_kind_67 (Int32.ofInt n) σ1 = Int32.ofInt 126 := hk
    rw [hk', if_neg (by decide), if_neg (by decide), if_neg (by decide), if_neg (by decide), if_pos rfl, w1, Option.bind_some]
  · obtain ⟨σ2, o2, w1, w2⟩ := call_ok q2 (g6 (by omega)) (hcall rfl)
    refine key σ2 o2 _ ?_ w2
    unfold dispatch
    have hk' : c_kind_67 (Int32.ofInt n) σ1 = Int32.ofInt 40 := hk
    rw [hk', if_neg (by decide), if_neg (by decide), if_neg (by decide), if_neg (by decide), if_neg (by decide), w1, Option.bind_some]
