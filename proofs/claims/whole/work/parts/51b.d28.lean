/-! D28: the class's search is the common one -/
def fcode (c : Nat) : Nat := if c = 0 then 2 else if c = 1 then 10 else if c = 2 then 3 else 6
/-- where the search ends -/
def CE [Pg] (σ : qC) (cls : List Cl) (r : Nat × Ma) : Prop := (r.1 = 0 ∧ CS σ cls r.2) ∨ (r.1 ≠ 0 ∧ r.1 ≤ 3 ∧ CFl σ cls r.2.1 r.2.2.1 r.2.2.2.2.2)
theorem CS.fl [Pg] {σ : qC} {cls : List Cl} {m : Ma} (h : CS σ cls m) : CFl σ cls m.1 m.2.1 m.2.2.2.2 := by
  obtain ⟨W, t, na, nc, a1, a2, a3, ⟨d1, d2, d3, d4, d5⟩, a5, a6, a7, a8, a9, a10⟩ := h
  exact ⟨W, t, _, _, na, nc, a1, a2, a3.2.1, a5, by omega, a8, a9, a10⟩
set_option maxHeartbeats 2000000 in
theorem seek_ok [Pg] {cls : List Cl} (hcl : ∀ i, i < cls.length → clOK (cls.getD i clNil)) : ∀ (f ph : Nat) (m : Ma) (σ : qC) (o i n : Nat), CR σ o cls (ph, m) → AInv cls m → (aRun cls f ph m).1 ≠ 9 → i + 5 * f + 5 ≤ 1000000 → 5 * f + 5 ≤ n →
    ∃ σ', c_seek_63_l4 n o (Int32.ofInt i) σ = some (fcode (aRun cls f ph m).1, σ') ∧ CE σ' cls (aRun cls f ph m) := by
  intro f
  induction f with
  | zero => intro ph m σ o i n _ _ h9; exact absurd rfl h9
  | succ f ih =>
    intro ph m σ o i n hR hA h9 hi hn
    -- one turn more, then the end
    have fin : ∀ (σ' : qC) (o' k : Nat), Reach σ o k σ' o' → k ≤ 1 → (o' = 2 ∨ o' = 3 ∨ o' = 6 ∨ o' = 10) → c_seek_63_l4 n o (Int32.ofInt i) σ = some (o', σ') := by
      intro σ' o' k hr hk ho
      have e : n = (n - 1 - k + 1) + k := by omega
      rw [e, hr _ i (by omega)]
      exact seek_end ho (by omega)
    have go : ∀ (σ' : qC) (o' k : Nat) (r : Nat × Ma), Reach σ o k σ' o' → k ≤ 4 → CR σ' o' cls r → AInv cls r.2 → aRun cls (f + 1) ph m = aRun cls f r.1 r.2 → ∃ σ', c_seek_63_l4 n o (Int32.ofInt i) σ = some (fcode (aRun cls (f + 1) ph m).1, σ') ∧ CE σ' cls (aRun cls (f + 1) ph m) := by
      intro σ' o' k r hr hk hc ha he
      rw [he] at h9 ⊢
      have e : n = (n - k) + k := by omega
      rw [e, hr _ i (by omega)]
      exact ih r.1 r.2 σ' o' (i + k) (n - k) hc ha h9 (by omega) (by omega)
    obtain ⟨s, bn, st, td, ch⟩ := m
    rcases hR with ⟨h1, h2, h3⟩ | ⟨h1, h2, h3⟩ | ⟨h1, h2, h3⟩ | ⟨h1, h2, h3⟩
    · dsimp only at h1 h3
      subst h1
      subst h2
      cases td with
      | nil =>
        have e : aRun cls (f + 1) 0 (s, bn, st, [], ch) = (0, (s, bn, st, [], ch)) := rfl
        rw [e]
        obtain ⟨W, t, na, nc, a1, a2, a3, a4, a5, a6, ⟨x, x1, x2⟩, a8⟩ := h3
        rcases x2 with ⟨-, z⟩ | ⟨c, n', env', lvl', bh', z1, z2, z3, z4, z5, z6, z7, z8, z9⟩
        · exact ⟨σ, fin σ 2 1 (turn1e (by rw [x1, z])) (by omega) (by omega), Or.inl ⟨rfl, W, t, na, nc, a1, a2, a3, a4, a5, a6, ⟨x, x1, Or.inl ⟨rfl, z⟩⟩, a8⟩⟩
        · exact z9.elim
      | cons g rest =>
        by_cases hs : 500 ≤ s
        · have e : aRun cls (f + 1) 0 (s, bn, st, g :: rest, ch) = (2, (s, bn, st, g :: rest, ch)) := by
            unfold aRun
            rw [if_pos rfl]
            dsimp only
            rw [if_pos hs]
          rw [e]
          have h3' := h3
          obtain ⟨W, t, na, nc, a1, a2, a3, a4, ⟨k1, a5⟩, a6, ⟨x, x1, x2⟩, a8, a9, a10⟩ := h3
          dsimp only at *
          have hx : 0 ≤ x ∧ x < 100000 := by
            rcases x2 with ⟨z, -⟩ | ⟨c, n', env', lvl', bh', z1, z2, -⟩
            · cases z
            · obtain ⟨d1, d2, d3, d4, d5⟩ := a4
              try dsimp only at *
              omega
          have hd : c_doGoal_64 σ = some (3, σ) := by
            unfold c_doGoal_64 c_takeStep_65
            rw [k1, if_neg (zltN (by omega) (by omega) (by omega) (by omega) (by omega)), Option.bind_some]
            exact if_pos rfl
          exact ⟨σ, fin σ 3 1 (turn1 x1 hx hd) (by omega) (by omega), Or.inr ⟨by dsimp only; omega, by dsimp only; omega, h3'.fl⟩⟩
        · obtain ⟨k, σ', o', p1, p2, p3⟩ := do_ok h3 (by omega) (fun z => (hA.1 g List.mem_cons_self).1 z)
          refine go σ' o' k _ p2 p1 p3 (aDo_inv ⟨fun q hq => hA.1 q (List.mem_cons_of_mem _ hq), hA.2.1, hA.2.2⟩ (hA.1 g List.mem_cons_self) hcl) ?_
          conv => lhs; unfold aRun
          rw [if_pos rfl]
          dsimp only
          rw [if_neg hs]
    · dsimp only at h1 h3
      subst h1
      subst h2
      cases ch with
      | nil =>
        have e : aRun cls (f + 1) 1 (s, bn, st, td, []) = (1, (s, bn, st, td, [])) := rfl
        rw [e]
        have h3' := h3
        obtain ⟨W, t, nv, ns, na, nc, a1, a2, a3, ⟨k1, k2, k3, k4, k5, k6⟩, a5⟩ := h3
        have hd : c_retry_109 σ = some (10, σ) := by
          unfold c_retry_109
          rw [k5, zsub, z0, if_neg (zleN (by simp) (by simp) (by simp) (by omega) (by omega))]
        exact ⟨σ, fin σ 10 1 (turn7 hd) (by omega) (by omega), Or.inr ⟨by dsimp only; omega, by dsimp only; omega, h3'⟩⟩
      | cons q ch =>
        obtain ⟨X, c, rest, st1⟩ := q
        obtain ⟨⟨b1, b2, b3⟩, b4, b5⟩ := hA.2.2 (X, c, rest, st1) List.mem_cons_self
        obtain ⟨σ1, k, σ', o', p0, p1, p2, p3⟩ := retry_ok h3 b2 b3 (s, bn, st, td, (X, c, rest, st1) :: ch) ⟨rfl, rfl⟩
        refine go σ' o' (1 + k) _ ((turn7 p0).trans p2) (by omega) p3 (aBack_inv hA.2.2 hcl) ?_
        conv => lhs; unfold aRun
        rw [if_neg (by omega), if_pos rfl]
    · dsimp only at h1 h3
      subst h1
      subst h2
      exact ⟨σ, fin σ 3 0 Reach.refl (by omega) (by omega), Or.inr ⟨by show 2 ≠ 0; omega, by show 2 ≤ 3; omega, h3⟩⟩
    · dsimp only at h1 h3
      subst h1
      subst h2
      exact ⟨σ, fin σ 6 0 Reach.refl (by omega) (by omega), Or.inr ⟨by show 3 ≠ 0; omega, by show 3 ≤ 3; omega, h3⟩⟩
