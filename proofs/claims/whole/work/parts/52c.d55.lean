/-! D55: the common search ends -/
theorem uni_mono {nv : Nat} {stir : Bool} : ∀ (f s : Nat) (u : Us) (bd : Bool) (ps : List (Tr × Tr)), s ≤ (uni nv stir f s u bd ps).2.1 ∧ (uni nv stir f s u bd ps).1 ≤ 2
  | 0, s, u, bd, ps => ⟨Nat.le_refl _, Nat.le_refl _⟩
  | f + 1, s, u, bd, [] => ⟨Nat.le_refl _, Nat.zero_le _⟩
  | f + 1, s, u, bd, (x, y) :: r => by
    unfold uni
    split
    · exact ⟨Nat.le_refl _, Nat.le_refl _⟩
    · split
      · exact ⟨by dsimp only; omega, by dsimp only; omega⟩
      · rename_i u' bd' ps _
        have := uni_mono (nv := nv) (stir := stir) f (s + 1) u' bd' (ps ++ r)
        exact ⟨by omega, this.2⟩
theorem tall_mono {nv : Nat} {u : Us} : ∀ (l : List (Tr × Tr)) (s : Nat), s ≤ (tall nv u l s).2.1 ∧ (tall nv u l s).1 ≤ 2
  | [], s => ⟨Nat.le_refl _, Nat.zero_le _⟩
  | (x, y) :: r, s => by
    have h := uni_mono (nv := nv) (stir := false) 502 s u false [(x, y)]
    unfold tall
    rcases hu : uni nv false 502 s u false [(x, y)] with ⟨c, s1, u1, bd⟩
    rw [hu] at h
    dsimp only at h ⊢
    have ih := tall_mono (nv := nv) (u := u) r s1
    split
    · exact ⟨h.1, Nat.le_refl _⟩
    · split
      · exact ⟨by omega, ih.2⟩
      · split
        · exact ⟨h.1, by dsimp only; omega⟩
        · rcases ht : tall nv u r s1 with ⟨c2, s2, l⟩
          rw [ht] at ih
          dsimp only at ih ⊢
          omega
theorem aSame_mono {m : Ma} {ps : List (Tr × Tr)} {rest : List Go} : m.1 ≤ (aSame m ps rest).2.1 ∧ (aSame m ps rest).1 ≤ 2 ∧ (aSame m ps rest).2.2.2.2.2 = m.2.2.2.2 := by
  obtain ⟨s, bn, ⟨nv, u, ns, sg, ap⟩, td, ch⟩ := m
  have h := uni_mono (nv := nv) (stir := true) 502 s u false ps
  unfold aSame
  dsimp only
  rcases hu : uni nv true 502 s u false ps with ⟨c, s1, u1, bd⟩
  rw [hu] at h
  dsimp only at h ⊢
  split
  · exact ⟨h.1, h.2, rfl⟩
  · split
    · exact ⟨h.1, by dsimp only; omega, rfl⟩
    · have h2 := tall_mono (nv := nv) (u := u1) ap s1
      rcases ht : tall nv u1 ap s1 with ⟨c2, s2, ap2⟩
      rw [ht] at h2
      dsimp only at h2 ⊢
      split
      · exact ⟨by dsimp only; omega, h2.2, rfl⟩
      · exact ⟨by dsimp only; omega, by dsimp only; omega, rfl⟩
theorem aTake_mono {cls : List Cl} {m : Ma} {c lvl : Nat} {X : Tr} {rest : List Go} : m.1 ≤ (aTake cls m c X rest lvl).2.1 ∧ (aTake cls m c X rest lvl).1 ≤ 2 ∧ (aTake cls m c X rest lvl).2.2.2.2.2 = m.2.2.2.2 := by
  obtain ⟨s, bn, ⟨nv, u, ns, sg, ap⟩, td, ch⟩ := m
  exact aSame_mono (m := (s, bn + clNv (cls.getD c clNil), (nv + clNv (cls.getD c clNil), uNew u nv, ns, sg, ap), td, ch)) (ps := (prs (clT (cls.getD c clNil) nv 0) X (ary (clT (cls.getD c clNil) nv 0)))) (rest := (clGoals (cls.getD c clNil) nv lvl ++ rest))
/-- what is left to try -/
def wt : List Ch → Nat
  | [] => 0
  | q :: r => (12 - q.2.1) + wt r
theorem wt_drop : ∀ (l : List Ch) (k : Nat), wt (l.drop k) ≤ wt l
  | [], k => by rw [List.drop_nil]; exact Nat.le_refl _
  | q :: r, 0 => Nat.le_refl _
  | q :: r, k + 1 => by
    have := wt_drop r k
    show wt (r.drop k) ≤ (12 - q.2.1) + wt r
    omega
theorem aDo_mono {cls : List Cl} {g : Go} {m : Ma} : m.1 ≤ (aDo cls g m).2.1 ∧ (aDo cls g m).1 ≤ 3 ∧ wt (aDo cls g m).2.2.2.2.2 ≤ wt m.2.2.2.2 + 12 := by
  obtain ⟨s, bn, ⟨nv, u, ns, sg, ap⟩, rest, ch⟩ := m
  obtain ⟨k, X, Y, lvl⟩ := g
  unfold aDo
  dsimp only
  split
  · have := wt_drop ch (ch.length - lvl)
    exact ⟨Nat.le_refl _, by dsimp only; omega, by dsimp only; omega⟩
  · split
    · split
      · exact ⟨Nat.le_refl _, by dsimp only; omega, by dsimp only; omega⟩
      · obtain ⟨h1, h2, h3⟩ := aTake_mono (cls := cls) (m := (s, bn, (nv, u, ns, sg, ap), rest, if cls.length ≤ nfit cls X (nfit cls X 0 + 1) then ch else (X, nfit cls X (nfit cls X 0 + 1), rest, (nv, u, ns, sg, ap)) :: ch)) (c := nfit cls X 0) (lvl := ch.length) (X := X) (rest := rest)
        refine ⟨h1, by omega, ?_⟩
        rw [h3]
        dsimp only
        split
        · omega
        · show (12 - _) + wt ch ≤ _
          omega
    · split
      · obtain ⟨h1, h2, h3⟩ := aSame_mono (m := (s, bn, (nv, u, ns, sg, ap), rest, ch)) (ps := [(X, Y)]) (rest := rest)
        exact ⟨h1, by omega, by rw [h3]; dsimp only; omega⟩
      · split
        · have h := uni_mono (nv := nv) (stir := false) 502 s u false [(X, Y)]
          rcases hu : uni nv false 502 s u false [(X, Y)] with ⟨c, s1, u1, bd⟩
          rw [hu] at h
          dsimp only at h ⊢
          split
          · exact ⟨h.1, by dsimp only; omega, by dsimp only; omega⟩
          · split
            · exact ⟨h.1, by dsimp only; omega, by dsimp only; omega⟩
            · split
              · exact ⟨h.1, by dsimp only; omega, by dsimp only; omega⟩
              · exact ⟨h.1, by dsimp only; omega, by dsimp only; omega⟩
        · split
          · split
            · refine ⟨Nat.le_refl _, ?_, by dsimp only; omega⟩
              dsimp only
              split <;> omega
            · exact ⟨Nat.le_refl _, by dsimp only; omega, by dsimp only; omega⟩
          · split
            · exact ⟨Nat.le_refl _, by dsimp only; omega, by dsimp only; omega⟩
            · exact ⟨Nat.le_refl _, by dsimp only; omega, by dsimp only; omega⟩
theorem aBack_mono {cls : List Cl} {m : Ma} {X : Tr} {c : Nat} {rest : List Go} {st : Sto} {ch : List Ch} (hc : c < 12) : m.1 ≤ (aBack cls m X c rest st ch).2.1 ∧ (aBack cls m X c rest st ch).1 ≤ 3 ∧ wt (aBack cls m X c rest st ch).2.2.2.2.2 + 1 ≤ wt ((X, c, rest, st) :: ch) := by
  unfold aBack
  obtain ⟨h1, h2, h3⟩ := aTake_mono (cls := cls) (m := (m.1, m.2.1, st, rest, if cls.length ≤ nfit cls X (c + 1) then ch else (X, nfit cls X (c + 1), rest, st) :: ch)) (c := c) (lvl := ch.length) (X := X) (rest := rest)
  refine ⟨h1, by omega, ?_⟩
  rw [h3]
  dsimp only
  have hw : wt ((X, c, rest, st) :: ch) = (12 - c) + wt ch := rfl
  rw [hw]
  split
  · omega
  · have : c + 1 ≤ nfit cls X (c + 1) := nfit_ge
    have hw2 : wt ((X, nfit cls X (c + 1), rest, st) :: ch) = (12 - nfit cls X (c + 1)) + wt ch := rfl
    rw [hw2]
    omega
theorem aRun_ends {cls : List Cl} (h12 : cls.length ≤ 12) (hcl : ∀ i, i < cls.length → clOK (cls.getD i clNil)) : ∀ (f ph : Nat) (m : Ma), AInv cls m → ph ≤ 3 → 13 * (500 - m.1) + wt m.2.2.2.2 < f → (aRun cls (f + 1) ph m).1 ≠ 9 := by
  intro f
  induction f with
  | zero => intro ph m _ _ h; omega
  | succ f ih =>
    intro ph m hA hp hf
    obtain ⟨s, bn, st, td, ch⟩ := m
    dsimp only at hf
    by_cases h0 : ph = 0
    · subst h0
      cases td with
      | nil =>
        have e : aRun cls (f + 1 + 1) 0 (s, bn, st, [], ch) = (0, (s, bn, st, [], ch)) := rfl
        rw [e]
        dsimp only
        omega
      | cons g rest =>
        unfold aRun
        rw [if_pos rfl]
        dsimp only
        by_cases hs : 500 ≤ s
        · rw [if_pos hs]
          dsimp only
          omega
        · rw [if_neg hs]
          obtain ⟨h1, h2, h3⟩ := aDo_mono (cls := cls) (g := g) (m := (s + 1, bn, st, rest, ch))
          have hA2 := aDo_inv (cls := cls) (g := g) (m := (s + 1, bn, st, rest, ch)) ⟨fun q' hq' => hA.1 q' (List.mem_cons_of_mem _ hq'), hA.2.1, hA.2.2⟩ (hA.1 g List.mem_cons_self) hcl
          dsimp only at h1 h3
          exact ih _ _ hA2 h2 (by omega)
    · by_cases h1 : ph = 1
      · subst h1
        cases ch with
        | nil =>
          have e : aRun cls (f + 1 + 1) 1 (s, bn, st, td, []) = (1, (s, bn, st, td, [])) := rfl
          rw [e]
          dsimp only
          omega
        | cons q ch =>
          obtain ⟨X, c, rest, st1⟩ := q
          obtain ⟨⟨b1, b2, b3⟩, b4, b5⟩ := hA.2.2 (X, c, rest, st1) List.mem_cons_self
          dsimp only at b2
          obtain ⟨h1, h2, h3⟩ := aBack_mono (cls := cls) (m := (s, bn, st, td, (X, c, rest, st1) :: ch)) (X := X) (c := c) (rest := rest) (st := st1) (ch := ch) (by omega)
          have hA2 := aBack_inv (m := (s, bn, st, td, (X, c, rest, st1) :: ch)) hA.2.2 hcl
          unfold aRun
          rw [if_neg (by omega), if_pos rfl]
          dsimp only at h1 h3 ⊢
          exact ih _ _ hA2 h2 (by omega)
      · unfold aRun
        rw [if_neg h0, if_neg h1]
        dsimp only
        omega
theorem wt_le : ∀ (l : List Ch), wt l ≤ 12 * l.length
  | [] => Nat.le_refl _
  | q :: r => by
    have := wt_le r
    rw [List.length_cons]
    show (12 - q.2.1) + wt r ≤ _
    omega
/-- 20000 turns are enough -/
theorem aRun_ok {cls : List Cl} (h12 : cls.length ≤ 12) (hcl : ∀ i, i < cls.length → clOK (cls.getD i clNil)) {ph : Nat} {m : Ma} (hA : AInv cls m) (hp : ph ≤ 3) (hch : m.2.2.2.2.length ≤ 500) : (aRun cls 20000 ph m).1 ≠ 9 := by
  have := wt_le m.2.2.2.2
  exact aRun_ends h12 hcl 19999 ph m hA hp (by omega)
/-- the calls of a right text are no variables -/
theorem pGs_ok {tx : Nat → Int} {n : Nat} : ∀ (f i : Nat), (pGs tx n f i).1 = true → ∀ g, g ∈ (pGs tx n f i).2.2 → g.1 ≤ 5 ∧ (g.1 = 1 → isSm (tx g.2.1)) ∧ (g.1 = 5 → isSm (tx g.2.2)) := by
  intro f
  induction f with
  | zero => intro i h; cases h
  | succ f ih =>
    intro i h g hg
    have hone : (pG tx i).1 = true → (pG tx i).2.2.1 ≤ 5 ∧ ((pG tx i).2.2.1 = 1 → isSm (tx (pG tx i).2.2.2.1)) ∧ ((pG tx i).2.2.1 = 5 → isSm (tx (pG tx i).2.2.2.2)) := by
      intro h1
      rcases pG_cases h1 with ⟨a, e⟩ | ⟨-, h1, k, k1, k2, k3, h2, e, e2⟩ | ⟨-, h1, -, e2, e⟩
      · rw [e]; exact ⟨by dsimp only; omega, fun z => by dsimp only at z; omega, fun z => by dsimp only at z; omega⟩
      · rw [e]; exact ⟨k2, fun z => by dsimp only at z; omega, e2⟩
      · rw [e]; exact ⟨by dsimp only; omega, fun _ => e2, fun z => by dsimp only at z; omega⟩
    unfold pGs at h hg
    by_cases h1 : (pG tx i).1 = false
    · rw [if_pos h1] at h; cases h
    rw [if_neg h1] at h hg
    have h1' : (pG tx i).1 = true := by simpa using h1
    by_cases h2 : n ≤ (pG tx i).2.1
    · rw [if_pos h2] at hg
      rw [List.mem_singleton.mp hg]
      exact hone h1'
    rw [if_neg h2] at h hg
    by_cases h3 : tx (pG tx i).2.1 ≠ 44
    · rw [if_pos h3] at h; cases h
    rw [if_neg h3] at h hg
    rcases List.mem_cons.mp hg with z | z
    · rw [z]
      exact hone h1'
    · exact ih _ h g z
theorem clOK_of {tx : Nat → Int} {n : Nat} {gs : List (Nat × Nat × Nat)} (h : ∀ g, g ∈ gs → g.1 ≤ 5 ∧ (g.1 = 1 → isSm (tx g.2.1)) ∧ (g.1 = 5 → isSm (tx g.2.2))) : clOK (tx, n, gs) := by
  intro g hg env
  obtain ⟨h1, h2, h3⟩ := h g hg
  refine ⟨fun z => ?_, fun z => ?_, h1⟩
  · have h4 := h2 z
    show ¬ lab (tt tx n 6 g.2.1 env) < 0
    rw [(tt_sm (n := n) (k := 5) (env := env) h4).1]
    omega
  · have h4 := h3 z
    show ¬ lab (tt tx n 6 g.2.2 env) < 0
    rw [(tt_sm (n := n) (k := 5) (env := env) h4).1]
    omega
theorem MCl.ok {cl : Cl} (h : MCl cl) : clOK cl := by
  have hg := h.get.2.2.2.2.2
  obtain ⟨tx, n, gs⟩ := cl
  dsimp only at hg
  rcases hg with ⟨-, e⟩ | ⟨-, -, h3, e⟩
  · rw [e]
    exact clOK_of (fun g hg => by cases hg)
  · rw [e]
    exact clOK_of (pGs_ok _ _ h3)
