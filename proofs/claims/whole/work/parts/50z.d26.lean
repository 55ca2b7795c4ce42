/-! D26: what holds of the common machine -/
def gOK (g : Go) : Prop := (g.1 = 1 → ¬ lab g.2.1 < 0) ∧ (g.1 = 5 → ¬ lab g.2.2.1 < 0) ∧ g.1 ≤ 5
def tdOK (l : List Go) : Prop := ∀ g, g ∈ l → gOK g
def sgOK (st : Sto) : Prop := ∀ e, ¬ lab (st.2.2.2.1 e) < 0
def chOK (cls : List Cl) (ch : List Ch) : Prop := ∀ q, q ∈ ch → (¬ lab q.1 < 0 ∧ q.2.1 < cls.length ∧ fitA q.1 (cls.getD q.2.1 clNil) = true) ∧ tdOK q.2.2.1 ∧ sgOK q.2.2.2
/-- a text's calls are no variables -/
def clOK (cl : Cl) : Prop := ∀ g, g ∈ cl.2.2 → ∀ env, (g.1 = 1 → ¬ lab (clT cl env g.2.1) < 0) ∧ (g.1 = 5 → ¬ lab (clT cl env g.2.2) < 0) ∧ g.1 ≤ 5
def AInv (cls : List Cl) (m : Ma) : Prop := tdOK m.2.2.2.1 ∧ sgOK m.2.2.1 ∧ chOK cls m.2.2.2.2
theorem tdOK.app {a b : List Go} (h : tdOK a) (h2 : tdOK b) : tdOK (a ++ b) := by
  intro g hg
  rcases List.mem_append.mp hg with z | z
  · exact h g z
  · exact h2 g z
theorem clOK.goals {cl : Cl} (h : clOK cl) (env lvl : Nat) : tdOK (clGoals cl env lvl) := by
  intro g hg
  unfold clGoals at hg
  obtain ⟨q, hq, rfl⟩ := List.mem_map.mp hg
  exact h q hq env
theorem aSame_inv {cls : List Cl} {m : Ma} {ps : List (Tr × Tr)} {rest : List Go} (h : AInv cls m) (hr : tdOK rest) : AInv cls (aSame m ps rest).2 := by
  obtain ⟨s, bn, ⟨nv, u, ns, sg, ap⟩, td, ch⟩ := m
  obtain ⟨h1, h2, h3⟩ := h
  unfold aSame
  dsimp only
  rcases uni nv true 502 s u false ps with ⟨c, s1, u1, bd⟩
  dsimp only
  split
  · exact ⟨h1, h2, h3⟩
  · split
    · exact ⟨hr, h2, h3⟩
    · rcases tall nv u1 ap s1 with ⟨c2, s2, ap2⟩
      dsimp only
      split
      · exact ⟨h1, h2, h3⟩
      · refine ⟨tdOK.app ?_ hr, h2, h3⟩
        intro g hg
        obtain ⟨e, he, rfl⟩ := List.mem_map.mp hg
        exact ⟨(fun _ => h2 e), (fun z => by cases z), by dsimp only; omega⟩
theorem aTake_inv {cls : List Cl} {m : Ma} {c lvl : Nat} {X : Tr} {rest : List Go} (h : AInv cls m) (hr : tdOK rest) (hc : clOK (cls.getD c clNil)) : AInv cls (aTake cls m c X rest lvl).2 := by
  obtain ⟨s, bn, ⟨nv, u, ns, sg, ap⟩, td, ch⟩ := m
  unfold aTake
  exact aSame_inv ⟨h.1, h.2.1, h.2.2⟩ (tdOK.app (hc.goals _ _) hr)
theorem nfit_fit {cls : List Cl} {X : Tr} {i : Nat} (h : nfit cls X i < cls.length) : fitA X (cls.getD (nfit cls X i) clNil) = true := by
  unfold nfit at h ⊢
  have hl : (cls.drop i).findIdx (fitA X) < (cls.drop i).length := by
    rw [List.length_drop]
    omega
  have := List.findIdx_getElem (w := hl)
  rw [List.getD_eq_getElem?_getD, List.getElem?_eq_getElem h]
  rw [List.getElem_drop] at this
  exact this
theorem aDo_inv {cls : List Cl} {g : Go} {m : Ma} (h : AInv cls m) (hg : gOK g) (hc : ∀ i, i < cls.length → clOK (cls.getD i clNil)) : AInv cls (aDo cls g m).2 := by
  obtain ⟨s, bn, ⟨nv, u, ns, sg, ap⟩, rest, ch⟩ := m
  obtain ⟨k, X, Y, lvl⟩ := g
  obtain ⟨h1, h2, h3⟩ := h
  unfold aDo
  dsimp only
  split
  · exact ⟨h1, h2, fun q hq => h3 q (List.mem_of_mem_drop hq)⟩
  · split
    · rename_i hk
      split
      · exact ⟨h1, h2, h3⟩
      · rename_i hlen
        refine aTake_inv ⟨h1, h2, ?_⟩ h1 (hc _ (by omega))
        intro q hq
        dsimp only at hq
        split at hq
        · exact h3 q hq
        · rename_i hl2
          rcases List.mem_cons.mp hq with rfl | hq
          · exact ⟨⟨hg.1 hk, by dsimp only; omega, nfit_fit (by dsimp only; omega)⟩, h1, h2⟩
          · exact h3 q hq
    · split
      · exact aSame_inv ⟨h1, h2, h3⟩ h1
      · split
        · rcases uni nv false 502 s u false [(X, Y)] with ⟨c, s1, u1, bd⟩
          dsimp only
          repeat' split
          all_goals exact ⟨h1, h2, h3⟩
        · split
          · split <;> exact ⟨h1, h2, h3⟩
          · rename_i k0 k1 k2 k3 k4
            have hk5 : k = 5 := by
              have := hg.2.2
              dsimp only at this
              omega
            have hY := hg.2.1 hk5
            by_cases hl : lab (fnd (nv + 1) u.1 X) < 0
            · rw [if_pos hl]
              refine ⟨h1, fun e => ?_, h3⟩
              dsimp only
              rw [gup_at]
              split
              · exact hY
              · exact h2 e
            · rw [if_neg hl]
              refine ⟨fun g hg' => ?_, h2, h3⟩
              rcases List.mem_cons.mp hg' with rfl | hg'
              · exact ⟨(fun _ => hY), (fun z => by cases z), by dsimp only; omega⟩
              · exact h1 g hg'
theorem aBack_inv {cls : List Cl} {m : Ma} {X : Tr} {c : Nat} {rest : List Go} {st : Sto} {ch : List Ch} (h : chOK cls ((X, c, rest, st) :: ch)) (hc : ∀ i, i < cls.length → clOK (cls.getD i clNil)) : AInv cls (aBack cls m X c rest st ch).2 := by
  obtain ⟨⟨a1, a2, a3⟩, a4, a5⟩ := h (X, c, rest, st) List.mem_cons_self
  dsimp only at *
  unfold aBack
  refine aTake_inv ⟨a4, a5, ?_⟩ a4 (hc _ a2)
  intro q hq
  dsimp only at hq
  split at hq
  · exact h q (List.mem_cons_of_mem _ hq)
  · rename_i hl2
    rcases List.mem_cons.mp hq with rfl | hq
    · exact ⟨⟨a1, by dsimp only; omega, nfit_fit (by dsimp only; omega)⟩, a4, a5⟩
    · exact h q (List.mem_cons_of_mem _ hq)
