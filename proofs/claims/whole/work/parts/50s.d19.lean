/-! D19: the class does a goal: what stands before, and CUT, LESS, SLEEP -/
/-- a goal was taken off, a step was taken -/
def CP1 [Pg] (σ : qC) (cls : List Cl) (s bn : Nat) (st : Sto) (rest : List Go) (ch : List Ch) (W : Wc) (t : List Ec) (na nc : Nat) : Prop :=
  CStat σ cls ∧ CW σ W t st.1 st.2.2.1 na ∧ SR σ W t na st ∧ (Bd1 s na nc t st ∧ 1 ≤ s ∧ st.2.2.1 + 1 ≤ s ∧ na + 1 ≤ s ∧ t.length + 3 ≤ 3 * s) ∧ (σ.1 4406 = Int32.ofInt s ∧ σ.1 3505 = Int32.ofInt bn ∧ σ.1 4502 = Int32.ofInt 0 ∧ σ.1 5202 = Int32.ofInt nc ∧ σ.1 5402 = Int32.ofInt ch.length ∧ ∃ w : Nat, σ.1 4702 = Int32.ofInt w ∧ w ≤ 20000) ∧ (∃ x : Int, σ.1 5108 = Int32.ofInt x ∧ RTd (σ.2 28) (σ.2 52) st.1 nc rest x) ∧ SnC σ s ch W t st.1 st.2.2.1 na nc ∧ s ≤ 500 ∧ ch.length + 1 ≤ s
theorem CP1.done [Pg] {σ : qC} {cls : List Cl} {s bn na nc : Nat} {st : Sto} {rest : List Go} {ch : List Ch} {W : Wc} {t : List Ec} (h : CP1 σ cls s bn st rest ch W t na nc) : CS σ cls (s, bn, st, rest, ch) := by
  obtain ⟨a1, a2, a3, ⟨⟨d1, d2, d3, d4, d5⟩, d6⟩, a5, a6, a7, a8, a9⟩ := h
  exact ⟨W, t, na, nc, a1, a2, a3, ⟨by (try dsimp only); omega, by (try dsimp only); omega, by (try dsimp only); omega, by omega, by omega⟩, a5, trivial, a6, a7, a8, by dsimp only; omega⟩
theorem CP1.fail [Pg] {σ : qC} {cls : List Cl} {s bn na nc : Nat} {st : Sto} {rest : List Go} {ch : List Ch} {W : Wc} {t : List Ec} (h : CP1 σ cls s bn st rest ch W t na nc) : CFl σ cls s bn ch := by
  obtain ⟨a1, a2, a3, ⟨⟨d1, d2, d3, d4, d5⟩, d6⟩, a5, a6, a7, a8, a9⟩ := h
  exact ⟨W, t, st.1, st.2.2.1, na, nc, a1, a2, a3.2.1, a5, by omega, a7, a8, by omega⟩
def dispatch (g e l : Int32) (σ : qC) : Option (Nat × qC) := if c_kind_67 g σ = Int32.ofInt 33 then qlet (tshr σ 54 l) (fun σ10 => some (1, σ10)) else if c_kind_67 g σ = Int32.ofInt 60 then (c_doLess_71 g e σ).bind (fun p13 => some (p13.1, p13.2)) else if c_kind_67 g σ = Int32.ofInt 61 then (c_pushPair_69 g e (c_right_68 g σ) e σ).bind (fun p16 => some (4, p16)) else if c_kind_67 g σ = Int32.ofInt 63 then (c_doSleep_74 g e σ).bind (fun p19 => some (p19.1, p19.2)) else if c_kind_67 g σ = Int32.ofInt 126 then (c_letWait_70 g e σ).bind (fun p22 => some (5, p22)) else (c_doCall_79 g e σ).bind (fun p24 => some (p24.1, p24.2))
theorem doGoal_eq (σ : qC) : c_doGoal_64 σ = (c_takeStep_65 σ).bind (fun p1 => if p1.1 = 0 then some (3, p1.2) else qlet (c_follower_66 (tat p1.2 52 4 (p1.2.1 5108) (Int32.ofInt 0)) p1.2) (fun x4 => if x4 = Int32.ofInt (-1) then qlet (upS p1.2 5108 (tat p1.2 52 4 (p1.2.1 5108) (Int32.ofInt 3))) (dispatch (tat p1.2 52 4 (p1.2.1 5108) (Int32.ofInt 0)) (tat p1.2 52 4 (p1.2.1 5108) (Int32.ofInt 1)) (tat p1.2 52 4 (p1.2.1 5108) (Int32.ofInt 2)))
    else (tappO p1.2 52 4 x4 (tat p1.2 52 4 (p1.2.1 5108) (Int32.ofInt 1)) (tat p1.2 52 4 (p1.2.1 5108) (Int32.ofInt 2)) (tat p1.2 52 4 (p1.2.1 5108) (Int32.ofInt 3))).bind (fun σ26 => qlet (upS σ26 5108 (p1.2.1 5202)) (dispatch (tat p1.2 52 4 (p1.2.1 5108) (Int32.ofInt 0)) (tat p1.2 52 4 (p1.2.1 5108) (Int32.ofInt 1)) (tat p1.2 52 4 (p1.2.1 5108) (Int32.ofInt 2)))))) := rfl
set_option maxHeartbeats 2000000 in
theorem pop_ok [Pg] {σ : qC} {cls : List Cl} {s bn : Nat} {st : Sto} {g : Go} {rest : List Go} {ch : List Ch} (h : CS σ cls (s, bn, st, g :: rest, ch)) (hs : s < 500) :
    ∃ (σ1 : qC) (W : Wc) (t : List Ec) (na nc n env : Nat), c_doGoal_64 σ = dispatch (Int32.ofInt n) (Int32.ofInt env) (Int32.ofInt g.2.2.2) σ1 ∧ CP1 σ1 cls (s + 1) bn st rest ch W t na nc ∧ RG1 (σ1.2 28) st.1 n env g.2.2.2 g ∧ g.2.2.2 ≤ 20000 ∧ ∃ x : Int, σ.1 5108 = Int32.ofInt x ∧ 0 ≤ x ∧ x < 100000 := by
  obtain ⟨W, t, na, nc, a1, a2, a3, ⟨d1, d2, d3, d4, d5⟩, ⟨k1, k2, k3, k4, k5, k6⟩, -, ⟨x, x1, x2⟩, a8, a9, a10⟩ := h
  dsimp only at *
  have hnc : nc ≤ 20000 := by omega
  rcases x2 with ⟨z, -⟩ | ⟨c, n, env, lvl, bh, e1, e2, r0, r1, r2, r3, r4, r5, hRG⟩
  · cases z
  obtain ⟨hg, hnext⟩ := hRG
  have hlv : lvl = g.2.2.2 := hg.2.2.2.1.symm
  subst hlv
  rw [doGoal_eq]
  unfold c_takeStep_65
  rw [k1, if_pos (zltP (by omega) (by omega) (by omega) (by omega) (by omega)), zadd]
  dsimp only [qlet]
  rw [Option.bind_some]
  dsimp only
  rw [if_neg (by decide)]
  obtain ⟨σ1, hσ1⟩ : ∃ σ1, σ1 = upS σ 4406 (Int32.ofInt ((s : Int) + 1)) := ⟨_, rfl⟩
  rw [← hσ1]
  have f1 : ∀ j, j ≠ 4406 → σ1.1 j = σ.1 j := fun j hj => by rw [hσ1, upS_1, if_neg hj]
  have f2 : σ1.2 = σ.2 := by rw [hσ1]; rfl
  have fs : σ1.1 4406 = Int32.ofInt ((s + 1 : Nat) : Int) := by rw [hσ1, upS_1, if_pos rfl]; rfl
  rw [f1 _ (by omega), x1, e1, tatI (i := 4 * c) (by omega) (by omega), tatI (i := 4 * c + 1) (by omega) (by omega), tatI (i := 4 * c + 2) (by omega) (by omega), tatI (i := 4 * c + 3) (by omega) (by omega), f2, r0, r1, r2, r3, rd_follower hg.1, f2]
  have key : ∀ (σ2 : qC) (nc' : Nat), (∀ k, k ≠ 52 → σ2.2 k = σ.2 k) → (∀ j, j ≠ 5108 → j ≠ 5202 → σ2.1 j = σ1.1 j) → (∀ k, k < 4 * nc → σ2.2 52 k = σ.2 52 k) → nc ≤ nc' → nc' ≤ nc + 1 → σ2.1 5202 = Int32.ofInt nc' → (∃ x : Int, σ2.1 5108 = Int32.ofInt x ∧ RTd (σ2.2 28) (σ2.2 52) st.1 nc' rest x) → CP1 σ2 cls (s + 1) bn st rest ch W t na nc' := by
    intro σ2 nc' z1 z2 z3 z4 z5 z6 z7
    have e28 := z1 28 (by omega)
    have zz : ∀ j, j ≠ 5108 → j ≠ 5202 → j ≠ 4406 → σ2.1 j = σ.1 j := fun j y1 y2 y3 => by rw [z2 j y1 y2, f1 j y3]
    refine ⟨a1.congr e28 (z1 _ (by omega)) (z1 _ (by omega)) (zz _ (by omega) (by omega) (by omega)), a2.congr (z1 _ (by omega)) (z1 _ (by omega)) (z1 _ (by omega)) (z1 _ (by omega)) (zz _ (by omega) (by omega) (by omega)) (zz _ (by omega) (by omega) (by omega)) (zz _ (by omega) (by omega) (by omega)) (zz _ (by omega) (by omega) (by omega)), a3.congr e28 (fun k _ _ => by rw [z1 38 (by omega)]) (fun k _ _ => by rw [z1 40 (by omega)]), ⟨⟨by omega, by omega, by omega, by omega, by omega⟩, by omega, by omega, by omega, by omega⟩, ⟨by rw [z2 _ (by omega) (by omega), fs], by rw [zz _ (by omega) (by omega) (by omega), k2], by rw [zz _ (by omega) (by omega) (by omega), k3]; rfl, z6, by rw [zz _ (by omega) (by omega) (by omega), k5], by rw [zz _ (by omega) (by omega) (by omega)]; exact k6⟩, z7, ?_, by omega, by omega⟩
    exact (a8.congr e28 (fun k _ _ => by rw [z1 38 (by omega)]) (fun k _ _ => by rw [z1 40 (by omega)]) z3 (fun k _ => by rw [z1 54 (by omega)])).mono (by omega) (Nat.le_refl _) (Nat.le_refl _) (Nat.le_refl _) z4
  rcases hnext with ⟨hf, hr⟩ | ⟨n', hf, hr⟩
  · rw [hf, if_pos rfl]
    have hC := key (upS σ1 5108 (Int32.ofInt bh)) nc (fun k _ => by rw [upS_2, f2]) (fun j h1 _ => by rw [upS_1, if_neg h1]) (fun k _ => by rw [upS_2, f2]) (Nat.le_refl _) (by omega) (by rw [upS_1, if_neg (by omega), f1 _ (by omega), k4]) ⟨bh, by rw [upS_1, if_pos rfl], by
      rw [upS_2, f2]
      rcases hr with z | ⟨c', n', env', lvl', bh', z⟩
      · exact Or.inl z
      · exact Or.inr ⟨c', n', env', lvl', bh', z⟩⟩
    exact ⟨_, W, t, na, nc, n, env, rfl, hC, by rw [upS_2, f2]; exact hg, r5, x, by rw [e1], by omega, by omega⟩
  · have hn' : n' < 624 := by
      cases rest with
      | nil => exact hr.elim
      | cons _ _ => exact hr.1.1
    rw [hf, if_neg (zeqN (by omega) (by omega) (by omega) (by omega) (by omega)), tappI (n := nc) (by rw [f1 _ (by omega), k4]) (by omega) (by omega), Option.bind_some, f1 _ (by omega), k4]
    have hcell : ∀ k, k < 4 * nc → fup (fup (fup (fup (σ.2 52) (nc * 4) (Int32.ofInt n')) (nc * 4 + 1) (Int32.ofInt env)) (nc * 4 + 2) (Int32.ofInt g.2.2.2)) (nc * 4 + 3) (Int32.ofInt bh) k = σ.2 52 k := by
      intro k hk
      rw [fup_at, if_neg (by omega), fup_at, if_neg (by omega), fup_at, if_neg (by omega), fup_at, if_neg (by omega)]
    have hC := key (upS (upS (tap4 σ1 52 (nc * 4) (Int32.ofInt n') (Int32.ofInt env) (Int32.ofInt g.2.2.2) (Int32.ofInt bh)) (100 * 52 + 2) (Int32.ofInt ((nc : Int) + 1))) 5108 (Int32.ofInt nc)) (nc + 1) (fun k hk => by rw [upS_2, upS_2, tap4_2, if_neg hk, f2]) (fun j h1 h2 => by rw [upS_1, if_neg h1, upS_1, if_neg (by omega)]; rfl) (fun k hk => by rw [upS_2, upS_2, tap4_2, if_pos rfl, f2, hcell k hk]) (by omega) (Nat.le_refl _) (by rw [upS_1, if_neg (by omega), upS_1, if_pos (by omega)]; rfl) ⟨nc, by rw [upS_1, if_pos rfl], Or.inr ⟨nc, n', env, g.2.2.2, bh, rfl, by omega, by
        rw [upS_2, upS_2, tap4_2, if_pos rfl, fup_at, if_neg (by omega), fup_at, if_neg (by omega), fup_at, if_neg (by omega), fup_at, if_pos (by omega)], by
        rw [upS_2, upS_2, tap4_2, if_pos rfl, fup_at, if_neg (by omega), fup_at, if_neg (by omega), fup_at, if_pos (by omega)], by
        rw [upS_2, upS_2, tap4_2, if_pos rfl, fup_at, if_neg (by omega), fup_at, if_pos (by omega)], by
        rw [upS_2, upS_2, tap4_2, if_pos rfl, fup_at, if_pos (by omega)], by omega, r5, by
        rw [upS_2, upS_2, tap4_2, if_neg (by omega), f2, tap4_2, if_pos rfl, f2]
        exact hr.mono (Nat.le_refl _) (by omega) hcell⟩⟩
    exact ⟨_, W, t, na, nc + 1, n, env, rfl, hC, by rw [upS_2, upS_2, tap4_2, if_neg (by omega), f2]; exact hg, r5, x, by rw [e1], by omega, by omega⟩
theorem SnC.tail [Pg] {σ : qC} {s : Nat} {a : Ch} {ch : List Ch} {W : Wc} {t : List Ec} {nv ns na nc : Nat} (h : SnC σ s (a :: ch) W t nv ns na nc) : SnC σ s ch W t nv ns na nc := by
  obtain ⟨X, c, rest, st⟩ := a
  obtain ⟨es, r, n, env, na1, nc1, td, h1, h2, h3, h4, h5, h6, h7, h8, h9, h10⟩ := h
  exact (h10.mono (Nat.le_refl _) h9.1 h9.2.1 h9.2.2.1 h9.2.2.2).und ⟨es, h1, rfl⟩
theorem SnC.drop [Pg] {σ : qC} {s : Nat} {W : Wc} {t : List Ec} {nv ns na nc : Nat} : ∀ {ch : List Ch} (k : Nat), SnC σ s ch W t nv ns na nc → SnC σ s (ch.drop k) W t nv ns na nc
  | [], k, h => by rw [List.drop_nil]; exact h
  | _ :: _, 0, h => h
  | _ :: ch, k + 1, h => SnC.drop (ch := ch) k h.tail
theorem kch_ne {k j : Nat} (hk : k ≤ 5) (hj : j ≤ 5) (h : k ≠ j) : ¬ Int32.ofInt (kch k) = Int32.ofInt (kch j) := by
  rcases (by omega : k = 0 ∨ k = 1 ∨ k = 2 ∨ k = 3 ∨ k = 4 ∨ k = 5) with rfl | rfl | rfl | rfl | rfl | rfl <;>
    rcases (by omega : j = 0 ∨ j = 1 ∨ j = 2 ∨ j = 3 ∨ j = 4 ∨ j = 5) with rfl | rfl | rfl | rfl | rfl | rfl <;> first | (exact absurd rfl h) | decide
/-- CUT -/
theorem cut_ok [Pg] {σ : qC} {cls : List Cl} {s bn na nc lvl : Nat} {st : Sto} {rest : List Go} {ch : List Ch} {W : Wc} {t : List Ec} (h : CP1 σ cls s bn st rest ch W t na nc) (hl : lvl ≤ 20000) : CS (tshr σ 54 (Int32.ofInt lvl)) cls (s, bn, st, rest, ch.drop (ch.length - lvl)) := by
  obtain ⟨a1, a2, a3, ⟨⟨d1, d2, d3, d4, d5⟩, d6⟩, ⟨k1, k2, k3, k4, k5, k6⟩, a6, a7, a8, a9⟩ := h
  obtain ⟨σ', hσ', e2, e1, e5⟩ : ∃ σ', σ' = tshr σ 54 (Int32.ofInt lvl) ∧ σ'.2 = σ.2 ∧ (∀ j, j ≠ 5402 → σ'.1 j = σ.1 j) ∧ σ'.1 5402 = Int32.ofInt ((ch.drop (ch.length - lvl)).length : Nat) := by
    rw [List.length_drop]
    by_cases hle : lvl ≤ ch.length
    · rw [tshrI (n := ch.length) (m := lvl) k5 (by omega) rfl hle]
      have el : ch.length - (ch.length - lvl) = lvl := by omega
      exact ⟨_, rfl, rfl, fun j hj => by rw [upS_1, if_neg (by omega)], by rw [upS_1, if_pos (by omega), el]⟩
    · have el : ch.length - (ch.length - lvl) = ch.length := by omega
      refine ⟨σ, ?_, rfl, fun _ _ => rfl, by rw [k5, el]⟩
      unfold tshr
      rw [z0, if_neg (zltN (by omega) (by omega) (by omega) (by omega) (by omega)), k5, if_pos (zleP (by omega) (by omega) (by omega) (by omega) (by omega))]
  rw [← hσ']
  refine ⟨W, t, na, nc, a1.congr (by rw [e2]) (by rw [e2]) (by rw [e2]) (e1 _ (by omega)), a2.congr (by rw [e2]) (by rw [e2]) (by rw [e2]) (by rw [e2]) (e1 _ (by omega)) (e1 _ (by omega)) (e1 _ (by omega)) (e1 _ (by omega)), a3.congr (by rw [e2]) (fun k _ _ => by rw [e2]) (fun k _ _ => by rw [e2]), ⟨by (try dsimp only); omega, by (try dsimp only); omega, by (try dsimp only); omega, by omega, by omega⟩, ⟨by rw [e1 _ (by omega), k1], by rw [e1 _ (by omega), k2], by rw [e1 _ (by omega), k3]; rfl, by rw [e1 _ (by omega), k4], e5, by rw [e1 _ (by omega)]; exact k6⟩, trivial, ?_, ?_, a8, ?_⟩
  · rw [e1 _ (by omega), e2]
    exact a6
  · exact (a7.drop (ch.length - lvl)).congr (by rw [e2]) (fun k _ _ => by rw [e2]) (fun k _ _ => by rw [e2]) (fun k _ => by rw [e2]) (fun k _ => by rw [e2])
  · dsimp only
    rw [List.length_drop]
    omega
