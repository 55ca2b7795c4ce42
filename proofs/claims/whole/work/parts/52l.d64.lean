/-! D64: from nodes to trees -/
theorem pT_ca {tx : Nat → Int} {k i : Nat} (h : isCa (tx i)) : pT tx (k + 1) i = (true, i + 1, []) := by
  unfold pT
  rw [if_neg (fun z => z.2.1 h), if_pos (Or.inl (by omega))]
theorem tt_ca {tx : Nat → Int} {n k i env : Nat} (h : isCa (tx i)) : tt tx n (k + 1) i env = trVar (env + rnk tx n (tx i - 65).toNat) := by
  funext q
  cases q with
  | nil =>
    unfold tt trVar
    rw [if_pos h]
  | cons j q =>
    unfold tt trVar
    rw [pT_ca h]
    rfl
theorem pGs_end {tx : Nat → Int} {n : Nat} : ∀ (f i : Nat), (pGs tx n f i).1 = true → n ≤ (pGs tx n f i).2.1
  | 0, i, h => absurd h (by show ¬ false = true; simp)
  | f + 1, i, h => by
    unfold pGs at h ⊢
    by_cases h1 : (pG tx i).1 = false
    · rw [if_pos h1] at h
      exact absurd h (by simp)
    rw [if_neg h1] at h ⊢
    by_cases h2 : n ≤ (pG tx i).2.1
    · rw [if_pos h2]
      exact h2
    rw [if_neg h2] at h ⊢
    by_cases h3 : tx (pG tx i).2.1 ≠ 44
    · rw [if_pos h3] at h
      exact absurd h (by simp)
    rw [if_neg h3] at h ⊢
    exact pGs_end f _ h
/-- B' is B with ranks -/
def RkB (B B' : Nat → Int32) (p n : Nat) (tx : Nat → Int) : Prop := (∀ k, ¬ (9 * (48 * p) ≤ k ∧ k < 9 * (48 * p + 48) ∧ k % 9 = 8) → B' k = B k) ∧ (∀ x s, x < 48 → (0 ≤ s ∧ s ≤ 126) → B (9 * (48 * p + x)) = Int32.ofInt s → B' (9 * (48 * p + x) + 8) = if isCa s then rkB tx n s else B (9 * (48 * p + x) + 8))
/-- the nodes of one page -/
abbrev pgOf (p : Nat) : Pg := ⟨(fun m => ∃ j, j < 48 ∧ m = 48 * p + j, fun m => ∃ j, j < 48 ∧ (0 < j ∨ p = 0) ∧ m = 48 * p + j)⟩
theorem NT.ct {B B' : Nat → Int32} {p n e : Nat} {tx : Nat → Int} (hk : RkB B B' p n tx) (he : e ≤ n) (hn : n ≤ 48) (hp : p < 13) (hr : ∀ p, 0 ≤ tx p ∧ tx p ≤ 126) (env : Nat) : ∀ {k i : Nat}, NT B p tx e k i → @CT (pgOf p) B' (rnk tx n 26) k (48 * p + i) env (tt tx n k i env)
  | 0, _, h => h.elim
  | k + 1, i, h => by
    obtain ⟨h1, h2, h3, h4, h5, h6⟩ := h
    have hri := hr i
    have e8 := hk.2 i (tx i) (by omega) (by omega) h2
    refine ⟨by omega, _, h5, by rw [hk.1 _ (by omega), h3], tx i, ⟨by omega, by omega, ⟨i, by omega, rfl⟩⟩, by rw [hk.1 _ (by omega), h2], ?_⟩
    by_cases hc : isCa (tx i)
    · rw [if_pos hc] at e8
      exact Or.inl ⟨_, rnk_lt (by omega) hc, e8, tt_ca hc, hc⟩
    · rw [if_neg hc, h4] at e8
      refine Or.inr ⟨e8, ?_, fun j hj => ?_⟩
      · show tt tx n (k + 1) i env [] = _
        unfold tt
        rw [if_neg hc]
      · have hja : (pT tx (k + 1) i).2.2[j]? = some (pT tx (k + 1) i).2.2[j] := List.getElem?_eq_getElem hj
        obtain ⟨a1, a2, a3⟩ := h6 j _ hja
        refine ⟨_, by rw [hk.1 _ (by omega), a1], ?_⟩
        have : trArg (tt tx n (k + 1) i env) j = tt tx n k (pT tx (k + 1) i).2.2[j] env := by
          funext q
          show tt tx n (k + 1) i env (j :: q) = _
          conv => lhs; unfold tt
          rw [hja]
        rw [this]
        exact NT.ct hk he hn hp hr env a3
theorem NG.rg {B B' : Nat → Int32} {p n e : Nat} {tx : Nat → Int} {g : Nat × Nat × Nat} {gs : List (Nat × Nat × Nat)} (hk : RkB B B' p n tx) (he : e ≤ n) (hn : n ≤ 48) (hp : p < 13) (hr : ∀ p, 0 ≤ tx p ∧ tx p ≤ 126) (hg0 : 0 < g.2.1 ∨ p = 0) (h : NG B p tx e g) (env nv lvl : Nat) (hnv : env + rnk tx n 26 ≤ nv) : @RG1 (pgOf p) B' nv (48 * p + g.2.1) env lvl (g.1, clT (tx, n, gs) env g.2.1, clT (tx, n, gs) env g.2.2, lvl) := by
  obtain ⟨h1, h2, h3, h4, h5⟩ := h
  refine ⟨by omega, by omega, ⟨h1, ⟨g.2.1, by omega, hg0, rfl⟩⟩, rfl, by rw [hk.1 _ (by omega), h3], fun z => ⟨_, 6, hnv, NT.ct hk he hn hp hr env (h4 z)⟩, fun z => ?_⟩
  obtain ⟨a1, a2, a3, a4, a5⟩ := h5 z
  refine ⟨_, by rw [hk.1 _ (by omega), a3], ⟨_, 6, hnv, NT.ct hk he hn hp hr env a4⟩, fun w => ?_⟩
  obtain ⟨b1, b2⟩ := a5 w
  exact ⟨by rw [hk.1 _ (by omega), b1], by rw [hk.1 _ (by omega), b2], ⟨g.2.2, by omega, Or.inl (by omega), rfl⟩⟩
theorem NGs.rgl {B B' : Nat → Int32} {p n e : Nat} {tx : Nat → Int} {gs : List (Nat × Nat × Nat)} (hk : RkB B B' p n tx) (he : e ≤ n) (hn : n ≤ 48) (hp : p < 13) (hr : ∀ p, 0 ≤ tx p ∧ tx p ≤ 126) : ∀ {l : List (Nat × Nat × Nat)} {x : Int32}, (∀ g, g ∈ l → 0 < g.2.1 ∨ p = 0) → NGs B p tx e l x → @RGl (pgOf p) B' p (tx, n, gs) l x
  | [], _, _, h => h
  | g :: r, x, hg, ⟨h1, h2, h3⟩ => by
    refine ⟨h1, fun env nv lvl hnv => NG.rg hk he hn hp hr (hg g List.mem_cons_self) h2 env nv lvl hnv, ?_⟩
    have hlt := h2.2.1
    rw [hk.1 _ (by omega)]
    exact NGs.rgl hk he hn hp hr (fun g' hg' => hg g' (List.mem_cons_of_mem _ hg')) h3
/-- a page as it was read -/
def PgC (B P : Nat → Int32) (p : Nat) (cl : Cl) : Prop := @RCl (pgOf p) B P p cl
def PgH (B : Nat → Int32) (p : Nat) (cl : Cl) : Prop := @RHd (pgOf p) B p cl
/-- what reading leaves of the rest -/
def FrW (σ σ' : qC) (p : Nat) : Prop := (∀ j, j ≠ 3202 → j ≠ 3203 → σ'.1 j = σ.1 j) ∧ (∀ a, a ≠ 28 → a ≠ 30 → σ'.2 a = σ.2 a) ∧ (∀ k, k ≠ 4 * p → k ≠ 4 * p + 1 → σ'.2 30 k = σ.2 30 k) ∧ (∀ k, k < 9 * (48 * p) ∨ (9 * (48 * p + 48) ≤ k ∧ k ≠ 9 * (48 * p + 48) + 5 ∧ k ≠ 9 * (48 * p + 48) + 6 ∧ k ≠ 9 * (48 * p + 48) + 7) → σ'.2 28 k = σ.2 28 k)
theorem FrP.w {σ σ1 σ' : qC} {p lo : Nat} (h0 : FrP (upS (upS σ 3202 (Int32.ofInt p)) 3203 (Int32.ofInt 0)) σ1 p 0) (h : FrP σ1 σ' p lo) : FrW σ σ' p :=
  ⟨fun j a b => by rw [h.1 j b, h0.1 j b, upS_1, if_neg b, upS_1, if_neg a], fun a x y => by rw [h.2.1 a x y, h0.2.1 a x y]; rfl, fun k x y => by rw [h.2.2.1 k x y, h0.2.2.1 k x y]; rfl, fun k hk => by rw [h.2.2.2 k (by omega), h0.2.2.2 k (by omega)]; rfl⟩
theorem FrP.refl {σ : qC} {p lo : Nat} : FrP σ σ p lo := FrQ.refl.p
theorem FrW.rk {σ σ1 σ' : qC} {p : Nat} (h : FrW σ σ1 p) (g : RkP σ1 σ' p) : FrW σ σ' p :=
  ⟨fun j a b => by rw [g.1, h.1 j a b], fun a x y => by rw [g.2.1 a x, h.2.1 a x y], fun k x y => by rw [g.2.1 30 (by omega), h.2.2.1 k x y], fun k hk => by rw [g.2.2 k (by omega), h.2.2.2 k hk]⟩
/-- the end of a reading -/
def RdE (σ σ' : qC) (p n : Nat) (tx : Nat → Int) (e : Nat) : Prop := FrW σ σ' p ∧ σ'.1 3203 = Int32.ofInt e ∧ σ'.1 3202 = Int32.ofInt p ∧ SGc (σ'.2 28) p tx e
theorem rdE_of {σ σ1 σ2 : qC} {p n e : Nat} {tx : Nat → Int} (h : RdC σ1 p n tx e) (hf : FrW σ σ1 p) (hk : RkP σ1 σ2 p) : RdE σ σ2 p n tx e := by
  refine ⟨hf.rk hk, by rw [hk.1, h.2.2.1], by rw [hk.1, h.2.1], h.2.2.2.2.2.2.congr (fun j hj => by rw [hk.2.2 _ (by omega)]) (fun j hj _ => by rw [hk.2.2 _ (by omega)])⟩
theorem pgc_of {σ1 σ2 : qC} {p n e : Nat} {tx : Nat → Int} {gs : List (Nat × Nat × Nat)} (h : RdC σ1 p n tx e) (he : n ≤ e) (hk : RkP σ1 σ2 p) (hk2 : ∀ x s, x < 48 → (0 ≤ s ∧ s ≤ 126) → σ1.2 28 (9 * (48 * p + x)) = Int32.ofInt s → σ2.2 28 (9 * (48 * p + x) + 8) = if isCa s then rkB tx e s else σ1.2 28 (9 * (48 * p + x) + 8)) (hg : ∀ g, g ∈ gs → 0 < g.2.1 ∨ p = 0) (hN : NGs (σ1.2 28) p tx e gs (σ1.2 30 (4 * p + 1))) : PgC (σ2.2 28) (σ2.2 30) p (tx, n, gs) := by
  have hin := h.2.2.2.1
  have e1 : e = n := by omega
  subst e1
  have hr := h.1.2.2.2.2
  have hn := h.1.2.2.1
  have hp := h.2.2.2.2.1
  refine ⟨hp, rnk_le 26, ?_, ?_⟩
  · rw [hk.2.1 30 (by omega), h.2.2.2.2.2.1, bitCount26]
    exact congrArg (fun z : Nat => Int32.ofInt (z : Int)) (rnk_cnt 26).symm
  · rw [hk.2.1 30 (by omega)]
    exact NGs.rgl ⟨hk.2.2, hk2⟩ (Nat.le_refl _) hn hp hr hg hN
theorem pgh_of {σ1 σ2 : qC} {p n e : Nat} {tx : Nat → Int} {gs : List (Nat × Nat × Nat)} (h : RdC σ1 p n tx e) (he : n ≤ e) (hk : RkP σ1 σ2 p) (hk2 : ∀ x s, x < 48 → (0 ≤ s ∧ s ≤ 126) → σ1.2 28 (9 * (48 * p + x)) = Int32.ofInt s → σ2.2 28 (9 * (48 * p + x) + 8) = if isCa s then rkB tx e s else σ1.2 28 (9 * (48 * p + x) + 8)) (hN : NT (σ1.2 28) p tx e 6 0) (hsm : isSm (tx 0)) : PgH (σ2.2 28) p (tx, n, gs) := by
  have hin := h.2.2.2.1
  have e1 : e = n := by omega
  subst e1
  intro env nv hnv
  refine ⟨⟨_, 6, hnv, NT.ct ⟨hk.2.2, hk2⟩ (Nat.le_refl _) h.1.2.2.1 h.2.2.2.2.1 h.1.2.2.2.2 env hN⟩, ?_⟩
  have := (tt_sm (n := e) (k := 5) (env := env) hsm).1
  show ¬ lab (tt tx e 6 0 env) < 0
  rw [this]
  omega
set_option maxHeartbeats 1000000 in
theorem readC_c {σ : qC} {p n : Nat} {tx : Nat → Int} (h : TXc σ n tx) (hp : p < 13) :
    ∃ σ', c_readClause_27 (Int32.ofInt p) σ = some (bo (pC tx n).1, σ') ∧ RdE σ σ' p n tx (pC tx n).2.1 ∧ ((pC tx n).1 = true → PgC (σ'.2 28) (σ'.2 30) p (tx, n, (pC tx n).2.2) ∧ PgH (σ'.2 28) p (tx, n, (pC tx n).2.2)) := by
  have hn := h.2.2.1
  have h0 := h.2.2.2.1
  have hr := h.2.2.2.2
  unfold c_readClause_27
  obtain ⟨σ1, a1, a2, a3, a4, a5⟩ := begin_c h hp
  rw [a1, Option.bind_some, a2.2.2.1, at_c a2.1 (by omega), small_c (hr 0), a2.2.1]
  by_cases hsm : isSm (tx 0)
  · rw [if_pos hsm, if_neg (by decide)]
    obtain ⟨σ2, e1, hP1, f1, nt1⟩ := rdT_c 6 0 1 8 σ1 a2 (by omega) (by omega)
    rw [show Int32.ofInt ((1 : Nat) : Int) = Int32.ofInt 1 from rfl] at e1
    rw [e1, Option.bind_some]
    obtain ⟨σ3, r1, r2, r3⟩ := rankV_c hP1
    have hw := FrP.w a3 f1.q.p
    by_cases hT : (pT tx 6 0).1 = false
    · rw [pC_noT hsm hT, hT, if_pos (by show Int32.ofInt 0 = 0; decide)]
      dsimp only
      rw [hP1.2.1, r1, Option.bind_some]
      exact ⟨σ3, rfl, rdE_of hP1 hw r2, fun z => absurd z (by simp)⟩
    have hT' : (pT tx 6 0).1 = true := by simpa using hT
    have hNT := nt1 hT'
    rw [hT', if_neg (by show ¬ Int32.ofInt 1 = 0; decide)]
    dsimp only
    rw [atEnd_c hP1, hP1.2.1]
    by_cases he : n ≤ (pT tx 6 0).2.1
    · rw [if_pos he, if_neg (by decide), r1, Option.bind_some, pC_end hsm hT' he]
      have h30 : σ2.2 30 (4 * p + 1) = Int32.ofInt (-1) := by rw [f1.2.2.1 _ (by omega), a4]
      exact ⟨σ3, rfl, rdE_of hP1 hw r2, fun _ => ⟨pgc_of hP1 he r2 r3 (fun g hg => by cases hg) h30, pgh_of hP1 he r2 r3 hNT hsm⟩⟩
    rw [if_neg he, if_pos (by decide), readSign_c hP1 (by omega)]
    by_cases h58 : tx (pT tx 6 0).2.1 = 58
    · rw [if_pos h58, Option.bind_some, if_neg (by show ¬ Int32.ofInt 1 = 0; decide), pC_gs hsm hT' he h58]
      dsimp only
      obtain ⟨σ4, b1, b2, b3, b4⟩ := readGs_c (hP1.up (by omega) (show ¬ isCa (tx (pT tx 6 0).2.1) by omega))
      rw [b1, Option.bind_some]
      have fr4 : FrP σ2 σ4 p 0 := FrP.trans (FrQ.up (lo := 0)).p b3 (by omega)
      have hw4 := FrP.w a3 (f1.q.p.trans fr4 (Nat.le_refl _))
      obtain ⟨σ5, t1, t2, t3⟩ := rankV_c b2
      cases hG : (pGs tx n 48 ((pT tx 6 0).2.1 + 1)).1 with
      | false =>
        rw [if_pos (by show Int32.ofInt 0 = 0; decide)]
        dsimp only
        rw [b2.2.1, t1, Option.bind_some]
        exact ⟨σ5, rfl, rdE_of b2 hw4 t2, fun z => absurd z (by simp)⟩
      | true =>
        rw [if_neg (by show ¬ Int32.ofInt 1 = 0; decide)]
        dsimp only
        rw [b2.2.1, t1, Option.bind_some]
        obtain ⟨g1, g2⟩ := b4 hG
        have hend := pGs_end _ _ hG
        have hNT4 : NT (σ4.2 28) p tx (pGs tx n 48 ((pT tx 6 0).2.1 + 1)).2.1 6 0 := by
          refine hNT.congr (lo := 0) (fun x x1 x2 _ _ _ => ?_) (by omega) (Nat.le_refl _)
          rw [b3.2.2.2 x (by omega), upS_2]
        refine ⟨σ5, rfl, rdE_of b2 hw4 t2, fun _ => ⟨pgc_of b2 hend t2 t3 (fun g hg => Or.inl ?_) g1, pgh_of b2 hend t2 t3 hNT4 hsm⟩⟩
        have := g2 g hg
        omega
    · rw [if_neg h58, Option.bind_some, if_pos (by show Int32.ofInt 0 = 0; decide), pC_no58 hsm hT' he h58]
      dsimp only
      rw [hP1.2.1, r1, Option.bind_some]
      exact ⟨σ3, rfl, rdE_of hP1 hw r2, fun z => absurd z (by simp)⟩
  · obtain ⟨σ3, r1, r2, r3⟩ := rankV_c a2
    rw [if_neg hsm, if_pos (by decide), r1, Option.bind_some, pC_no hsm]
    exact ⟨σ3, rfl, rdE_of a2 (FrP.w a3 (FrP.refl (lo := 0))) r2, fun z => absurd z (by simp)⟩
/-- the question's variables at their nodes -/
def QVr (B : Nat → Int32) (q : Cl) : Prop := ∀ j, j < q.2.1 → isCa (q.1 j) → B (9 * j) = Int32.ofInt (q.1 j) ∧ @CTx (pgOf 0) B (clNv q) j 0 (trVar (rnk q.1 q.2.1 (q.1 j - 65).toNat))
theorem qvr_of {σ1 σ2 : qC} {n e : Nat} {tx : Nat → Int} {gs : List (Nat × Nat × Nat)} (h : RdC σ1 0 n tx e) (he : n ≤ e) (hk : RkP σ1 σ2 0) (hk2 : ∀ x s, x < 48 → (0 ≤ s ∧ s ≤ 126) → σ1.2 28 (9 * (48 * 0 + x)) = Int32.ofInt s → σ2.2 28 (9 * (48 * 0 + x) + 8) = if isCa s then rkB tx e s else σ1.2 28 (9 * (48 * 0 + x) + 8)) : QVr (σ2.2 28) (tx, n, gs) := by
  have hin := h.2.2.2.1
  have e1 : e = n := by omega
  subst e1
  have hn := h.1.2.2.1
  intro j hj hc
  dsimp only at hj hc ⊢
  obtain ⟨s, s1, s2⟩ := h.2.2.2.2.2.2 j (by omega)
  rcases s2 with ⟨a, b⟩ | ⟨a, b, c⟩
  · rcases b with b | b
    · omega
    · exact absurd hc b
  · subst a
    have c1 := c hc
    have r8 := hk2 j (tx j) (by omega) (by omega) s1
    rw [if_pos hc] at r8
    rw [show 48 * 0 + j = j by omega] at s1 c1 r8
    refine ⟨by rw [hk.2.2 _ (by omega), s1], ⟨rnk tx e 26, 1, by show 0 + rnk tx e 26 ≤ rnk tx e 26; omega, by omega, 0, by omega, by rw [hk.2.2 _ (by omega), c1]; rfl, tx j, ⟨by omega, by omega, ⟨j, by omega, by omega⟩⟩, by rw [hk.2.2 _ (by omega), s1], Or.inl ⟨rnk tx e (tx j - 65).toNat, rnk_lt hj hc, r8, by rw [Nat.zero_add], hc⟩⟩⟩
theorem readQ_c {σ : qC} {n : Nat} {tx : Nat → Int} (h : TXc σ n tx) :
    ∃ σ', c_readQuestion_54 (Int32.ofInt 0) σ = some (bo (pGs tx n 48 0).1, σ') ∧ RdE σ σ' 0 n tx (pGs tx n 48 0).2.1 ∧ ((pGs tx n 48 0).1 = true → PgC (σ'.2 28) (σ'.2 30) 0 (tx, n, (pGs tx n 48 0).2.2) ∧ QVr (σ'.2 28) (tx, n, (pGs tx n 48 0).2.2)) := by
  unfold c_readQuestion_54
  obtain ⟨σ1, a1, a2, a3, a4, a5⟩ := begin_c h (show 0 < 13 by omega)
  rw [show Int32.ofInt ((0 : Nat) : Int) = Int32.ofInt 0 from rfl] at a1
  rw [a1, Option.bind_some]
  obtain ⟨σ4, b1, b2, b3, b4⟩ := readGs_c a2
  rw [b1, Option.bind_some]
  obtain ⟨σ5, t1, t2, t3⟩ := rankV_c b2
  dsimp only
  rw [b2.2.1, t1, Option.bind_some, if_pos (bo01 _)]
  refine ⟨σ5, rfl, rdE_of b2 (FrP.w a3 b3) t2, fun z => ?_⟩
  obtain ⟨g1, g2⟩ := b4 z
  exact ⟨pgc_of b2 (pGs_end _ _ z) t2 t3 (fun g hg => Or.inr rfl) g1, qvr_of b2 (pGs_end _ _ z) t2 t3⟩
