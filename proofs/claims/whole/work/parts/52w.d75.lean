/-! D75: the reference's state stands for the whole; typing, the next answer -/
def QM (X : Nat → Int32) (q : Cl) : Prop := ∀ c : Nat, c < 26 → X c = if occ q.1 q.2.1 (65 + (c : Int)) then Int32.ofInt (rnk q.1 q.2.1 c : Nat) else Int32.ofInt (-1)
def MJ (σ : qC) (A : As) : Prop := TXm σ A.n A.tx ∧ MStat σ A.cls ∧ σ.1 6409 = Int32.ofInt A.pl ∧ ((∃ k : Nat, σ.1 6435 = Int32.ofInt k ∧ k ≤ 600) ∧ σ.1 6440 = Int32.ofInt 0) ∧ (A.q = none → σ.1 6438 = Int32.ofInt 0) ∧ (∀ q m a, A.q = some (q, m, a) → σ.1 6438 = Int32.ofInt 1 ∧ σ.1 6431 = a ∧ MS (upS σ 6411 (Int32.ofInt 0)) A.cls m ∧ QM (σ.2 71) q)
/-- what the law sees of an answer: nothing was thrown, and the value; or what was thrown -/
def MV (r : Rs) (f : Nat → Int) (v : Int32) (σ : qC) : Prop := match r with
  | .inl x => v = x ∧ σ.1 6411 = Int32.ofInt 0
  | .inr c => σ.1 6411 = Int32.ofInt (f c)
theorem msc_zero {σ σ' : qC} (h2 : ∀ k, 66 ≤ k ∧ k ≤ 67 ∨ 72 ≤ k ∧ k ≤ 102 → σ'.2 k = σ.2 k) (h1 : ∀ j, j = 6408 ∨ 6425 ≤ j ∧ j ≤ 6430 ∨ 6432 ≤ j ∧ j ≤ 6435 ∨ j = 6440 → σ'.1 j = σ.1 j) {cls : List Cl} {m : Ma} (h : MS (upS σ 6411 (Int32.ofInt 0)) cls m) : MS (upS σ' 6411 (Int32.ofInt 0)) cls m := by
  refine MSc.ms (σ := upS σ 6411 (Int32.ofInt 0)) ⟨fun k hk => h2 k hk, fun j hj => ?_⟩ (by rw [upS_1, if_pos rfl]) h
  rw [upS_1, if_neg (by omega), upS_1, if_neg (by omega), h1 j hj]
/-- when only text, places and writing change -/
theorem MJ.keys {σ σ' : qC} {A A' : As} (h : MJ σ A) (hT : TXm σ' A'.n A'.tx) (hp : σ'.1 6409 = Int32.ofInt A'.pl) (hc : A'.cls = A.cls) (hq : A'.q = A.q) (h2 : ∀ a, a = 66 ∨ a = 67 ∨ a = 71 ∨ 72 ≤ a ∧ a ≤ 102 → σ'.2 a = σ.2 a) (h1 : ∀ j, j = 6408 ∨ 6425 ≤ j ∧ j ≤ 6438 ∨ j = 6440 → σ'.1 j = σ.1 j) : MJ σ' A' := by
  obtain ⟨a1, a2, a3, a4, a5, a6⟩ := h
  refine ⟨hT, by rw [hc]; exact a2.congr (h1 _ (by omega)) (h2 _ (by omega)) (h2 _ (by omega)), hp, ⟨by rw [h1 _ (by omega)]; exact a4.1, by rw [h1 _ (by omega)]; exact a4.2⟩, fun z => by rw [h1 _ (by omega), a5 (hq ▸ z)], fun q m a z => ?_⟩
  rw [hq] at z
  obtain ⟨b1, b2, b3, b4⟩ := a6 q m a z
  exact ⟨by rw [h1 _ (by omega), b1], by rw [h1 _ (by omega), b2], by rw [hc]; exact msc_zero (fun k hk => h2 k (by omega)) (fun j hj => h1 j (by omega)) b3, by rw [h2 _ (by omega)]; exact b4⟩
def fTy (c : Nat) : Int := if c = 12 then 1 else 2
theorem type_m {σ : qC} {A : As} (l : Int64) (h : MJ σ A) (hA : AW A) : ∃ v σ', m_type_128 l σ = some (v, σ') ∧ MV (aType l A).1 fTy v σ' ∧ MJ σ' (aType l A).2 := by
  have h' := h
  obtain ⟨h1, h2, h3, h4, h5, h6⟩ := h
  unfold m_type_128 aType
  have e1 := type1_m (l := l) h1.1 hA.1.1 8 0 0 qF true (by omega) (by unfold qF; omega) (by omega)
  rw [show Int32.ofInt ((0 : Nat) : Int) = Int32.ofInt 0 from rfl, show (56 : Int) - 8 * ((0 : Nat) : Int) = 56 from rfl, Nat.zero_add, Bool.true_and, bo_t] at e1
  rw [e1]
  have g : ∀ v j, j ≠ 6411 → (upS σ 6411 v).1 j = σ.1 j := fun v j hj => by rw [upS_1, if_neg hj]
  by_cases ho : okF l 8 0 = true
  · rw [if_pos ho, if_pos ho]
    by_cases hn : A.n + nzF l 8 0 ≤ 48
    · rw [if_pos hn, if_pos hn]
      obtain ⟨σ', a1, a2, a3, a4, a5⟩ := type2_m (l := l) 8 0 qF (upS σ 6411 (Int32.ofInt 0)) (A.tx, A.n) (by omega) (by unfold qF; omega) (by rw [g _ _ (by omega)]; exact h1.1) h1.2.1 hn
      rw [show (56 : Int) - 8 * ((0 : Nat) : Int) = 56 from rfl] at a1
      refine ⟨_, σ', a1, ⟨rfl, by rw [a4 _ (by omega), upS_1, if_pos rfl]⟩, h'.keys ⟨a2, a3, by show (tyF l 8 0 (A.tx, A.n)).2 ≤ 48; rw [tyF_n]; exact hn, (tyF_tok ho hA.tok).1, (tyF_tok ho hA.tok).rng⟩ (by rw [a4 _ (by omega), g _ _ (by omega)]; exact h3) rfl rfl (fun a ha => by rw [a5 a (by omega), upS_2]) (fun j hj => by rw [a4 j (by omega), g _ _ (by omega)])⟩
    · rw [if_neg hn, if_neg hn]
      have g2 : ∀ j, j ≠ 6411 → (upS (upS σ 6411 (Int32.ofInt 0)) 6411 (Int32.ofInt 2)).1 j = σ.1 j := fun j hj => by rw [upS_1, if_neg hj, g _ _ hj]
      exact ⟨_, _, rfl, by show (upS _ 6411 _).1 6411 = _; rw [upS_1, if_pos rfl]; rfl, h'.keys (h1.congr (g2 _ (by omega)) rfl) (by rw [g2 _ (by omega)]; exact h3) rfl rfl (fun _ _ => rfl) (fun j hj => g2 j (by omega))⟩
  · rw [if_neg ho, if_neg ho]
    exact ⟨_, _, rfl, by show (upS _ 6411 _).1 6411 = _; rw [upS_1, if_pos rfl]; rfl, h'.keys (h1.congr (g _ _ (by omega)) rfl) (by rw [g _ _ (by omega)]; exact h3) rfl rfl (fun _ _ => rfl) (fun j hj => g _ j (by omega))⟩
theorem MS.na {σ : qC} {cls : List Cl} {m : Ma} (h : MS σ cls m) : (∃ k : Nat, σ.1 6435 = Int32.ofInt k ∧ k ≤ 600) ∧ σ.1 6440 = Int32.ofInt 0 := by
  obtain ⟨W, t, na, nc, ng, a1, ⟨b1, b2, b3, b4, b5, -⟩, -⟩ := h
  exact ⟨⟨na, b1.2.2.2.1.2.2.1, b1.2.2.2.2.2.2.2.1⟩, b5.2.1⟩
theorem MFl.na {σ : qC} {cls : List Cl} {s bn : Nat} {ch : List Ch} {th : Int} (h : MFl σ cls s bn ch th) : (∃ k : Nat, σ.1 6435 = Int32.ofInt k ∧ k ≤ 600) ∧ σ.1 6440 = Int32.ofInt 0 := by
  obtain ⟨W, t, nv, ns, na, nc, ng, a1, b1, b2, b3, -⟩ := h
  exact ⟨⟨na, b1.2.2.2.1.2.2.1, b1.2.2.2.2.2.2.2.1⟩, b3.2.1⟩
theorem MS.len {σ : qC} {cls : List Cl} {m : Ma} (h : MS σ cls m) : m.2.2.2.2.length ≤ 500 := by
  obtain ⟨W, t, na, nc, ng, a1, b1, a3, a4, a5, a6, a7, a8⟩ := h
  have := b1.2.2.2.2.2.2
  omega
theorem MS.stat {σ : qC} {cls : List Cl} {m : Ma} (h : MS σ cls m) : MStat σ cls := by
  obtain ⟨W, t, na, nc, ng, a1, -⟩ := h
  exact a1
theorem MFl.stat {σ : qC} {cls : List Cl} {s bn : Nat} {ch : List Ch} {th : Int} (h : MFl σ cls s bn ch th) : MStat σ cls ∧ σ.1 6411 = Int32.ofInt th := by
  obtain ⟨W, t, nv, ns, na, nc, ng, a1, b1, b2, ⟨b3, b4, b5⟩, -⟩ := h
  exact ⟨a1, b5⟩
/-- after a search -/
theorem seekEnd_m {σ σ1 : qC} {A : As} {q : Cl} {v : Int32} {i1 : Int32} {r : Nat × Ma} (hT : TXm σ A.n A.tx) (h9 : σ.1 6409 = Int32.ofInt A.pl) (hQ : QM (σ.2 71) q) (h38 : σ.1 6438 = Int32.ofInt 1) (e : m_seek_148 i1 σ = some (v, σ1)) (hE : MEnd σ1 A.cls (σ.1 6431) (σ.1 6438) r) :
    MJ σ1 (aEnd A q (σ.1 6431) r).2 ∧ (r.1 = 0 → σ1.1 6411 = Int32.ofInt 0) ∧ (r.1 ≠ 0 → r.1 ≤ 3 ∧ σ1.1 6411 = Int32.ofInt ((r.1 : Int) + 1)) := by
  have hw := m_seek_148_fr (L := fun x => x ∈ _) (A := fun x => x ∈ _) (σ0 := σ) (fun x hx => hx) (fun x hx => hx) i1 σ Wr.refl _ e
  dsimp only at hw
  have f1 : ∀ j, j = 6407 ∨ j = 6409 → σ1.1 j = σ.1 j := by
    rintro j (rfl | rfl) <;> exact hw.1 _ (by decide)
  have f2 : ∀ a, a = 65 ∨ a = 71 → σ1.2 a = σ.2 a := by
    rintro a (rfl | rfl) <;> exact hw.2 _ (by decide)
  have hT1 : TXm σ1 A.n A.tx := hT.congr (f1 _ (by omega)) (f2 _ (by omega))
  unfold aEnd
  rcases hE with ⟨c0, c1, c2, c3⟩ | ⟨c0, c1, c2, c3⟩
  · rw [if_pos c0]
    have h11 : σ1.1 6411 = Int32.ofInt 0 := by
      obtain ⟨W, t, na, nc, ng, a1, b1, -⟩ := c1
      exact b1.2.2.2.2.1.2.2
    refine ⟨⟨hT1, c1.stat, by rw [f1 _ (by omega)]; exact h9, c1.na, fun z => (by cases z), fun q' m' a' z => ?_⟩, fun _ => h11, fun z => absurd c0 z⟩
    cases z
    refine ⟨by rw [c3, h38], c2, ?_, by rw [f2 _ (by omega)]; exact hQ⟩
    exact MSc.ms (σ := σ1) ⟨fun _ _ => rfl, fun j hj => by rw [upS_1, if_neg (by omega)]⟩ (by rw [upS_1, if_pos rfl]) c1
  · rw [if_neg c0]
    exact ⟨⟨hT1, c2.stat.1, by rw [f1 _ (by omega)]; exact h9, c2.na, fun _ => c3, fun q' m' a' z => by cases z⟩, fun z => absurd z c0, fun _ => ⟨c1, c2.stat.2⟩⟩
def fNx (c : Nat) : Int := if c = 15 then 1 else if c = 13 then 2 else 3
theorem next_m {σ : qC} {A : As} (h : MJ σ A) (hA : AW A) : ∃ v σ', m_next_168 σ = some (v, σ') ∧ MV (aNext A).1 fNx v σ' ∧ MJ σ' (aNext A).2 := by
  have h' := h
  obtain ⟨h1, h2, h3, h4, h5, h6⟩ := h
  unfold m_next_168 aNext
  dsimp only [qlet]
  have g : ∀ v j, j ≠ 6411 → (upS σ 6411 v).1 j = σ.1 j := fun v j hj => by rw [upS_1, if_neg hj]
  rw [g _ _ (by omega)]
  cases hq : A.q with
  | none =>
    unfold m_fail_131
    dsimp only [qlet]
    rw [h5 hq, if_pos (by decide), Option.bind_some]
    have g2 : ∀ j, j ≠ 6411 → (upS (upS σ 6411 (Int32.ofInt 0)) 6411 (Int32.ofInt 1)).1 j = σ.1 j := fun j hj => by rw [upS_1, if_neg hj, g _ _ hj]
    exact ⟨_, _, rfl, by show (upS _ 6411 _).1 6411 = _; rw [upS_1, if_pos rfl]; rfl, h'.keys (h1.congr (g2 _ (by omega)) rfl) (by rw [g2 _ (by omega)]; exact h3) rfl rfl (fun _ _ => rfl) (fun j hj => g2 j (by omega))⟩
  | some x =>
    obtain ⟨q, m, a⟩ := x
    obtain ⟨b1, b2, b3, b4⟩ := h6 q m a hq
    obtain ⟨w1, w2, w3⟩ := hA.2.2.2.2 q m a hq
    rw [b1, if_neg (by decide)]
    dsimp only
    have hrun := aRun_ok hA.2.2.1 hA.cl (ph := 1) w1 (by omega) b3.len
    obtain ⟨σ1, e1, hE⟩ := seek_m1 hA.cl (f := 20000) (by unfold qF; omega) w1 b3 hrun
    obtain ⟨c1, c2, c3⟩ := seekEnd_m (A := A) (q := q) (h1.congr (g _ _ (by omega)) rfl) (by rw [g _ _ (by omega)]; exact h3) b4 (by rw [g _ _ (by omega)]; exact b1) e1 hE
    rw [g _ _ (by omega), b2] at c1
    rw [e1, Option.bind_some]
    by_cases r0 : (aRun A.cls 20000 1 m).1 = 0
    · have c11 := c2 r0
      rw [if_pos (by rw [c11]; decide)]
      refine ⟨_, σ1, rfl, ?_, c1⟩
      unfold aEnd
      rw [if_pos r0, if_pos r0]
      exact ⟨rfl, c11⟩
    · obtain ⟨c12, c11⟩ := c3 r0
      dsimp only
      rw [c11, z0, if_neg (zleN (by omega) (by omega) (by omega) (by omega) (by omega)), zsub]
      have g3 : ∀ v j, j ≠ 6411 → (upS σ1 6411 v).1 j = σ1.1 j := fun v j hj => by rw [upS_1, if_neg hj]
      refine ⟨_, _, rfl, ?_, c1.keys (c1.1.congr (g3 _ _ (by omega)) rfl) (by rw [g3 _ _ (by omega)]; exact c1.2.2.1) rfl rfl (fun _ _ => rfl) (fun j hj => g3 _ j (by omega))⟩
      unfold aEnd
      rw [if_neg r0]
      show (upS σ1 6411 _).1 6411 = _
      rw [upS_1, if_pos rfl]
      rcases (by omega : (aRun A.cls 20000 1 m).1 = 1 ∨ (aRun A.cls 20000 1 m).1 = 2 ∨ (aRun A.cls 20000 1 m).1 = 3) with e | e | e <;> rw [e] <;> rfl
