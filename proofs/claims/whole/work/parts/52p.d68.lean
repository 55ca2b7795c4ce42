/-! D68: the class adds and drops clauses -/
theorem TXc.nil {σ : qC} (h : σ.1 2501 = Int32.ofInt 0) : TXc σ 0 (fun _ => 0) := ⟨h, fun p hp => by omega, by omega, fun _ _ => rfl, fun _ => ⟨by dsimp only; omega, by dsimp only; omega⟩⟩
theorem getD_last {l : List Cl} {x : Cl} : (l ++ [x]).getD l.length clNil = x := by
  rw [List.getD_eq_getElem?_getD, List.getElem?_append_right (Nat.le_refl _), Nat.sub_self]
  rfl
theorem getD_old {l : List Cl} {x : Cl} {i : Nat} (h : i < l.length) : (l ++ [x]).getD i clNil = l.getD i clNil := by
  rw [List.getD_eq_getElem?_getD, List.getElem?_append_left h, ← List.getD_eq_getElem?_getD]
theorem len_app {l : List Cl} {x : Cl} : (l ++ [x]).length = l.length + 1 := by simp
theorem PgS.free {σ : qC} {cls : List Cl} {pg : Nat → Nat} (h : PgS σ cls pg) (hl : cls.length < 12) : c_freePage_25 σ = Int32.ofInt (pg cls.length) := by
  obtain ⟨h1, h2, h3, h4, h5⟩ := h
  unfold c_freePage_25 c_page_26
  rw [h1, z0, if_neg (zltN (by omega) (by omega) (by omega) (by omega) (by omega)), znat, if_neg (zleN (by omega) (by omega) (by omega) (by omega) (by omega)), zcl (by omega) (by omega)]
  exact (h3 _ (by omega)).1
theorem PgC.frw {σ σ' : qC} {p r : Nat} {cl : Cl} (h : PgC (σ.2 28) (σ.2 30) p cl) (hf : FrW σ σ' r) (hr : p ≠ r) : PgC (σ'.2 28) (σ'.2 30) p cl :=
  RCl.map (PM.frw hf hr) (hf.2.2.1 _ (by omega) (by omega)) (hf.2.2.1 _ (by omega) (by omega)) h
theorem PgH.frw {σ σ' : qC} {p r : Nat} {cl : Cl} (h : PgH (σ.2 28) p cl) (hf : FrW σ σ' r) (hr : p ≠ r) : PgH (σ'.2 28) p cl := RHd.map (PM.frw hf hr) h
theorem QVr.frw {σ σ' : qC} {r : Nat} {q : Cl} (h : QVr (σ.2 28) q) (hq : q.2.1 ≤ 48) (hf : FrW σ σ' r) (hr : 0 ≠ r) : QVr (σ'.2 28) q := by
  intro j hj hc
  obtain ⟨a, b⟩ := h j hj hc
  exact ⟨by rw [hf.2.2.2 _ (by omega), a], CTx.map (PM.frw hf hr) b⟩
theorem SGc.frw {σ σ' : qC} {r n : Nat} {tx : Nat → Int} (h : SGc (σ.2 28) 0 tx n) (hf : FrW σ σ' r) (hr : 0 ≠ r) : SGc (σ'.2 28) 0 tx n :=
  h.congr (fun j hj => hf.2.2.2 _ (by omega)) (fun j hj _ => hf.2.2.2 _ (by omega))
set_option maxHeartbeats 1000000 in
theorem add_c {σ : qC} {A : As} (h : CJ σ A) (hA : AW A) : ∃ σ', c_add_23 σ = some ((aAdd A).1, σ') ∧ CJ σ' (aAdd A).2 := by
  obtain ⟨h1, h2, h3, h4, pg, h5, h6, h7⟩ := h
  have h5' := h5
  obtain ⟨p1, p2, p3, p4, p5⟩ := h5'
  unfold c_add_23 aAdd c_size_13 c_clear_24
  rw [p1]
  by_cases hl : A.cls.length = 12
  · rw [if_neg (zltN (by omega) (by omega) (by omega) (by omega) (by omega)), if_pos hl]
    dsimp only [qlet]
    rw [Option.bind_some]
    have g : ∀ j, j ≠ 2501 → (upS σ 2501 (Int32.ofInt 0)).1 j = σ.1 j := fun j x => by rw [upS_1, if_neg x]
    refine ⟨_, rfl, TXc.nil (by rw [upS_1, if_pos rfl]), by rw [g _ (by omega)]; exact h2, h3.congr (fun t ht => g _ (by omega)), by rw [g _ (by omega)]; exact h4, pg, h5.congr (g _ (by omega)) (fun _ _ => rfl), fun z => by rw [g _ (by omega)]; exact h6 z, fun q m a z => ?_⟩
    obtain ⟨b1, b2, b3, b4, b5⟩ := h7 q m a z
    exact ⟨by rw [g _ (by omega), b1], by rw [g _ (by omega), b2], b3.congr2 (fun _ _ => rfl) (fun j hj => g j (by omega)), b4, b5⟩
  rw [if_pos (zltP (by omega) (by omega) (by omega) (by omega) (by omega)), if_neg hl, h5.free (by omega)]
  have hpl := p3 A.cls.length (by omega)
  obtain ⟨σ1, e1, ⟨hf, r1, r2, r3⟩, hok⟩ := readC_c (p := pg A.cls.length) h1 (by omega)
  rw [e1, Option.bind_some]
  dsimp only [qlet]
  rw [Option.bind_some]
  have hpne : ∀ i, i < A.cls.length → pg i ≠ pg A.cls.length := fun i hi z => by
    have := p4 i A.cls.length (by omega) (by omega) z
    omega
  have k1 : ∀ j, j = 2409 ∨ j = 2410 ∨ j = 2411 ∨ j = 6002 ∨ j = 3302 ∨ j = 3602 ∨ j = 3802 ∨ j = 4002 ∨ j = 4202 ∨ j = 4406 ∨ j = 3505 ∨ j = 4502 ∨ j = 5202 ∨ j = 5402 ∨ j = 4702 ∨ j = 5108 → σ1.1 j = σ.1 j := fun j hj => hf.1 j (by omega) (by omega)
  have k2 : ∀ a, a = 34 ∨ a = 36 ∨ a = 38 ∨ a = 40 ∨ a = 42 ∨ a = 45 ∨ a = 52 ∨ a = 54 → σ1.2 a = σ.2 a := fun a ha => hf.2.1 a (by omega) (by omega)
  have hw1 : CWk σ1 := h3.congr (fun t ht => k1 _ (by omega))
  by_cases hc : (pC A.tx A.n).1 = true
  · rw [if_pos hc, hc, if_neg (by decide)]
    unfold c_keepFreePage_50
    have g0 : ∀ j, j ≠ 2501 → (upS σ1 2501 (Int32.ofInt 0)).1 j = σ1.1 j := fun j x => by rw [upS_1, if_neg x]
    rw [g0 _ (by omega), k1 3302 (by omega), p1, znat, if_neg (zleN (by omega) (by omega) (by omega) (by omega) (by omega))]
    dsimp only [qlet]
    rw [Option.bind_some, zadd]
    have g : ∀ j, j ≠ 2501 → j ≠ 3302 → j ≠ 2410 → (upS (upS (upS σ1 2501 (Int32.ofInt 0)) 3302 (Int32.ofInt ((A.cls.length : Int) + 1))) 2410 (Int32.ofInt 0)).1 j = σ1.1 j := fun j x y w => by rw [upS_1, if_neg w, upS_1, if_neg y, upS_1, if_neg x]
    have e33 : (upS (upS (upS σ1 2501 (Int32.ofInt 0)) 3302 (Int32.ofInt ((A.cls.length : Int) + 1))) 2410 (Int32.ofInt 0)).1 3302 = Int32.ofInt (A.cls.length + 1 : Nat) := by
      rw [upS_1, if_neg (by omega), upS_1, if_pos rfl]
      rfl
    obtain ⟨y1, y2⟩ := hok hc
    refine ⟨_, by rw [e33], TXc.nil (by rw [upS_1, if_neg (by omega), upS_1, if_neg (by omega), upS_1, if_pos rfl]), by rw [g _ (by omega) (by omega) (by omega), k1 _ (by omega)]; exact h2, hw1.congr (fun t ht => g _ (by omega) (by omega) (by omega)), by rw [g _ (by omega) (by omega) (by omega), k1 _ (by omega)]; exact h4, pg, ⟨?_, ?_, ?_, p4, ?_⟩, fun _ => by rw [upS_1, if_pos rfl], fun q m a z => by cases z⟩
    · rw [len_app]
      exact e33
    · show (A.cls ++ _).length ≤ 12
      rw [len_app]
      omega
    · intro i hi
      rw [upS_2, upS_2, upS_2, k2 34 (by omega)]
      exact p3 i hi
    · intro i hi
      rw [upS_2, upS_2, upS_2]
      have hi' : i < A.cls.length + 1 := by
        have : i < (A.cls ++ [(A.tx, A.n, (pC A.tx A.n).2.2)]).length := hi
        rwa [len_app] at this
      by_cases e : i = A.cls.length
      · subst e
        rw [getD_last]
        exact ⟨y1, y2⟩
      · rw [getD_old (by omega)]
        obtain ⟨w1, w2⟩ := p5 i (by omega)
        exact ⟨w1.frw hf (hpne i (by omega)), w2.frw hf (hpne i (by omega))⟩
  · have hc' : (pC A.tx A.n).1 = false := by simpa using hc
    rw [if_neg hc, hc', if_pos (by decide)]
    unfold c_place_49
    have g : ∀ j, j ≠ 2501 → j ≠ 2409 → (upS (upS σ1 2501 (Int32.ofInt 0)) 2409 ((upS σ1 2501 (Int32.ofInt 0)).1 3203)).1 j = σ1.1 j := fun j x y => by rw [upS_1, if_neg y, upS_1, if_neg x]
    have hPs : PgS σ1 A.cls pg := ⟨by rw [k1 _ (by omega), p1], p2, fun i hi => by rw [k2 34 (by omega)]; exact p3 i hi, p4, fun i hi => ⟨(p5 i hi).1.frw hf (hpne i hi), (p5 i hi).2.frw hf (hpne i hi)⟩⟩
    refine ⟨_, rfl, TXc.nil (by rw [upS_1, if_neg (by omega), upS_1, if_pos rfl]), by rw [upS_1, if_pos rfl, upS_1, if_neg (by omega), r1], hw1.congr (fun t ht => g _ (by omega) (by omega)), by rw [g _ (by omega) (by omega), k1 _ (by omega)]; exact h4, pg, hPs.congr (g _ (by omega) (by omega)) (fun _ _ => rfl), fun z => by rw [g _ (by omega) (by omega), k1 _ (by omega)]; exact h6 z, fun q m a z => ?_⟩
    obtain ⟨b1, b2, b3, b4, b5⟩ := h7 q m a z
    have hq48 := (hA.2.2.2.2 q m a z).2.1.1
    have hS : @CS (pgUse A.cls.length pg) σ1 A.cls m := CS.map (PM.frwU hf (by omega) hpne) hPs.stat (fun a ha => k2 a (by omega)) (fun j hj => k1 j (by omega)) b3
    exact ⟨by rw [g _ (by omega) (by omega), k1 _ (by omega), b1], by rw [g _ (by omega) (by omega), k1 _ (by omega), b2], hS.congr2 (fun _ _ => rfl) (fun j hj => g j (by omega) (by omega)), QVr.frw (σ' := σ1) b4 hq48 hf (by omega), SGc.frw (σ' := σ1) b5 hf (by omega)⟩
theorem clr_aw {A : As} (h : AW A) : AW (clr A) := ⟨⟨by show 0 ≤ 48; omega, fun _ _ => rfl, fun p hp => absurd hp (by show ¬ p < 0; omega)⟩, h.2⟩
theorem pG_place {tx : Nat → Int} {n i : Nat} (h0 : ∀ p, n ≤ p → tx p = 0) (hi : i ≤ n) : (pG tx i).2.1 ≤ n := by
  have h1 := pT_place h0 6 i hi
  have h2 : tx (pT tx 6 i).2.1 ≠ 0 → (pT tx 6 i).2.1 + 1 ≤ n := fun z => by
    apply Classical.byContradiction
    intro w
    exact z (h0 _ (by omega))
  have h3 : tx (pT tx 6 i).2.1 ≠ 0 → (pT tx 6 ((pT tx 6 i).2.1 + 1)).2.1 ≤ n := fun z => (pT_place h0 6 _ (h2 z)).1
  unfold pG
  split
  · rename_i h
    apply Classical.byContradiction
    intro w
    dsimp only at w
    have := h0 i (by omega)
    omega
  split
  · exact h1.1
  split
  · exact h3 (by omega)
  split
  · exact h3 (by omega)
  split
  · exact h3 (by omega)
  split
  · split
    · exact h3 (by omega)
    · exact h2 (by omega)
  · exact h1.1
theorem pGs_place {tx : Nat → Int} {n : Nat} (h0 : ∀ p, n ≤ p → tx p = 0) : ∀ (f i : Nat), i ≤ n → (pGs tx n f i).2.1 ≤ n
  | 0, _, h => h
  | f + 1, i, h => by
    have h1 := pG_place h0 h
    unfold pGs
    split
    · exact h1
    split
    · exact h1
    split
    · exact h1
    · exact pGs_place h0 f _ (by omega)
theorem pC_place {tx : Nat → Int} {n : Nat} (h0 : ∀ p, n ≤ p → tx p = 0) : (pC tx n).2.1 ≤ n := by
  have h1 := pT_place h0 6 0 (by omega)
  unfold pC
  split
  · exact Nat.zero_le _
  split
  · exact h1.1
  split
  · exact h1.1
  split
  · exact h1.1
  · exact pGs_place h0 48 _ (by omega)
theorem add_aw {A : As} (h : AW A) : AW (aAdd A).2 := by
  unfold aAdd
  split
  · exact clr_aw h
  split
  · rename_i hl hc
    refine ⟨(clr_aw h).1, h.2.1, ?_, ?_, fun q m a z => by cases z⟩
    · show (A.cls ++ _).length ≤ 12
      rw [len_app]
      have := h.2.2.1
      omega
    · intro i hi
      dsimp only
      have hi' : i < A.cls.length + 1 := by
        have : i < (A.cls ++ [(A.tx, A.n, (pC A.tx A.n).2.2)]).length := hi
        rwa [len_app] at this
      by_cases e : i = A.cls.length
      · subst e
        rw [getD_last]
        exact ⟨h.1.1, h.1.2.1, h.1.2.2, hc, rfl⟩
      · rw [getD_old (by omega)]
        exact h.2.2.2.1 i (by omega)
  · refine ⟨(clr_aw h).1, ?_, h.2.2.1, h.2.2.2.1, h.2.2.2.2⟩
    have := pC_place (tx := A.tx) h.1.2.1
    have := h.1.1
    show (((pC A.tx A.n).2.1 : Nat) : Int) ≤ 48
    omega
