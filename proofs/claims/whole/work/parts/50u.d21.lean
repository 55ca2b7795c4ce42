/-! D21: APART and SLEEP -/
theorem uni1_test {b : Bd} {x x' : (Nat → Int) × (Nat → Int) × (Nat → Int) × (Nat → List Nat) × List Nat} {bd : Bool} {X Y : Tr} : uni1 false (b, x') bd X Y = (uni1 false (b, x) bd X Y).map (fun q => ((q.1.1, x'), q.2)) := by
  unfold uni1 uBind
  simp only [Bool.false_eq_true, if_false]
  repeat' split
  all_goals rfl
theorem uni1_testx {b : Bd} {x : (Nat → Int) × (Nat → Int) × (Nat → Int) × (Nat → List Nat) × List Nat} {bd : Bool} {X Y : Tr} {q : Us × Bool × List (Tr × Tr)} (h : uni1 false (b, x) bd X Y = some q) : q.1.2 = x := by
  unfold uni1 uBind at h
  simp only [Bool.false_eq_true, if_false] at h
  repeat' split at h
  all_goals first
    | (cases h; rfl)
    | (cases h; done)
theorem uni_testb {nv : Nat} {x x' : (Nat → Int) × (Nat → Int) × (Nat → Int) × (Nat → List Nat) × List Nat} : ∀ (f s : Nat) (b : Bd) (bd : Bool) (ps : List (Tr × Tr)), (uni nv false f s (b, x') bd ps).1 = (uni nv false f s (b, x) bd ps).1 ∧ (uni nv false f s (b, x') bd ps).2.1 = (uni nv false f s (b, x) bd ps).2.1 ∧ (uni nv false f s (b, x') bd ps).2.2.2 = (uni nv false f s (b, x) bd ps).2.2.2 := by
  intro f
  induction f with
  | zero => intro s b bd ps; exact ⟨rfl, rfl, rfl⟩
  | succ f ih =>
    intro s b bd ps
    cases ps with
    | nil => exact ⟨rfl, rfl, rfl⟩
    | cons p r =>
      obtain ⟨X, Y⟩ := p
      by_cases h : 500 ≤ s
      · have e : ∀ z : (Nat → Int) × (Nat → Int) × (Nat → Int) × (Nat → List Nat) × List Nat, uni nv false (f + 1) s (b, z) bd ((X, Y) :: r) = (2, s, (b, z), bd) := by
          intro z
          unfold uni
          rw [if_pos h]
        rw [e, e]
        exact ⟨rfl, rfl, rfl⟩
      · cases h1 : uni1 false (b, x) bd (fnd (nv + 1) b X) (fnd (nv + 1) b Y) with
        | none =>
          have h2 : uni1 false (b, x') bd (fnd (nv + 1) b X) (fnd (nv + 1) b Y) = none := by rw [uni1_test (x := x), h1]; rfl
          rw [uni_none h h1, uni_none h h2]
          exact ⟨rfl, rfl, rfl⟩
        | some q =>
          obtain ⟨⟨b', x1⟩, bd', ps'⟩ := q
          have h2 : uni1 false (b, x') bd (fnd (nv + 1) b X) (fnd (nv + 1) b Y) = some ((b', x'), bd', ps') := by rw [uni1_test (x := x), h1]; rfl
          have h3 : x1 = x := uni1_testx h1
          rw [h3] at h1
          rw [uni_some h h1, uni_some h h2]
          exact ih (s + 1) b' bd' (ps' ++ r)
def wkOf (X : Nat → Int32) (w : Nat) : List Nat := (List.range w).map (fun i => (X (4 * i)).toUInt32.toNat)
theorem ofU (v : Int32) : Int32.ofInt (v.toUInt32.toNat : Int) = v := by
  have h : Int32.ofInt (v.toUInt32.toNat : Int) = Int32.ofNat v.toUInt32.toNat := rfl
  rw [h]
  apply Int32.toBitVec.inj
  simp
theorem wkOf_ok (X : Nat → Int32) (w : Nat) : (wkOf X w).length = w ∧ RWk X (wkOf X w) := by
  unfold wkOf
  refine ⟨by simp, fun i hi => ?_⟩
  simp only [List.getElem_map, List.getElem_range]
  rw [ofU]
set_option maxHeartbeats 2000000 in
theorem apart_ok [Pg] {σ : qC} {cls : List Cl} {s bn na nc n e m : Nat} {st : Sto} {rest : List Go} {ch : List Ch} {W : Wc} {t : List Ec} {X Y : Tr} (h : CP1 σ cls s bn st rest ch W t na nc) (hn : n < 624) (hv : pgv n) (hX : CTx (σ.2 28) st.1 n e X) (hm : σ.2 28 (9 * n + 6) = Int32.ofInt m) (hY : CTx (σ.2 28) st.1 m e Y) :
    ∃ σ1, c_letWait_70 (Int32.ofInt n) (Int32.ofInt e) σ = some σ1 ∧ ∃ k σ' o', k ≤ 3 ∧ Reach σ1 5 k σ' o' ∧ CR σ' o' cls (match uni st.1 false 502 s st.2.1 false [(X, Y)] with
      | (c, s1, _, bd) => if c = 2 then (2, (s1, bn, st, rest, ch)) else if c = 1 then (0, (s1, bn, st, rest, ch)) else if bd = false then (1, (s1, bn, st, rest, ch)) else (0, (s1, bn, (st.1, st.2.1, st.2.2.1, st.2.2.2.1, st.2.2.2.2 ++ [(X, Y)]), rest, ch))) := by
  obtain ⟨a1, a2, a3, ⟨⟨d1, d2, d3, d4, d5⟩, d6⟩, ⟨k1, k2, k3, k4, k5, w, k6, k7⟩, ⟨x, x1, x2⟩, a7, a8, a9⟩ := h
  obtain ⟨nv, u, ns, sg, ap⟩ := st
  obtain ⟨c1, c2, c3, ⟨c4, c5, c6, c7⟩, c8, c9⟩ := a2
  obtain ⟨b1, b2, b3, b4, b5, b6, b7, b8, L, R, b9, b10⟩ := a3
  dsimp only at *
  unfold c_letWait_70
  rw [tappI (n := na) c6 (by omega) (by omega), Option.bind_some]
  refine ⟨_, rfl, ?_⟩
  obtain ⟨σ1, hσ1⟩ : ∃ σ1, σ1 = upS (tap4 σ 40 (na * 4) (Int32.ofInt n) (Int32.ofInt e) (Int32.ofInt 1) (Int32.ofInt (-1))) (100 * 40 + 2) (Int32.ofInt ((na : Int) + 1)) := ⟨_, rfl⟩
  rw [← hσ1]
  have f1 : ∀ j, j ≠ 4002 → σ1.1 j = σ.1 j := fun j hj => by rw [hσ1, upS_1, if_neg (by omega)]; rfl
  have f2 : ∀ k, k ≠ 40 → σ1.2 k = σ.2 k := fun k hk => by rw [hσ1, upS_2, tap4_2, if_neg hk]
  have f40 : σ1.2 40 = fup (fup (fup (fup (σ.2 40) (na * 4) (Int32.ofInt n)) (na * 4 + 1) (Int32.ofInt e)) (na * 4 + 2) (Int32.ofInt 1)) (na * 4 + 3) (Int32.ofInt (-1)) := by rw [hσ1, upS_2, tap4_2, if_pos rfl]
  have f40o : ∀ k, k < 4 * na → σ1.2 40 k = σ.2 40 k := fun k hk => by rw [f40, fup_at, if_neg (by omega), fup_at, if_neg (by omega), fup_at, if_neg (by omega), fup_at, if_neg (by omega)]
  have e28 := f2 28 (by omega)
  have f4002 : σ1.1 4002 = Int32.ofInt ((na + 1 : Nat) : Int) := by rw [hσ1, upS_1, if_pos (by omega)]; rfl
  have hC1 : CW σ1 W t nv ns (na + 1) := by
    refine ⟨by rw [f2 _ (by omega)]; exact c1, by rw [f2 _ (by omega)]; exact c2, fun a ha => ?_, ⟨by rw [f1 _ (by omega), c4], by rw [f1 _ (by omega), c5], f4002, by rw [f1 _ (by omega), c7]⟩, by rw [f2 _ (by omega)]; exact c8, by omega⟩
    by_cases hlt : a < na
    · rw [f40o _ (by omega)]
      exact c3 a hlt
    · have : a = na := by omega
      subst this
      rw [b7 a (Nat.le_refl _), f40, fup_at, if_neg (by omega), fup_at, if_pos (by omega)]
  obtain ⟨wl, wr⟩ := wkOf_ok (σ1.2 47) w
  have hU : CU σ1 nv ns (na + 1) W t (u.1, u.2.1, u.2.2.1, u.2.2.2.1, u.2.2.2.2.1, wkOf (σ1.2 47) w) s := by
    refine ⟨hC1, by rw [e28]; exact ⟨b1.1, b1.2⟩, b2.mono (Nat.le_refl _) (Nat.le_refl _) (by omega), b3, by rw [f1 _ (by omega), k1], ?_, wr, by dsimp only; rw [wl]; exact k7⟩
    dsimp only
    rw [f1 _ (by omega), k6, wl]
  have hRA : RA1 σ1 nv na X Y := by
    refine ⟨n, e, m, ⟨hn, hv⟩, ?_, ?_, by rw [e28, hm], by rw [e28]; exact hX, by rw [e28]; exact hY⟩
    · rw [f40, fup_at, if_neg (by omega), fup_at, if_neg (by omega), fup_at, if_neg (by omega), fup_at, if_pos (by omega)]
    · rw [f40, fup_at, if_neg (by omega), fup_at, if_neg (by omega), fup_at, if_pos (by omega)]
  obtain ⟨σ2, W2, t2, g1, g2, g3, g4, g5, g6, g7, g8, g9, g10, g11⟩ := testApart_ok (a := na) hU (by rw [f1 _ (by omega), k3]) (by omega) (b7 na (Nat.le_refl _)) hRA a8 (by omega)
  obtain ⟨t1, t3, t4⟩ := uni_testb (nv := nv) (x := u.2) (x' := (u.2.1, u.2.2.1, u.2.2.2.1, u.2.2.2.2.1, wkOf (σ1.2 47) w)) 502 s u.1 false [(X, Y)]
  have hturn : Reach σ1 5 1 σ2 (tcode (uni nv false 502 s (u.1, u.2.1, u.2.2.1, u.2.2.2.1, u.2.2.2.2.1, wkOf (σ1.2 47) w) false [(X, Y)])) := by
    refine turn5 ?_
    unfold c_aparts_87
    rw [f4002, zsub, show ((na + 1 : Nat) : Int) - 1 = (na : Nat) by omega]
    exact g1
  refine ⟨1, σ2, _, by omega, hturn, ?_⟩
  clear g1 hturn
  unfold tcode
  rw [t1, t4]
  rw [t1] at g11 g8 g9
  rw [t3] at g2 g6 g7 g9 g10
  have huu : uni nv false 502 s (u.1, u.2) false [(X, Y)] = uni nv false 502 s u false [(X, Y)] := rfl
  rw [huu] at *
  generalize uni nv false 502 s u false [(X, Y)] = Q at *
  obtain ⟨c, s1, u1, bd⟩ := Q
  dsimp only at *
  have hsn : SnC σ2 s1 ch W2 t2 nv ns (na + 1) nc := by
    refine SnC.und ?_ g5
    refine g4.snc ?_
    exact (a7.congr e28 (fun k _ _ => by rw [f2 38 (by omega)]) (fun k hk _ => f40o k hk) (fun k _ => by rw [f2 52 (by omega)]) (fun k _ => by rw [f2 54 (by omega)])).mono (by omega) (Nat.le_refl _) (Nat.le_refl _) (by omega) (Nat.le_refl _)
  have hst : CStat σ2 cls := g4.stat (a1.congr e28 (f2 _ (by omega)) (f2 _ (by omega)) (f1 _ (by omega)))
  have hsc : σ2.1 4406 = Int32.ofInt s1 ∧ σ2.1 3505 = Int32.ofInt bn ∧ σ2.1 4502 = Int32.ofInt 0 ∧ σ2.1 5202 = Int32.ofInt nc ∧ σ2.1 5402 = Int32.ofInt ch.length ∧ ∃ w : Nat, σ2.1 4702 = Int32.ofInt w ∧ w ≤ 20000 :=
    ⟨g2.2.2.2.2.1, by rw [g4.sc (by omega), f1 _ (by omega), k2], g3, by rw [g4.sc (by omega), f1 _ (by omega), k4], by rw [g4.sc (by omega), f1 _ (by omega), k5], _, g2.2.2.2.2.2.1, g2.2.2.2.2.2.2.2⟩
  have hfl : CFl σ2 cls s1 bn ch := ⟨W2, t2, nv, ns, na + 1, nc, hst, g2.1, g2.2.2.1, hsc, by omega, hsn, g7, by omega⟩
  have htd : ∃ x : Int, σ2.1 5108 = Int32.ofInt x ∧ RTd (σ2.2 28) (σ2.2 52) nv nc rest x := g4.td ⟨x, by rw [f1 _ (by omega), x1], by rw [e28, f2 52 (by omega)]; exact x2⟩
  have hwa : (W2.1, W2.2.1, W2.2.2.1, W2.2.2.2.1) = (W.1, W.2.1, W.2.2.1, W.2.2.2.1) := by
    rw [g11]
    split <;> rfl
  have hWU : WU (σ2.2 28) nv W2 u := ⟨g2.2.1.1, g2.2.1.2⟩
  have hdone : ∀ ap', c ≠ 2 → ap' = apF W2.2.2.2.2 (gup L na X) (gup R na Y) (na + 1) 0 → wa01 W2 → (∀ a, na + 1 ≤ a → W2.2.2.2.2 a = 1) → CS σ2 cls (s1, bn, (nv, u, ns, sg, ap'), rest, ch) := by
    intro ap' hc2 hap h01 hcan
    have := g9 hc2
    refine ⟨W2, t2, na + 1, nc, hst, g2.1, ⟨hWU, g2.2.2.1, b3, b4, b5, h01, hcan, fun z hz => (b8 z hz).congr (Nat.le_refl _) (by rw [g4.book, e28]) (by rw [(g4.2.1 _ (by omega)).1, f2 38 (by omega)]) (by rw [(g4.2.1 _ (by omega)).1, f2 38 (by omega)]), gup L na X, gup R na Y, fun a ha => ?_, hap⟩, ⟨by dsimp only; omega, by dsimp only; omega, by dsimp only; omega, by omega, by omega⟩, hsc, trivial, htd, hsn, g7, by dsimp only; omega⟩
    rw [gup_at, gup_at]
    by_cases hlt : a = na
    · rw [if_pos hlt, if_pos hlt, hlt]
      exact hRA.congr (Nat.le_refl _) g4.book (g4.2.1 _ (by omega)).2 (g4.2.1 _ (by omega)).2
    · rw [if_neg hlt, if_neg hlt]
      exact (b9 a (by omega)).congr (Nat.le_refl _) (by rw [g4.book, e28]) (by rw [(g4.2.1 _ (by omega)).2, f40o _ (by omega)]) (by rw [(g4.2.1 _ (by omega)).2, f40o _ (by omega)])
  have hLR : ∀ a, a < 0 + na → gup L na X a = L a ∧ gup R na Y a = R a := fun a ha => ⟨by rw [gup_at, if_neg (by omega)], by rw [gup_at, if_neg (by omega)]⟩
  by_cases z2 : c = 2
  · rw [if_pos z2, if_pos z2]
    exact Or.inr (Or.inr (Or.inl ⟨rfl, rfl, hfl⟩))
  · rw [if_neg z2, if_neg z2]
    by_cases z1 : c = 1
    · rw [if_pos z1, if_pos z1]
      rw [if_pos z1] at g11
      refine Or.inl ⟨rfl, rfl, hdone ap z2 ?_ ?_ ?_⟩
      · have hz : W2.2.2.2.2 (0 + na) = 0 := by
          rw [g11]
          dsimp only
          rw [gup_at, if_pos (by omega)]
        rw [apF_snoc (L := L) (R := R) hLR, if_neg (by rw [hz]; omega), List.append_nil, b10]
        exact (apF_congr (fun a h1 h2 => by rw [g11]; dsimp only; rw [gup_at, if_neg (by omega)])).symm
      · intro a
        rw [g11]
        dsimp only
        rw [gup_at]
        split
        · exact Or.inl rfl
        · exact b6 a
      · intro a ha
        rw [g11]
        dsimp only
        rw [gup_at, if_neg (by omega)]
        exact b7 a (by omega)
    · rw [if_neg z1, if_neg z1]
      rw [if_neg z1] at g11
      by_cases zb : bd = false
      · rw [if_pos zb, if_pos zb]
        exact Or.inr (Or.inl ⟨rfl, rfl, hfl⟩)
      · rw [if_neg zb, if_neg zb]
        refine Or.inl ⟨rfl, rfl, hdone (ap ++ [(X, Y)]) z2 ?_ ?_ ?_⟩
        · rw [apF_snoc (L := L) (R := R) hLR, g11, Nat.zero_add, if_pos (b7 na (Nat.le_refl _)), gup_at, if_pos rfl, gup_at, if_pos rfl, b10]
        · rw [g11]
          exact b6
        · rw [g11]
          exact fun a ha => b7 a (by omega)
