/-! D11: the class tests an apart -/
def FrT (σ σ' : qC) : Prop := (∀ k, k ≠ 36 → k ≠ 38 → k ≠ 40 → k ≠ 42 → k ≠ 45 → k ≠ 47 → σ'.2 k = σ.2 k) ∧ (∀ k, k % 4 ≠ 2 → σ'.2 38 k = σ.2 38 k ∧ σ'.2 40 k = σ.2 40 k) ∧
  (∀ j, j ≠ 4202 → j ≠ 4502 → j ≠ 4406 → j ≠ 4702 → j ≠ 4900 → j ≠ 4901 → j ≠ 4902 → j ≠ 5000 → j ≠ 5001 → j ≠ 5002 → σ'.1 j = σ.1 j)
theorem FrT.refl {σ : qC} : FrT σ σ := ⟨fun _ _ _ _ _ _ _ => rfl, fun _ _ => ⟨rfl, rfl⟩, fun _ _ _ _ _ _ _ _ _ _ _ => rfl⟩
theorem FrT.trans {σ σ' σ'' : qC} (h : FrT σ σ') (g : FrT σ' σ'') : FrT σ σ'' :=
  ⟨fun k a b c d e f => by rw [g.1 k a b c d e f, h.1 k a b c d e f], fun k hk => ⟨by rw [(g.2.1 k hk).1, (h.2.1 k hk).1], by rw [(g.2.1 k hk).2, (h.2.1 k hk).2]⟩, fun j a b c d e f i l m n => by rw [g.2.2 j a b c d e f i l m n, h.2.2 j a b c d e f i l m n]⟩
theorem Fr.T {σ σ' : qC} (h : Fr σ σ') : FrT σ σ' := ⟨fun k a b _ c d e => h.1 k a b c d e, fun k hk => ⟨h.2.1 k hk, by rw [h.1 40 (by omega) (by omega) (by omega) (by omega) (by omega)]⟩, h.2.2⟩
theorem FrT.book {σ σ' : qC} (h : FrT σ σ') : σ'.2 28 = σ.2 28 := h.1 28 (by omega) (by omega) (by omega) (by omega) (by omega) (by omega)
/-- an apart's rows: goal and environment, its two terms -/
def RA1 [Pg] (σ : qC) (nv a : Nat) (x y : Tr) : Prop := ∃ n e m : Nat, (n < 624 ∧ pgv n) ∧ σ.2 40 (4 * a) = Int32.ofInt n ∧ σ.2 40 (4 * a + 1) = Int32.ofInt e ∧ σ.2 28 (9 * n + 6) = Int32.ofInt m ∧ CTx (σ.2 28) nv n e x ∧ CTx (σ.2 28) nv m e y
theorem RA1.congr [Pg] {σ σ' : qC} {nv nv' a : Nat} {x y : Tr} (h : RA1 σ nv a x y) (hn : nv ≤ nv') (h28 : σ'.2 28 = σ.2 28) (h0 : σ'.2 40 (4 * a) = σ.2 40 (4 * a)) (h1 : σ'.2 40 (4 * a + 1) = σ.2 40 (4 * a + 1)) : RA1 σ' nv' a x y := by
  obtain ⟨n, e, m, h2, h3, h4, h5, h6, h7⟩ := h
  exact ⟨n, e, m, h2, by rw [h0, h3], by rw [h1, h4], by rw [h28, h5], by rw [h28]; exact h6.mono hn, by rw [h28]; exact h7.mono hn⟩
/-- an apart waits no more -/
theorem settle_ok {σ : qC} {W : Wc} {t : List Ec} {nv ns na a : Nat} (h : CW σ W t nv ns na) (ha : a < na) (hw : W.2.2.2.2 a = 1) (ht : t.length < 20000) :
    ∃ σ', c_settle_103 (Int32.ofInt a) σ = some σ' ∧ CW σ' (W.1, W.2.1, W.2.2.1, W.2.2.2.1, gup W.2.2.2.2 a 0) ((2, a, -1) :: t) nv ns na ∧ Und W t (W.1, W.2.1, W.2.2.1, W.2.2.2.1, gup W.2.2.2.2 a 0) ((2, a, -1) :: t) ∧ (∀ k, k ≠ 40 → k ≠ 42 → σ'.2 k = σ.2 k) ∧ (∀ k, k % 4 ≠ 2 → σ'.2 40 k = σ.2 40 k) ∧ (∀ j, j ≠ 4202 → σ'.1 j = σ.1 j) := by
  obtain ⟨h1, h2, h3, h4, h5, h6⟩ := h
  have hC : CW (upA σ 40 (4 * a + 2) (Int32.ofInt 0)) (W.1, W.2.1, W.2.2.1, W.2.2.2.1, gup W.2.2.2.2 a 0) t nv ns na := by
    refine ⟨?_, ?_, fun b hb => ?_, h4, ?_, h6⟩
    · rw [upA_ne (by omega)]
      exact h1
    · rw [upA_ne (by omega)]
      exact h2
    · rw [upA_eq, fup_at]
      dsimp only
      rw [gup_at]
      by_cases e : b = a
      · rw [if_pos (by omega), if_pos e]
      · rw [if_neg (by omega), if_neg e]
        exact h3 b hb
    · rw [upA_ne (by omega)]
      exact h5
  obtain ⟨σ', q1, q2, q3, q4⟩ := noteC (W' := W) (c := 2) (w := a) (b := -1) hC (by omega) (by omega) (by omega) ht
  refine ⟨σ', ?_, q2, Und.one ?_, fun k k1 k2 => by rw [q3 k k2, upA_ne k1], fun k hk => by rw [q3 40 (by omega), upA_eq, fup_at, if_neg (by omega)], fun j hj => q4 j hj⟩
  · unfold c_settle_103
    rw [tputI (i := 4 * a + 2) (by omega) (by omega), Option.bind_some]
    have q1' := q1
    rw [show ((2 : Nat) : Int) = 2 from rfl] at q1'
    rw [q1']
    rfl
  · unfold un1
    rw [if_neg (by dsimp only; omega), if_pos rfl]
    dsimp only
    rw [gup_gup, gup_self hw]
def tcode (r : Nat × Nat × Us × Bool) : Nat := if r.1 = 2 then 3 else if r.1 = 1 then 1 else if r.2.2.2 = false then 7 else 1
set_option maxHeartbeats 2000000 in
theorem testApart_ok [Pg] {nv ns na a s : Nat} {u : Us} {W : Wc} {t : List Ec} {σ : qC} {x y : Tr} (hU : CU σ nv ns na W t u s) (hN : σ.1 4502 = Int32.ofInt 0) (ha : a < na) (hw : W.2.2.2.2 a = 1) (hA : RA1 σ nv a x y) (hs : s ≤ 500) (ht : t.length ≤ 3 * s + 10000) :
    ∃ σ' W' t', c_testApart_98 (Int32.ofInt a) σ = some (tcode (uni nv false 502 s u false [(x, y)]), σ') ∧ CU σ' nv ns na W' t' u (uni nv false 502 s u false [(x, y)]).2.1 ∧ σ'.1 4502 = Int32.ofInt 0 ∧ FrT σ σ' ∧ Und W t W' t' ∧ s ≤ (uni nv false 502 s u false [(x, y)]).2.1 ∧ (uni nv false 502 s u false [(x, y)]).2.1 ≤ 500 ∧ (uni nv false 502 s u false [(x, y)]).1 ≤ 2 ∧
      ((uni nv false 502 s u false [(x, y)]).1 ≠ 2 → s < (uni nv false 502 s u false [(x, y)]).2.1) ∧ t'.length + 3 * s ≤ t.length + 3 * (uni nv false 502 s u false [(x, y)]).2.1 ∧
      W' = (if (uni nv false 502 s u false [(x, y)]).1 = 1 then (W.1, W.2.1, W.2.2.1, W.2.2.2.1, gup W.2.2.2.2 a 0) else W) := by
  obtain ⟨n, e, m, hn, r0, r1, r6, hx, hy⟩ := hA
  have h6 := hU.1.2.2.2.2.2
  unfold c_testApart_98 c_pushPair_69 c_apartGoal_99 c_apartEnv_100
  rw [tatI (i := 4 * a) (by omega) (by omega), tatI (i := 4 * a + 1) (by omega) (by omega), r0, r1, rd_right hn.1, r6]
  obtain ⟨σ1, q1, q2, q3, q4, q5⟩ := push_ok (σ := σ) (ps := []) (nv := nv) (n := n) (e := e) (m := m) (f := e) trivial hN (by simp) hx hy
  rw [q1, Option.bind_some, Option.bind_some]
  have hU1 : CU σ1 nv ns na W t u s := hU.congr q4 (fun j a _ _ _ _ _ _ _ => q5 j a) (by rw [q5 _ (by omega)]; exact hU.2.2.2.2.1)
  obtain ⟨σ2, W2, t2, g1, g2, g3, g4, g5, g6, g7, g8, g9, g10, g11, g12, g13, g14, g15⟩ := gtp_ok (nv := nv) (ns := ns) (na := na) false 502 qF 0 s u false [(x, y)] W t σ1 hU1 q2 q3 (fun z => by cases z) hs (by omega) (by omega) (by unfold qF; omega) (by simp; omega) ht
  unfold c_goThroughPairs_92
  have g1' : c_goThroughPairs_92_l2 qF (Int32.ofInt 0) (Int32.ofInt 0) σ1 = some (gcode (uni nv false 502 s u false [(x, y)]).1, σ2) := g1
  rw [g1', Option.bind_some]
  dsimp only
  have hF2 : FrT σ σ2 := FrT.trans ⟨fun k _ _ _ _ a _ => q4 k a, fun k _ => ⟨by rw [q4 38 (by omega)], by rw [q4 40 (by omega)]⟩, fun j _ a _ _ _ _ _ _ _ _ => q5 j a⟩ g5.T
  -- back to where it began
  obtain ⟨es, f1, f2⟩ := g4
  have hC2 := g2.1
  have hE2 := g2.2.2.1
  have hch : c_changes_84 σ = Int32.ofInt t.length := hU.1.sc
  have hch2 : c_changes_84 σ2 = Int32.ofInt t2.length := g2.1.sc
  have h62 := hC2.2.2.2.2.2
  rw [f1] at hC2 hE2
  obtain ⟨σ3, b1, b2, b3, b4, b5⟩ := goBack_ok hC2 hE2
  rw [f2] at b2
  rw [hch, hch2, b1]
  have hF3 : FrT σ σ3 := hF2.trans ⟨fun k a b c _ _ _ => b3 k a b c, b4, fun j a _ _ _ _ _ _ _ _ _ => b5 j a⟩
  have hU3 : CU σ3 nv ns na W t u (uni nv false 502 s u false [(x, y)]).2.1 := by
    refine ⟨b2, ?_, hU.2.2.1, hU.2.2.2.1, ?_, ?_, ?_, hU.2.2.2.2.2.2.2⟩
    · rw [hF3.book]
      exact hU.2.1
    · rw [b5 _ (by omega)]
      exact g2.2.2.2.2.1
    · rw [b5 _ (by omega)]
      have := g2.2.2.2.2.2.1
      rw [uni_test] at this
      exact this
    · rw [b3 47 (by omega) (by omega) (by omega)]
      have := g2.2.2.2.2.2.2.1
      rw [uni_test] at this
      exact this
  have hN3 : σ3.1 4502 = Int32.ofInt 0 := by rw [b5 _ (by omega), g6]
  have hmore : ¬ (uni nv false 502 s u false [(x, y)]).1 = 2 → s < (uni nv false 502 s u false [(x, y)]).2.1 := by
    intro z
    by_cases h5 : s < 500
    · exact g13 (by simp) h5
    · exfalso
      apply z
      have : uni nv false 502 s u false [(x, y)] = (2, s, u, false) := by
        unfold uni
        rw [if_pos (by omega)]
      rw [this]
  have hgc : 1 ≤ gcode (uni nv false 502 s u false [(x, y)]).1 ∧ gcode (uni nv false 502 s u false [(x, y)]).1 < 11 := by
    unfold gcode
    split
    · omega
    · split <;> omega
  clear g1 g1' g13 g2 g3
  generalize uni nv false 502 s u false [(x, y)] = R at g7 g9 g10 g11 g12 hU3 hmore hgc ⊢
  unfold tcode
  by_cases c2 : R.1 = 2
  · have hg : gcode R.1 = 3 := by rw [c2]; rfl
    rw [hg, if_pos c2, if_neg (by omega : ¬ R.1 = 1)]
    refine ⟨σ3, W, t, ?_, hU3, hN3, hF3, Und.refl, g10, g11, g12, hmore, by omega, rfl⟩
    simp
  · by_cases c1 : R.1 = 1
    · have hg : gcode R.1 = 7 := by rw [c1]; rfl
      rw [hg, if_neg c2, if_pos c1, if_pos c1]
      obtain ⟨σ4, w1, w2, w3, w4, w5, w6⟩ := settle_ok (a := a) b2 ha hw (by omega)
      have hmm := hmore c2
      refine ⟨σ4, _, _, ?_, ⟨w2, ?_, ?_, hU3.2.2.2.1, ?_, ?_, ?_, hU3.2.2.2.2.2.2.2⟩, ?_, hF3.trans ⟨fun k _ _ a b _ _ => w4 k a b, fun k hk => ⟨by rw [w4 38 (by omega) (by omega)], w5 k hk⟩, fun j a _ _ _ _ _ _ _ _ _ => w6 j a⟩, w3, g10, g11, g12, hmore, ?_, rfl⟩
      · simp [w1]
      · rw [w4 28 (by omega) (by omega)]
        exact hU3.2.1
      · intro z hz
        rcases List.mem_cons.mp hz with rfl | hz
        · exact ⟨(fun q => by cases q), (fun q => by cases q), fun _ => ha⟩
        · exact hU.2.2.1 z hz
      · rw [w6 _ (by omega)]
        exact hU3.2.2.2.2.1
      · rw [w6 _ (by omega)]
        exact hU3.2.2.2.2.2.1
      · rw [w4 47 (by omega) (by omega)]
        exact hU3.2.2.2.2.2.2.1
      · rw [w6 _ (by omega), hN3]
      · rw [List.length_cons]
        omega
    · have c0 : R.1 = 0 := by omega
      have hg : gcode R.1 = 1 := by rw [c0]; rfl
      rw [hg, if_neg c2, if_neg c1, if_neg c1]
      have hb : (R.2.2.2 = true) ↔ t.length < t2.length := by
        rw [g7]
        simp
      have hmm := hmore c2
      by_cases hbd : R.2.2.2 = false
      · have hle : ¬ t.length < t2.length := by
          rw [← hb, hbd]
          simp
        rw [if_pos hbd, if_pos (zleP (by omega) (by omega) (by omega) (by omega) (by omega))]
        exact ⟨σ3, W, t, by simp, hU3, hN3, hF3, Und.refl, g10, g11, g12, hmore, by omega, rfl⟩
      · have hle : t.length < t2.length := by
          rw [← hb]
          simpa using hbd
        rw [if_neg hbd, if_neg (zleN (by omega) (by omega) (by omega) (by omega) (by omega))]
        exact ⟨σ3, W, t, by simp, hU3, hN3, hF3, Und.refl, g10, g11, g12, hmore, by omega, rfl⟩
