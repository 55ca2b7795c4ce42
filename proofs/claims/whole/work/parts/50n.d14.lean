/-! D14: the class makes the pushed pairs same, tests, and wakes -/
def CMd [Pg] (σ : qC) (cls : List Cl) (s bn nv : Nat) (u : Us) (ns : Nat) (sg : Nat → Tr) (ap : List (Tr × Tr)) (td : List Go) (ch : List Ch) (W : Wc) (t : List Ec) (na nc : Nat) : Prop :=
  CStat σ cls ∧ CU σ nv ns na W t u s ∧ SlOK nv ns u ∧ wa01 W ∧ (∀ a, na ≤ a → W.2.2.2.2 a = 1) ∧ (∀ e, e < ns → RS1 σ nv e (sg e)) ∧ (∃ L R : Nat → Tr, (∀ a, a < na → RA1 σ nv a (L a) (R a)) ∧ ap = apF W.2.2.2.2 L R na 0) ∧
  (nv ≤ 26 * (s + 1) ∧ nc + (pot nv u.2.2.2.2.1 + u.2.2.2.2.2.length) ≤ 4 * (s + 1) ∧ ns ≤ s ∧ na ≤ s ∧ t.length ≤ 3 * s) ∧ (σ.1 3505 = Int32.ofInt bn ∧ σ.1 4502 = Int32.ofInt 0 ∧ σ.1 5202 = Int32.ofInt nc ∧ σ.1 5402 = Int32.ofInt ch.length) ∧
  (∃ x : Int, σ.1 5108 = Int32.ofInt x ∧ RTd (σ.2 28) (σ.2 52) nv nc td x) ∧ SnC σ s ch W t nv ns na nc ∧ s ≤ 500 ∧ ch.length ≤ s
theorem FrT.stat [Pg] {σ σ' : qC} {cls : List Cl} (h : FrT σ σ') (hS : CStat σ cls) : CStat σ' cls :=
  hS.congr h.book (h.1 30 (by omega) (by omega) (by omega) (by omega) (by omega) (by omega)) (h.1 34 (by omega) (by omega) (by omega) (by omega) (by omega) (by omega)) (h.2.2 3302 (by omega) (by omega) (by omega) (by omega) (by omega) (by omega) (by omega) (by omega) (by omega) (by omega))
theorem FrT.snc [Pg] {σ σ' : qC} {s : Nat} {ch : List Ch} {W : Wc} {t : List Ec} {nv ns na nc : Nat} (h : FrT σ σ') (hS : SnC σ s ch W t nv ns na nc) : SnC σ' s ch W t nv ns na nc :=
  hS.congr h.book (fun k _ b => (h.2.1 k b).1) (fun k _ b => (h.2.1 k b).2) (fun k _ => by rw [h.1 52 (by omega) (by omega) (by omega) (by omega) (by omega) (by omega)]) (fun k _ => by rw [h.1 54 (by omega) (by omega) (by omega) (by omega) (by omega) (by omega)])
theorem FrT.sc {σ σ' : qC} (h : FrT σ σ') {j : Nat} (hj : j = 3505 ∨ j = 5202 ∨ j = 5402 ∨ j = 5108) : σ'.1 j = σ.1 j := h.2.2 j (by omega) (by omega) (by omega) (by omega) (by omega) (by omega) (by omega) (by omega) (by omega) (by omega)
theorem FrT.td [Pg] {σ σ' : qC} (h : FrT σ σ') {nv nc : Nat} {td : List Go} (hT : ∃ x : Int, σ.1 5108 = Int32.ofInt x ∧ RTd (σ.2 28) (σ.2 52) nv nc td x) : ∃ x : Int, σ'.1 5108 = Int32.ofInt x ∧ RTd (σ'.2 28) (σ'.2 52) nv nc td x := by
  rw [h.book, h.1 52 (by omega) (by omega) (by omega) (by omega) (by omega) (by omega), h.sc (by omega)]
  exact hT
theorem CMd.fail [Pg] {σ : qC} {cls : List Cl} {s bn nv ns na nc : Nat} {u : Us} {sg : Nat → Tr} {ap : List (Tr × Tr)} {td : List Go} {ch : List Ch} {W : Wc} {t : List Ec} (h : CMd σ cls s bn nv u ns sg ap td ch W t na nc) : CFl σ cls s bn ch := by
  obtain ⟨a1, a2, a3, a4, a5, a6, a7, a8, a9, a10, a11, a12⟩ := h
  exact ⟨W, t, nv, ns, na, nc, a1, a2.1, a2.2.2.1, ⟨a2.2.2.2.2.1, a9.1, a9.2.1, a9.2.2.1, a9.2.2.2, _, a2.2.2.2.2.2.1, by have := a2.2.2.2.2.2.2.2; omega⟩, by omega, a11, a12⟩
set_option maxHeartbeats 2000000 in
theorem makeSame_ok [Pg] {σ : qC} {cls : List Cl} {s bn na nc : Nat} {st : Sto} {td : List Go} {ch : List Ch} {W : Wc} {t : List Ec} {ps : List (Tr × Tr)} (h : CB σ cls s bn st td ch W t na nc ps) (hps : ps.length ≤ 3) :
    ∃ σ', c_makeSame_91 σ = some (if (uni st.1 true 502 s st.2.1 false ps).1 = 0 then (if (uni st.1 true 502 s st.2.1 false ps).2.2.2 = false then 1 else 8) else gcode (uni st.1 true 502 s st.2.1 false ps).1, σ') ∧
      s ≤ (uni st.1 true 502 s st.2.1 false ps).2.1 ∧ (uni st.1 true 502 s st.2.1 false ps).1 ≤ 2 ∧
      ∃ W' t', CMd σ' cls (uni st.1 true 502 s st.2.1 false ps).2.1 bn st.1 (uni st.1 true 502 s st.2.1 false ps).2.2.1 st.2.2.1 st.2.2.2.1 st.2.2.2.2 td ch W' t' na nc := by
  obtain ⟨a1, a2, a3, a4, ⟨k1, k2, k3, k4, k5, w, k6, k7⟩, a6, a7, a8, a9, a10⟩ := h
  obtain ⟨nv, u, ns, sg, ap⟩ := st
  obtain ⟨b1, b2, b3, b4, b5, b6, b7, b8, L, R, b9, b10⟩ := a3
  obtain ⟨d1, d2, d3, d4, d5⟩ := a4
  dsimp only at *
  unfold c_makeSame_91
  dsimp only [qlet]
  rw [tshrI (a := 0) (n := w) (m := 0) k6 (by omega) rfl (by omega)]
  obtain ⟨σ1, hσ1⟩ : ∃ σ1, σ1 = upS σ (100 * 47 + 2) (Int32.ofInt ((0 : Nat) : Int)) := ⟨_, rfl⟩
  rw [← hσ1]
  have e1 : ∀ j, j ≠ 4702 → σ1.1 j = σ.1 j := fun j hj => by rw [hσ1, upS_1, if_neg (by omega)]
  have e2 : σ1.2 = σ.2 := by rw [hσ1]; rfl
  have hF1 : FrT σ σ1 := ⟨fun k _ _ _ _ _ _ => by rw [e2], fun k _ => ⟨by rw [e2], by rw [e2]⟩, fun j _ _ _ a _ _ _ _ _ _ => e1 j a⟩
  have hU1 : CU σ1 nv ns na W t u s := by
    refine ⟨a2.congr (by rw [e2]) (by rw [e2]) (by rw [e2]) (by rw [e2]) (e1 _ (by omega)) (e1 _ (by omega)) (e1 _ (by omega)) (e1 _ (by omega)), by rw [e2]; exact b1, b2, b3, by rw [e1 _ (by omega), k1], ?_, ?_, ?_⟩
    · rw [b5, hσ1, upS_1, if_pos (by omega)]
      rfl
    · rw [b5]
      intro i hi
      exact absurd hi (by simp)
    · rw [b5]
      simp
  obtain ⟨σ2, W2, t2, g1, g2, g3, g4, g5, g6, g7, g8, g9, g10, g11, g12, g13, g14, g15⟩ := gtp_ok (nv := nv) (ns := ns) (na := na) true 502 qF 0 s u false ps W t σ1 hU1 (by rw [e2]; exact a6) (by rw [e1 _ (by omega), k3]) (fun _ => b4) a9 (by omega) (by omega) (by unfold qF; omega) (by omega) (by omega)
  unfold c_goThroughPairs_92
  have g1' : c_goThroughPairs_92_l2 qF (Int32.ofInt 1) (Int32.ofInt 0) σ1 = some (gcode (uni nv true 502 s u false ps).1, σ2) := g1
  have hF2 : FrT σ σ2 := hF1.trans g5.T
  rw [g1', Option.bind_some]
  dsimp only
  have hgc : 1 ≤ gcode (uni nv true 502 s u false ps).1 ∧ gcode (uni nv true 502 s u false ps).1 < 11 := by
    unfold gcode
    split
    · omega
    · split <;> omega
  have hch : c_changes_84 σ = Int32.ofInt t.length := a2.sc
  have hch2 : c_changes_84 σ2 = Int32.ofInt t2.length := g2.1.sc
  have h62 := g2.1.2.2.2.2.2
  rw [if_pos hgc, hch, hch2]
  have hpot := g14 rfl
  rw [b5] at hpot
  simp only [List.length_nil, Nat.add_zero] at hpot
  refine ⟨σ2, ?_, g10, g12, W2, t2, hF2.stat a1, g2, g3 rfl, ?_, ?_, fun e he => (b8 e he).congr (Nat.le_refl _) hF2.book (hF2.2.1 _ (by omega)).1 (hF2.2.1 _ (by omega)).1, ⟨L, R, fun a ha => (b9 a ha).congr (Nat.le_refl _) hF2.book (hF2.2.1 _ (by omega)).2 (hF2.2.1 _ (by omega)).2, ?_⟩, ⟨by omega, by omega, by omega, by omega, by omega⟩, ⟨by rw [hF2.sc (by omega), k2], g6, by rw [hF2.sc (by omega), k4], by rw [hF2.sc (by omega), k5]⟩, hF2.td a7, ?_, g11, by omega⟩
  · by_cases c0 : (uni nv true 502 s u false ps).1 = 0
    · rw [if_pos c0]
      have hg : gcode (uni nv true 502 s u false ps).1 = 1 := by rw [c0]; rfl
      rw [hg, if_pos rfl]
      by_cases cb : (uni nv true 502 s u false ps).2.2.2 = false
      · have hle : ¬ t.length < t2.length := by
          intro z
          have := g7.mpr (Or.inr z)
          rw [cb] at this
          cases this
        rw [if_pos (zleP (by omega) (by omega) (by omega) (by omega) (by omega)), if_pos cb]
      · have hle : t.length < t2.length := by
          rcases g7.mp (by simpa using cb) with z | z
          · cases z
          · exact z
        rw [if_neg (zleN (by omega) (by omega) (by omega) (by omega) (by omega)), if_neg cb]
    · rw [if_neg c0, if_neg (by unfold gcode; rw [if_neg c0]; split <;> omega)]
  · intro a
    rw [g15]
    exact b6 a
  · rw [g15]
    exact b7
  · rw [g15]
    exact b10
  · exact ((hF2.snc a8).mono (by omega) (Nat.le_refl _) (Nat.le_refl _) (Nat.le_refl _) (Nat.le_refl _)).und g4
