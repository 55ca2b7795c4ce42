/-! D27: the class goes back to the newest choice; its search is the common one's -/
theorem tshr_sc {σ : qC} {t n m : Nat} (h : σ.1 (100 * t + 2) = Int32.ofInt n) (hn : n < 131072) (hm : m ≤ n) : tshr σ t (Int32.ofInt m) = upS σ (100 * t + 2) (Int32.ofInt m) := tshrI h hn rfl hm
set_option maxHeartbeats 4000000 in
theorem retry_ok [Pg] {σ : qC} {cls : List Cl} {s bn c : Nat} {st : Sto} {X : Tr} {rest : List Go} {ch : List Ch} (h : CFl σ cls s bn ((X, c, rest, st) :: ch)) (hc : c < cls.length) (hf : fitA X (cls.getD c clNil) = true) (m : Ma) (hm : m.1 = s ∧ m.2.1 = bn) :
    ∃ σ1 k σ' o', c_retry_109 σ = some (4, σ1) ∧ k ≤ 3 ∧ Reach σ1 4 k σ' o' ∧ CR σ' o' cls (aBack cls m X c rest st ch) := by
  obtain ⟨W, t, nv, ns, na, nc, a1, a2, a3, ⟨k1, k2, k3, k4, k5, w, k6, k7⟩, a5, a6, a7, a8⟩ := h
  obtain ⟨es, r, n, env, na1, nc1, td, h1, h2, h3, h4, ⟨r0, r1, r2, r3, r4, r5, r6, r7, r8⟩, h6, h7, h8, ⟨h9, h9a, h9b, h9c⟩, h10⟩ := a6
  have hcl := a1.2.1
  have hcw := a2.2.2.2.2.2
  rw [List.length_cons] at k5 a8
  have hd : Bd1 s na1 nc1 r st := h3
  obtain ⟨d1, d2, d3, d4, d5⟩ := h3
  unfold c_retry_109
  rw [k5, zsub, show ((ch.length + 1 : Nat) : Int) - 1 = (ch.length : Nat) by omega, z0, if_pos (zleP (by omega) (by omega) (by omega) (by omega) (by omega)), tatI (c := 4) (i := 9 * ch.length + 4) (by omega) (by omega), r4]
  rw [h1] at a2 a3
  obtain ⟨σ1, g1, g2, g3, g4, g5⟩ := goBack_ok a2 a3
  rw [g1, Option.bind_some]
  have f54 : σ1.2 54 = σ.2 54 := g3 54 (by omega) (by omega) (by omega)
  rw [tatI (c := 5) (i := 9 * ch.length + 5) (by omega) (by omega), tatI (c := 6) (i := 9 * ch.length + 6) (by omega) (by omega), tatI (c := 7) (i := 9 * ch.length + 7) (by omega) (by omega), f54, r5, r6, r7]
  unfold c_forget_110
  dsimp only [qlet]
  obtain ⟨e1, e2, e3, e4, e5, e6⟩ := g2
  rw [tshr_sc (n := nv) e4.1 (by omega) h9]
  rw [tshr_sc (t := 38) (n := ns) (by rw [upS_1, if_neg (by omega), e4.2.1]) (by omega) h9a]
  rw [tshr_sc (t := 40) (n := na) (by rw [upS_1, if_neg (by omega), upS_1, if_neg (by omega), e4.2.2.1]) (by omega) h9b, Option.bind_some]
  obtain ⟨σ2, hσ2⟩ : ∃ σ2, σ2 = upS (upS (upS σ1 (100 * 36 + 2) (Int32.ofInt st.1)) (100 * 38 + 2) (Int32.ofInt st.2.2.1)) (100 * 40 + 2) (Int32.ofInt na1) := ⟨_, rfl⟩
  rw [← hσ2]
  have s22 : σ2.2 = σ1.2 := by rw [hσ2]; rfl
  have s21 : ∀ j, j ≠ 3602 → j ≠ 3802 → j ≠ 4002 → σ2.1 j = σ1.1 j := fun j x1 x2 x3 => by rw [hσ2, upS_1, if_neg (by omega), upS_1, if_neg (by omega), upS_1, if_neg (by omega)]
  have hC2 : CW σ2 (unL es W) r st.1 st.2.2.1 na1 := by
    refine ⟨fun v hv => by rw [s22]; exact e1 v (by omega), fun k hk => by rw [s22]; exact e2 k (by omega), fun k hk => by rw [s22]; exact e3 k (by omega), ⟨?_, ?_, ?_, ?_⟩, by rw [s22]; exact e5, by omega⟩
    · rw [hσ2, upS_1, if_neg (by omega), upS_1, if_neg (by omega), upS_1, if_pos (by omega)]
    · rw [hσ2, upS_1, if_neg (by omega), upS_1, if_pos (by omega)]
    · rw [hσ2, upS_1, if_pos (by omega)]
    · rw [s21 _ (by omega) (by omega) (by omega), e4.2.2.2]
  rw [tatI (c := 8) (i := 9 * ch.length + 8) (by omega) (by omega), s22, f54, r8]
  rw [tshr_sc (t := 52) (n := nc) (by rw [s21 _ (by omega) (by omega) (by omega), g5 _ (by omega), k4]) (by omega) h9c]
  rw [tatI (c := 3) (i := 9 * ch.length + 3) (by omega) (by omega), upS_2, s22, f54, r3]
  obtain ⟨σ3, hσ3⟩ : ∃ σ3, σ3 = upS (upS σ2 (100 * 52 + 2) (Int32.ofInt nc1)) 5108 (Int32.ofInt td) := ⟨_, rfl⟩
  rw [← hσ3]
  have s32 : σ3.2 = σ1.2 := by rw [hσ3]; exact s22
  have s31 : ∀ j, j ≠ 5202 → j ≠ 5108 → σ3.1 j = σ2.1 j := fun j x1 x2 => by rw [hσ3, upS_1, if_neg (by omega), upS_1, if_neg (by omega)]
  rw [tatI (c := 0) (i := 9 * ch.length) (by omega) (by omega), tatI (c := 1) (i := 9 * ch.length + 1) (by omega) (by omega), tatI (c := 2) (i := 9 * ch.length + 2) (by omega) (by omega), s32, f54, r0, r1, r2]
  have b28 : σ1.2 28 = σ.2 28 := g3 28 (by omega) (by omega) (by omega)
  have b52 : σ1.2 52 = σ.2 52 := g3 52 (by omega) (by omega) (by omega)
  -- scalars from the start
  have sc : ∀ j, j ≠ 5202 → j ≠ 5108 → j ≠ 3602 → j ≠ 3802 → j ≠ 4002 → j ≠ 4202 → σ3.1 j = σ.1 j := fun j x1 x2 x3 x4 x5 x6 => by rw [s31 j x1 x2, s21 j x3 x4 x5, g5 j x6]
  have hst3 : CStat σ3 cls := a1.congr (by rw [s32, b28]) (by rw [s32]; exact g3 _ (by omega) (by omega) (by omega)) (by rw [s32]; exact g3 _ (by omega) (by omega) (by omega)) (sc _ (by omega) (by omega) (by omega) (by omega) (by omega) (by omega))
  have hX3 : CTx (σ3.2 28) st.1 n env X := by rw [s32, b28]; exact h6
  have hfind := find_ok hst3 hX3 h7 (c + 1) (by omega)
  rw [show Int32.ofInt (c : Int) + Int32.ofInt 1 = Int32.ofInt ((c + 1 : Nat) : Int) by rw [zadd]; rfl, hfind, Option.bind_some]
  have hC3 : CW σ3 (unL es W) r st.1 st.2.2.1 na1 := hC2.congr (by rw [s32, s22]) (by rw [s32, s22]) (by rw [s32, s22]) (by rw [s32, s22]) (s31 _ (by omega) (by omega)) (s31 _ (by omega) (by omega)) (s31 _ (by omega) (by omega)) (s31 _ (by omega) (by omega))
  have hSR3 : SR σ3 (unL es W) r na1 st := h2.congr (by rw [s32, b28]) (fun k _ hk => by rw [s32, (g4 k hk).1]) (fun k _ hk => by rw [s32, (g4 k hk).2])
  have hsn3 : SnC σ3 s ch (unL es W) r st.1 st.2.2.1 na1 nc1 := h10.congr (by rw [s32, b28]) (fun k _ hk => by rw [s32, (g4 k hk).1]) (fun k _ hk => by rw [s32, (g4 k hk).2]) (fun k _ => by rw [s32, b52]) (fun k _ => by rw [s32, f54])
  have h5202 : σ3.1 5202 = Int32.ofInt nc1 := by rw [hσ3, upS_1, if_neg (by omega), upS_1, if_pos (by omega)]
  have h5108 : σ3.1 5108 = Int32.ofInt td := by rw [hσ3, upS_1, if_pos (by omega)]
  have htd3 : ∃ x : Int, σ3.1 5108 = Int32.ofInt x ∧ RTd (σ3.2 28) (σ3.2 52) st.1 nc1 rest x := ⟨td, h5108, by rw [s32, b28, b52]; exact h8⟩
  have h5402 : σ3.1 5402 = Int32.ofInt ((ch.length + 1 : Nat) : Int) := by rw [sc _ (by omega) (by omega) (by omega) (by omega) (by omega) (by omega), k5]
  unfold aBack
  rw [hm.1, hm.2]
  by_cases hl : cls.length ≤ nfit cls X (c + 1)
  · have e0 : fitI cls (nfit cls X (c + 1)) = -1 := by unfold fitI; rw [if_pos hl]
    rw [e0, if_pos rfl, if_pos hl, tshr_sc (t := 54) (n := ch.length + 1) h5402 (by omega) (by omega)]
    obtain ⟨σ4, hσ4⟩ : ∃ σ4, σ4 = upS σ3 (100 * 54 + 2) (Int32.ofInt ch.length) := ⟨_, rfl⟩
    rw [← hσ4]
    have s42 : σ4.2 = σ3.2 := by rw [hσ4]; rfl
    have s41 : ∀ j, j ≠ 5402 → σ4.1 j = σ3.1 j := fun j x1 => by rw [hσ4, upS_1, if_neg (by omega)]
    obtain ⟨σ5, q1, nc', q2, q3⟩ := take_ok (σ := σ4) (lvl := ch.length) (ch := ch) (hst3.congr (by rw [s42]) (by rw [s42]) (by rw [s42]) (s41 _ (by omega))) (hC3.congr (by rw [s42]) (by rw [s42]) (by rw [s42]) (by rw [s42]) (s41 _ (by omega)) (s41 _ (by omega)) (s41 _ (by omega)) (s41 _ (by omega))) (hSR3.congr (by rw [s42]) (fun k _ _ => by rw [s42]) (fun k _ _ => by rw [s42])) hd (by rw [s41 _ (by omega), sc _ (by omega) (by omega) (by omega) (by omega) (by omega) (by omega), k1]) (by rw [s41 _ (by omega), sc _ (by omega) (by omega) (by omega) (by omega) (by omega) (by omega), k2]) (by rw [s41 _ (by omega), sc _ (by omega) (by omega) (by omega) (by omega) (by omega) (by omega), k3]) (by rw [s41 _ (by omega), h5202]) (by rw [hσ4, upS_1, if_pos (by omega)]) ⟨w, by rw [s41 _ (by omega), sc _ (by omega) (by omega) (by omega) (by omega) (by omega) (by omega), k6], k7⟩ (by rw [s41 _ (by omega), s42]; exact htd3) (hsn3.congr (by rw [s42]) (fun k _ _ => by rw [s42]) (fun k _ _ => by rw [s42]) (fun k _ => by rw [s42]) (fun k _ => by rw [s42])) a7 (by omega) hc (by rw [s42]; exact hX3) h7 hf (by omega)
    rw [q1, Option.bind_some]
    obtain ⟨k, σ', o', p1, p2, p3⟩ := aSame_ok (td0 := rest) q2 (by rw [prs_len]; exact q3)
    exact ⟨σ5, k, σ', o', rfl, p1, p2, p3⟩
  · have e0 : fitI cls (nfit cls X (c + 1)) = (nfit cls X (c + 1) : Nat) := by unfold fitI; rw [if_neg hl]
    rw [e0, if_neg (zeqN (by omega) (by omega) (by omega) (by omega) (by omega)), if_neg hl, tputI (i := 9 * ch.length + 2) (by omega) (by omega), Option.bind_some]
    obtain ⟨σ4, hσ4⟩ : ∃ σ4, σ4 = upA σ3 54 (9 * ch.length + 2) (Int32.ofInt ((nfit cls X (c + 1) : Nat) : Int)) := ⟨_, rfl⟩
    rw [← hσ4]
    have s41 : σ4.1 = σ3.1 := by rw [hσ4]; rfl
    have s42 : ∀ k, k ≠ 54 → σ4.2 k = σ3.2 k := fun k hk => by rw [hσ4, upA_ne hk]
    have s454 : ∀ i, σ4.2 54 i = if i = 9 * ch.length + 2 then Int32.ofInt ((nfit cls X (c + 1) : Nat) : Int) else σ.2 54 i := fun i => by rw [hσ4, upA_eq, fup_at, s32, f54]
    have e28 := s42 28 (by omega)
    have hsn4 : SnC σ4 s ((X, nfit cls X (c + 1), rest, st) :: ch) (unL es W) r st.1 st.2.2.1 na1 nc1 := by
      refine ⟨[], r, n, env, na1, nc1, td, rfl, hSR3.congr e28 (fun k _ _ => by rw [s42 38 (by omega)]) (fun k _ _ => by rw [s42 40 (by omega)]), hd, by omega, ⟨by rw [s454, if_neg (by omega), r0], by rw [s454, if_neg (by omega), r1], by rw [s454, if_pos rfl], by rw [s454, if_neg (by omega), r3], by rw [s454, if_neg (by omega), r4], by rw [s454, if_neg (by omega), r5], by rw [s454, if_neg (by omega), r6], by rw [s454, if_neg (by omega), r7], by rw [s454, if_neg (by omega), r8]⟩, by rw [e28]; exact hX3, h7, by rw [e28, s42 52 (by omega), s32, b28, b52]; exact h8, ⟨Nat.le_refl _, Nat.le_refl _, Nat.le_refl _, Nat.le_refl _⟩, ?_⟩
      exact hsn3.congr e28 (fun k _ _ => by rw [s42 38 (by omega)]) (fun k _ _ => by rw [s42 40 (by omega)]) (fun k _ => by rw [s42 52 (by omega)]) (fun k hk => by rw [s454, if_neg (by omega), s32, f54])
    obtain ⟨σ5, q1, nc', q2, q3⟩ := take_ok (σ := σ4) (lvl := ch.length) (ch := (X, nfit cls X (c + 1), rest, st) :: ch) (hst3.congr e28 (s42 _ (by omega)) (s42 _ (by omega)) (by rw [s41])) (hC3.congr (s42 _ (by omega)) (s42 _ (by omega)) (s42 _ (by omega)) (s42 _ (by omega)) (by rw [s41]) (by rw [s41]) (by rw [s41]) (by rw [s41])) (hSR3.congr e28 (fun k _ _ => by rw [s42 38 (by omega)]) (fun k _ _ => by rw [s42 40 (by omega)])) hd (by rw [s41, sc _ (by omega) (by omega) (by omega) (by omega) (by omega) (by omega), k1]) (by rw [s41, sc _ (by omega) (by omega) (by omega) (by omega) (by omega) (by omega), k2]) (by rw [s41, sc _ (by omega) (by omega) (by omega) (by omega) (by omega) (by omega), k3]) (by rw [s41, h5202]) (by rw [s41, h5402]; rfl) ⟨w, by rw [s41, sc _ (by omega) (by omega) (by omega) (by omega) (by omega) (by omega), k6], k7⟩ (by rw [s41, e28, s42 52 (by omega)]; exact htd3) hsn4 a7 (by rw [List.length_cons]; omega) hc (by rw [e28]; exact hX3) h7 hf (by omega)
    rw [q1, Option.bind_some]
    obtain ⟨k, σ', o', p1, p2, p3⟩ := aSame_ok (td0 := rest) q2 (by rw [prs_len]; exact q3)
    exact ⟨σ5, k, σ', o', rfl, p1, p2, p3⟩
