/-! D53: the reference goes back -/
set_option maxHeartbeats 4000000 in
theorem back_m {σ : qC} {cls : List Cl} {s bn c n : Nat} {st : Sto} {X : Tr} {rest : List Go} {ch : List Ch} (h : MFl σ cls s bn ((X, c, rest, st) :: ch) 0) (hc : c < cls.length) (hf : fitA X (cls.getD c clNil) = true) (m : Ma) (hm : m.1 = s ∧ m.2.1 = bn) :
    ∃ σ', m_back_149_l0 (n + 1) σ = (if (aBack cls m X c rest st ch).1 = 0 then some (Int32.ofInt 1, σ') else m_back_149_l0 n σ') ∧ MR σ' cls (aBack cls m X c rest st ch) ∧ (σ'.1 6431 = σ.1 6431 ∧ σ'.1 6438 = σ.1 6438) := by
  obtain ⟨W, t, nv, ns, na, nc, ng, a1, a2, a3, ⟨k1, k2, k3⟩, ⟨k4, k5⟩, a6, a7, a8⟩ := h
  obtain ⟨es, r, x, td, na1, nc1, ng1, h1, h2, h3, h4, ⟨r0, r1, r2, r3, r4, r5, r6, r7, r8⟩, h6, h7, h8, ⟨h9, h9a, h9b, h9c, h9d⟩, h10⟩ := a6
  have h12 := a1.2.1
  rw [List.length_cons] at k5 a8
  have hd : Bm1 s na1 nc1 ng1 r st := h3
  obtain ⟨d1, d2, d3, d4, d5, d6⟩ := h3
  have hcw := a2.2.2.2.2.2
  have hnx := nextFit_m a1 h6 h7 (by omega : nc1 ≤ 24000) (i := c + 1) (a := (c : Int) + 1) (by omega) (by omega)
  have hge : nfit cls X (c + 1) ≤ cls.length := by
    have := List.findIdx_le_length (p := fitA X) (xs := cls.drop (c + 1))
    rw [List.length_drop] at this
    show c + 1 + _ ≤ _
    omega
  conv => enter [1, σ', 1, 1]; unfold m_back_149_l0
  rw [k5, z0, if_neg (zleN (by omega) (by omega) (by omega) (by omega) (by omega)), k3, if_pos rfl, zsub, agetI (i := ch.length) (by omega) (by omega) (by omega), Option.bind_some, r1, agetI (i := ch.length) (by omega) (by omega) (by omega), Option.bind_some, r0, zadd, hnx, Option.bind_some, agetI (i := ch.length) (by omega) (by omega) (by omega), Option.bind_some, r6]
  rw [h1] at a2 a3 hcw
  have hes : es.length < qF := by
    rw [List.length_append] at hcw
    unfold qF
    omega
  obtain ⟨σ1, u1, u2, u3, u4⟩ := undoL_ok es r qF σ W nv ns na a2 a3 hes
  have u1' : m_undo_152 (Int32.ofInt r.length) σ = some σ1 := u1
  rw [u1', Option.bind_some]
  have w94 : ∀ k, 94 ≤ k → k ≤ 102 → σ1.2 k = σ.2 k := fun k ha hb => u3 k (by omega) (by omega) (by omega) (by omega) (by omega)
  dsimp only [qlet]
  rw [agetI (i := ch.length) (by omega) (by omega) (by omega), Option.bind_some, w94 97 (by omega) (by omega), r3, upS_2, agetI (i := ch.length) (by omega) (by omega) (by omega), Option.bind_some, w94 98 (by omega) (by omega), r4, upS_2, upS_2, agetI (i := ch.length) (by omega) (by omega) (by omega), Option.bind_some, w94 99 (by omega) (by omega), r5, upS_2, upS_2, upS_2, agetI (i := ch.length) (by omega) (by omega) (by omega), Option.bind_some, w94 101 (by omega) (by omega), r7, upS_2, upS_2, upS_2, upS_2, agetI (i := ch.length) (by omega) (by omega) (by omega), Option.bind_some, w94 102 (by omega) (by omega), r8, aputI (i := ch.length) (by omega) (by omega) (by omega), Option.bind_some]
  obtain ⟨σ2, hσ2⟩ : ∃ σ2, σ2 = upA (upS (upS (upS (upS (upS σ1 6425 (Int32.ofInt nc1)) 6426 (Int32.ofInt st.1)) 6428 (Int32.ofInt ng1)) 6434 (Int32.ofInt st.2.2.1)) 6435 (Int32.ofInt na1)) 95 ch.length (Int32.ofInt (nfit cls X (c + 1) : Nat)) := ⟨_, rfl⟩
  rw [← hσ2]
  have s1 : ∀ j, j ≠ 6425 → j ≠ 6426 → j ≠ 6428 → j ≠ 6434 → j ≠ 6435 → j ≠ 6432 → σ2.1 j = σ.1 j := fun j x1 x2 x3 x4 x5 x6 => by rw [hσ2, upA_1, upS_1, if_neg x5, upS_1, if_neg x4, upS_1, if_neg x3, upS_1, if_neg x2, upS_1, if_neg x1, u4 j x6]
  have s2 : ∀ k, k ≠ 75 → k ≠ 76 → k ≠ 77 → k ≠ 86 → k ≠ 89 → k ≠ 95 → σ2.2 k = σ.2 k := fun k x1 x2 x3 x4 x5 x6 => by rw [hσ2, upA_ne x6]; exact u3 k x1 x2 x3 x4 x5
  have s21 : ∀ k, k ≠ 95 → σ2.2 k = σ1.2 k := fun k x6 => by rw [hσ2, upA_ne x6]; rfl
  have s95 : ∀ i, σ2.2 95 i = if i = ch.length then Int32.ofInt (nfit cls X (c + 1) : Nat) else σ.2 95 i := fun i => by rw [hσ2, upA_eq, fup_at, ← w94 95 (by omega) (by omega)]; rfl
  have c6425 : σ2.1 6425 = Int32.ofInt nc1 := by rw [hσ2, upA_1, upS_1, if_neg (by omega), upS_1, if_neg (by omega), upS_1, if_neg (by omega), upS_1, if_neg (by omega), upS_1, if_pos rfl]
  have c6426 : σ2.1 6426 = Int32.ofInt st.1 := by rw [hσ2, upA_1, upS_1, if_neg (by omega), upS_1, if_neg (by omega), upS_1, if_neg (by omega), upS_1, if_pos rfl]
  have c6428 : σ2.1 6428 = Int32.ofInt ng1 := by rw [hσ2, upA_1, upS_1, if_neg (by omega), upS_1, if_neg (by omega), upS_1, if_pos rfl]
  have c6434 : σ2.1 6434 = Int32.ofInt st.2.2.1 := by rw [hσ2, upA_1, upS_1, if_neg (by omega), upS_1, if_pos rfl]
  have c6435 : σ2.1 6435 = Int32.ofInt na1 := by rw [hσ2, upA_1, upS_1, if_pos rfl]
  have c6432 : σ2.1 6432 = Int32.ofInt r.length := by rw [hσ2, upA_1, upS_1, if_neg (by omega), upS_1, if_neg (by omega), upS_1, if_neg (by omega), upS_1, if_neg (by omega), upS_1, if_neg (by omega)]; exact u2.2.2.2.1.2.2.2
  have e72 := s2 72 (by omega) (by omega) (by omega) (by omega) (by omega) (by omega)
  have e73 := s2 73 (by omega) (by omega) (by omega) (by omega) (by omega) (by omega)
  have e74 := s2 74 (by omega) (by omega) (by omega) (by omega) (by omega) (by omega)
  have e78 : ∀ i, σ2.2 78 i = σ.2 78 i ∧ σ2.2 79 i = σ.2 79 i ∧ σ2.2 80 i = σ.2 80 i ∧ σ2.2 81 i = σ.2 81 i ∧ σ2.2 82 i = σ.2 82 i := fun i => ⟨by rw [s2 78 (by omega) (by omega) (by omega) (by omega) (by omega) (by omega)], by rw [s2 79 (by omega) (by omega) (by omega) (by omega) (by omega) (by omega)], by rw [s2 80 (by omega) (by omega) (by omega) (by omega) (by omega) (by omega)], by rw [s2 81 (by omega) (by omega) (by omega) (by omega) (by omega) (by omega)], by rw [s2 82 (by omega) (by omega) (by omega) (by omega) (by omega) (by omega)]⟩
  have e85 := s2 85 (by omega) (by omega) (by omega) (by omega) (by omega) (by omega)
  have e87 := s2 87 (by omega) (by omega) (by omega) (by omega) (by omega) (by omega)
  have e88 := s2 88 (by omega) (by omega) (by omega) (by omega) (by omega) (by omega)
  have hX2 : MTx (σ2.2 72) (σ2.2 73) (σ2.2 74) st.1 nc1 x X := by rw [e72, e73, e74]; exact h6
  have a12 : MStat σ2 cls := a1.congr (s1 _ (by omega) (by omega) (by omega) (by omega) (by omega) (by omega)) (s2 _ (by omega) (by omega) (by omega) (by omega) (by omega) (by omega)) (s2 _ (by omega) (by omega) (by omega) (by omega) (by omega) (by omega))
  have h22 : SRm σ2 (unmL es W) r na1 nc1 st := h2.congr (fun _ _ => by rw [e72]) (fun _ _ => by rw [e73]) (fun _ _ => by rw [e74]) (fun _ _ => by rw [e85]) (fun _ _ => ⟨by rw [e87], by rw [e88]⟩)
  have hB2 : MB σ2 st.1 nc1 st.2.2.1 na1 (unmL es W) r st.2.1 s 0 := by
    obtain ⟨q1, q2, q3, -⟩ := h22
    obtain ⟨x1, x2, x3, x4, x5, x6⟩ := u2
    refine ⟨⟨fun v hv => ?_, fun k hk => ?_, fun k hk => ?_, ⟨c6426, c6434, c6435, c6432⟩, ?_, by omega⟩, q1, q2, q3, ⟨by rw [s1 _ (by omega) (by omega) (by omega) (by omega) (by omega) (by omega), k1], by rw [s1 _ (by omega) (by omega) (by omega) (by omega) (by omega) (by omega), k2], by rw [s1 _ (by omega) (by omega) (by omega) (by omega) (by omega) (by omega), k3]⟩, by omega, a7⟩
    · rw [s21 75 (by omega), s21 76 (by omega), s21 77 (by omega)]
      exact x1 v (by omega)
    · rw [s21 86 (by omega)]
      exact x2 k (by omega)
    · rw [s21 89 (by omega)]
      exact x3 k (by omega)
    · rw [s21 83 (by omega), s21 84 (by omega)]
      exact x5
  have h82 : RTM σ2 st.1 nc1 ng1 rest td := h8.mono (Nat.le_refl _) (Nat.le_refl _) (Nat.le_refl _) (fun _ _ => by rw [e72]) (fun _ _ => by rw [e73]) (fun _ _ => by rw [e74]) (fun i _ => e78 i)
  have h102 : SnM σ2 s ch (unmL es W) r st.1 st.2.2.1 na1 nc1 ng1 := h10.congr (fun _ _ => by rw [e72]) (fun _ _ => by rw [e73]) (fun _ _ => by rw [e74]) (fun _ _ => by rw [e85]) (fun _ _ => ⟨by rw [e87], by rw [e88]⟩) (fun i _ => e78 i) (fun k i ha hb hi => by
    by_cases hk : k = 95
    · rw [hk, s95, if_neg (by omega)]
    · rw [s2 k (by omega) (by omega) (by omega) (by omega) (by omega) hk])
  rw [s1 6408 (by omega) (by omega) (by omega) (by omega) (by omega) (by omega), a1.1]
  have c96 : σ2.2 96 = σ.2 96 := s2 96 (by omega) (by omega) (by omega) (by omega) (by omega) (by omega)
  have c6433 : σ2.1 6433 = Int32.ofInt ((ch.length + 1 : Nat) : Int) := by rw [s1 _ (by omega) (by omega) (by omega) (by omega) (by omega) (by omega), k5]
  have hch1 : ((ch.length + 1 : Nat) : Int) - 1 = ch.length := by omega
  have fin : ∀ (r : Nat × Ma) (i1 i2 i3 i4 : Int32) (σx : qC), (∃ σ', m_take_153 i1 i2 i3 i4 σx = some (Int32.ofInt (if r.1 = 0 then 1 else 0), σ') ∧ MR σ' cls r) → σx.1 6431 = σ.1 6431 → σx.1 6438 = σ.1 6438 → ∃ σ', ((m_take_153 i1 i2 i3 i4 σx).bind (fun p40 => if p40.1 = Int32.ofInt 0 then (m_back_149_l0 n) p40.2 else some (Int32.ofInt 1, p40.2))) = (if r.1 = 0 then some (Int32.ofInt 1, σ') else m_back_149_l0 n σ') ∧ MR σ' cls r ∧ (σ'.1 6431 = σ.1 6431 ∧ σ'.1 6438 = σ.1 6438) := by
    rintro r i1 i2 i3 i4 σx ⟨σ', p1, p2⟩ y1 y2
    have hw := m_take_153_fr (L := fun x => x ∈ _) (A := fun x => x ∈ _) (σ0 := σx) (fun x hx => hx) (fun x hx => hx) i1 i2 i3 i4 σx Wr.refl _ p1
    refine ⟨σ', ?_, p2, by rw [hw.1 _ (by decide), y1], by rw [hw.1 _ (by decide), y2]⟩
    rw [p1, Option.bind_some]
    by_cases h0 : r.1 = 0
    · simp only [h0, if_true]
      rw [if_neg (by decide)]
    · simp only [h0, if_false]
      exact if_pos trivial
  by_cases hl : cls.length ≤ nfit cls X (c + 1)
  · have e : nfit cls X (c + 1) = cls.length := by omega
    have eB : aBack cls m X c rest st ch = aTake cls (s, bn, st, rest, ch) c X rest ch.length := by
      unfold aBack
      rw [if_pos hl, hm.1, hm.2]
    rw [if_pos (by rw [e]), eB, upS_2, c96, agetI (i := ch.length) (by omega) (by omega) (by omega), Option.bind_some, r2, c6433, zsub, hch1]
    obtain ⟨σ3, hσ3⟩ : ∃ σ3, σ3 = upS σ2 6433 (Int32.ofInt (ch.length : Int)) := ⟨_, rfl⟩
    rw [← hσ3]
    have t1 : ∀ j, j ≠ 6433 → σ3.1 j = σ2.1 j := fun j hj => by rw [hσ3, upS_1, if_neg hj]
    have t2 : σ3.2 = σ2.2 := by rw [hσ3]; rfl
    refine fin _ _ _ _ _ _ ?_ (by rw [t1 _ (by omega), s1 _ (by omega) (by omega) (by omega) (by omega) (by omega) (by omega)]) (by rw [t1 _ (by omega), s1 _ (by omega) (by omega) (by omega) (by omega) (by omega) (by omega)])
    obtain ⟨m1, m2, m3, m4, ⟨m5, m6, m7⟩, m8, m9⟩ := hB2
    exact take_m (td0 := rest) (a12.congr (t1 _ (by omega)) (by rw [t2]) (by rw [t2])) ⟨m1.congr (fun _ _ => by rw [t2]) (fun j hj => t1 j (by omega)), m2.congr (Nat.le_refl _) (Nat.le_refl _) (fun _ _ => by rw [t2]) (fun _ _ => by rw [t2]) (fun _ _ => by rw [t2]), m3, m4, ⟨by rw [t1 _ (by omega), m5], by rw [t1 _ (by omega), m6], by rw [t1 _ (by omega), m7]⟩, m8, m9⟩ (h22.congr (fun _ _ => by rw [t2]) (fun _ _ => by rw [t2]) (fun _ _ => by rw [t2]) (fun _ _ => by rw [t2]) (fun _ _ => ⟨by rw [t2], by rw [t2]⟩)) hd (by rw [t1 _ (by omega), s1 _ (by omega) (by omega) (by omega) (by omega) (by omega) (by omega), k4]) (by rw [t1 _ (by omega), c6425]) (by rw [t1 _ (by omega), c6428]) (by rw [hσ3, upS_1, if_pos rfl]) (h82.mono (Nat.le_refl _) (Nat.le_refl _) (Nat.le_refl _) (fun _ _ => by rw [t2]) (fun _ _ => by rw [t2]) (fun _ _ => by rw [t2]) (fun i _ => by rw [t2]; exact ⟨rfl, rfl, rfl, rfl, rfl⟩)) (h102.congr (fun _ _ => by rw [t2]) (fun _ _ => by rw [t2]) (fun _ _ => by rw [t2]) (fun _ _ => by rw [t2]) (fun _ _ => ⟨by rw [t2], by rw [t2]⟩) (fun i _ => by rw [t2]; exact ⟨rfl, rfl, rfl, rfl, rfl⟩) (fun k i _ _ _ => by rw [t2])) (by omega) hc (by rw [t2]; exact hX2) h7 hf (by omega)
  · have eB : aBack cls m X c rest st ch = aTake cls (s, bn, st, rest, (X, nfit cls X (c + 1), rest, st) :: ch) c X rest ch.length := by
      unfold aBack
      rw [if_neg hl, hm.1, hm.2]
    rw [if_neg (zeqN (by omega) (by omega) (by omega) (by omega) (by omega)), eB, c96, agetI (i := ch.length) (by omega) (by omega) (by omega), Option.bind_some, r2, hch1]
    refine fin _ _ _ _ _ _ ?_ (by rw [s1 _ (by omega) (by omega) (by omega) (by omega) (by omega) (by omega)]) (by rw [s1 _ (by omega) (by omega) (by omega) (by omega) (by omega) (by omega)])
    have e94 : ∀ k, 94 ≤ k → k ≤ 102 → k ≠ 95 → σ2.2 k = σ.2 k := fun k ha hb hk => s2 k (by omega) (by omega) (by omega) (by omega) (by omega) hk
    have hsn : SnM σ2 s ((X, nfit cls X (c + 1), rest, st) :: ch) (unmL es W) r st.1 st.2.2.1 na1 nc1 ng1 := ⟨[], r, x, td, na1, nc1, ng1, rfl, h22, hd, by omega, ⟨by rw [e94 _ (by omega) (by omega) (by omega), r0], by rw [s95, if_pos rfl], by rw [e94 _ (by omega) (by omega) (by omega), r2], by rw [e94 _ (by omega) (by omega) (by omega), r3], by rw [e94 _ (by omega) (by omega) (by omega), r4], by rw [e94 _ (by omega) (by omega) (by omega), r5], by rw [e94 _ (by omega) (by omega) (by omega), r6], by rw [e94 _ (by omega) (by omega) (by omega), r7], by rw [e94 _ (by omega) (by omega) (by omega), r8]⟩, hX2, h7, h82, ⟨Nat.le_refl _, Nat.le_refl _, Nat.le_refl _, Nat.le_refl _, Nat.le_refl _⟩, h102⟩
    exact take_m (td0 := rest) (ch := (X, nfit cls X (c + 1), rest, st) :: ch) a12 hB2 h22 hd (by rw [s1 _ (by omega) (by omega) (by omega) (by omega) (by omega) (by omega), k4]) c6425 c6428 (by rw [c6433]; rfl) h82 hsn (by rw [List.length_cons]; omega) hc hX2 h7 hf (by omega)
