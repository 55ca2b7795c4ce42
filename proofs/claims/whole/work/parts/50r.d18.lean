/-! D18: the class takes a clause -/
set_option maxHeartbeats 2000000 in
theorem take_ok [Pg] {σ : qC} {cls : List Cl} {s bn na nc c n e : Nat} {st : Sto} {rest : List Go} {ch : List Ch} {W : Wc} {t : List Ec} {X : Tr} {lvl : Nat}
    (a1 : CStat σ cls) (a2 : CW σ W t st.1 st.2.2.1 na) (a3 : SR σ W t na st) (a4 : Bd1 s na nc t st) (k1 : σ.1 4406 = Int32.ofInt s) (k2 : σ.1 3505 = Int32.ofInt bn) (k3 : σ.1 4502 = Int32.ofInt 0) (k4 : σ.1 5202 = Int32.ofInt nc) (k5 : σ.1 5402 = Int32.ofInt ch.length) (k6 : ∃ w : Nat, σ.1 4702 = Int32.ofInt w ∧ w ≤ 20000)
    (a7 : ∃ x : Int, σ.1 5108 = Int32.ofInt x ∧ RTd (σ.2 28) (σ.2 52) st.1 nc rest x) (a8 : SnC σ s ch W t st.1 st.2.2.1 na nc) (a9 : s ≤ 500) (a10 : ch.length ≤ s) (hc : c < cls.length) (hX : CTx (σ.2 28) st.1 n e X) (hl : ¬ lab X < 0) (hf : fitA X (cls.getD c clNil) = true) (hlv : lvl ≤ 20000) :
    ∃ σ', c_take_88 (Int32.ofInt c) (Int32.ofInt n) (Int32.ofInt e) (Int32.ofInt lvl) σ = some σ' ∧ ∃ nc', CB σ' cls s (bn + clNv (cls.getD c clNil)) (st.1 + clNv (cls.getD c clNil), uNew st.2.1 st.1, st.2.2.1, st.2.2.2.1, st.2.2.2.2) (clGoals (cls.getD c clNil) st.1 lvl ++ rest) ch W t na nc' (prs (clT (cls.getD c clNil) st.1 0) X (ary (clT (cls.getD c clNil) st.1 0))) ∧ ary (clT (cls.getD c clNil) st.1 0) ≤ 3 := by
  obtain ⟨nv, u, ns, sg, ap⟩ := st
  obtain ⟨b1, b2, b3, b4, b5, b6, b7, b8, L, R, b9, b10⟩ := a3
  obtain ⟨d1, d2, d3, d4, d5⟩ := a4
  obtain ⟨s1, s2, pg, s3⟩ := a1
  obtain ⟨p1, ⟨p2, p3, p4, p5⟩, p6⟩ := s3 c hc
  dsimp only at *
  rw [uNew_id b1 b4]
  generalize hcl : cls.getD c clNil = cl at *
  unfold c_take_88
  rw [page_ok (by omega), p1]
  unfold c_makeVariables_59
  rw [varsOf_ok p2, p4, a2.2.2.2.1.1]
  obtain ⟨σ1, q1, q2, q3, q4, q5⟩ := makeVarsL_ok (env := nv) (k := clNv cl) p3 (clNv cl) 0 qF nv σ (by omega) (by unfold qF; omega) a2 (fun v hv => (b1.out b4 hv).1) (by omega) ⟨_, k2⟩
  have q1' : c_makeVariables_59_l20 qF (Int32.ofInt nv) (Int32.ofInt (clNv cl)) (Int32.ofInt 0) σ = some (Int32.ofInt nv, σ1) := q1
  rw [q1', Option.bind_some]
  dsimp only
  rw [firstGoal_ok p2, q4 30 (by omega), firstNode_ok]
  have e28 : σ1.2 28 = σ.2 28 := q4 28 (by omega)
  -- the state with the new variables
  have hSR : ∀ σ2 : qC, σ2.2 28 = σ.2 28 → σ2.2 38 = σ.2 38 → σ2.2 40 = σ.2 40 → SR σ2 W t na (nv + clNv cl, u, ns, sg, ap) := by
    intro σ2 z1 z2 z3
    refine ⟨by rw [z1]; exact b1.more (by dsimp only; omega), b2.mono (by dsimp only; omega) (Nat.le_refl _) (Nat.le_refl _), ?_, b4.more (by dsimp only; omega), b5, b6, b7, fun x hx => (b8 x hx).congr (by dsimp only; omega) z1 (by rw [z2]) (by rw [z2]), L, R, fun a ha => (b9 a ha).congr (by dsimp only; omega) z1 (by rw [z3]) (by rw [z3]), b10⟩
    intro v hv T hT hlT
    by_cases hvn : v < nv
    · exact b3 v hvn T hT hlT
    · have := (b1.out b4 (by omega : nv ≤ v)).2.1
      dsimp only at hT
      rw [this] at hT
      cases hT
  have hpot : pot (nv + clNv cl) u.2.2.2.2.1 = pot nv u.2.2.2.2.1 := pot_ext (fun v hv => (b1.out b4 hv).2.2.2.2) _
  obtain ⟨hH, hHl⟩ := p6 nv (nv + clNv cl) (Nat.le_refl _)
  have hary : ary (clT cl nv 0) = ary X := by
    obtain ⟨h0, h0l⟩ := p6 0 (clNv cl) (by omega)
    obtain ⟨-, -, a, ha3, ab, s', hs', sb, hk⟩ := hH.cases
    obtain ⟨-, -, a', ha3', ab', s'', hs'', sb', hk'⟩ := h0.cases
    rcases hk with ⟨r, -, -, z, -⟩ | ⟨-, z1, z2, -⟩
    · exact absurd (by rw [z, lab_var]; omega) hHl
    rcases hk' with ⟨r, -, -, z, -⟩ | ⟨-, w1, w2, -⟩
    · exact absurd (by rw [z, lab_var]; omega) h0l
    unfold fitA at hf
    rw [Bool.and_eq_true, decide_eq_true_eq, decide_eq_true_eq] at hf
    rw [← hf.2, z2, w2]
    rw [ab] at ab'
    have := (zeq (a := (a : Int)) (b := (a' : Int)) (by omega) (by omega) (by omega) (by omega)).mp ab'
    omega
  have hfin : ∀ (σ2 : qC) (nc' : Nat), (∀ k, k ≠ 52 → σ2.2 k = σ1.2 k) → (∀ j, j ≠ 5108 → j ≠ 5202 → σ2.1 j = σ1.1 j) → (∀ k, k < 4 * nc → σ2.2 52 k = σ.2 52 k) → nc ≤ nc' → nc' ≤ nc + 1 → σ2.1 5202 = Int32.ofInt nc' → (∃ x : Int, σ2.1 5108 = Int32.ofInt x ∧ RTd (σ2.2 28) (σ2.2 52) (nv + clNv cl) nc' (clGoals cl nv lvl ++ rest) x) →
      ∃ σ', (c_pushArguments_89 (Int32.ofInt ((48 * pg c : Nat) : Int)) (Int32.ofInt nv) (Int32.ofInt n) (Int32.ofInt e) σ2).bind (fun p => some p) = some σ' ∧ ∃ nc', CB σ' cls s (bn + clNv cl) (nv + clNv cl, u, ns, sg, ap) (clGoals cl nv lvl ++ rest) ch W t na nc' (prs (clT cl nv 0) X (ary (clT cl nv 0))) ∧ ary (clT cl nv 0) ≤ 3 := by
    intro σ2 nc' z1 z2 z3 z4 z4' z5 z6
    have f28 : σ2.2 28 = σ.2 28 := by rw [z1 28 (by omega), e28]
    obtain ⟨h3, σ3, w1, w2, w3, w4, w5⟩ := pushArgs_ok (σ := σ2) (nv := nv + clNv cl) (ps := []) (a := ary (clT cl nv 0)) (by rw [f28]; exact hH) (by rw [f28]; exact hX.mono (by omega)) hHl hl rfl hary.symm trivial (by rw [z2 _ (by omega) (by omega), q5 _ (by omega) (by omega), k3]; rfl) (by simp)
    rw [w1, Option.bind_some]
    rw [List.append_nil] at w2 w3
    have g2 : ∀ k, k ≠ 45 → k ≠ 52 → k ≠ 36 → σ3.2 k = σ.2 k := fun k x1 x2 x3 => by rw [w4 k x1, z1 k x2, q4 k x3]
    have g1 : ∀ j, j ≠ 4502 → j ≠ 5108 → j ≠ 5202 → j ≠ 3602 → j ≠ 3505 → σ3.1 j = σ.1 j := fun j x1 x2 x3 x4 x5 => by rw [w5 j x1, z2 j x2 x3, q5 j x4 x5]
    have g28 := g2 28 (by omega) (by omega) (by omega)
    refine ⟨σ3, rfl, nc', ⟨?_, ?_, ?_, ?_, ?_, ?_, ?_, ?_, a9, a10⟩, h3⟩
    · refine CStat.congr ⟨s1, s2, pg, fun i hi => ?_⟩ g28 (g2 _ (by omega) (by omega) (by omega)) (g2 _ (by omega) (by omega) (by omega)) (g1 _ (by omega) (by omega) (by omega) (by omega) (by omega))
      exact s3 i hi
    · exact q2.congr (by rw [w4 36 (by omega), z1 36 (by omega)]) (by rw [w4 38 (by omega), z1 38 (by omega)]) (by rw [w4 40 (by omega), z1 40 (by omega)]) (by rw [w4 42 (by omega), z1 42 (by omega)]) (by rw [w5 _ (by omega), z2 _ (by omega) (by omega)]) (by rw [w5 _ (by omega), z2 _ (by omega) (by omega)]) (by rw [w5 _ (by omega), z2 _ (by omega) (by omega)]) (by rw [w5 _ (by omega), z2 _ (by omega) (by omega)])
    · exact hSR σ3 g28 (g2 _ (by omega) (by omega) (by omega)) (g2 _ (by omega) (by omega) (by omega))
    · exact ⟨by (try dsimp only); omega, by (try dsimp only); omega, by (try dsimp only); omega, by (try dsimp only); omega, by (try dsimp only); omega⟩
    · obtain ⟨w, k6, k7⟩ := k6
      refine ⟨by rw [g1 _ (by omega) (by omega) (by omega) (by omega) (by omega), k1], ?_, w3, by rw [w5 _ (by omega), z5], by rw [g1 _ (by omega) (by omega) (by omega) (by omega) (by omega), k5], w, by rw [g1 _ (by omega) (by omega) (by omega) (by omega) (by omega), k6], k7⟩
      rw [w5 _ (by omega), z2 _ (by omega) (by omega), q3, k2, zadd]
      rfl
    · exact w2
    · obtain ⟨x, x1, x2⟩ := z6
      exact ⟨x, by rw [w5 _ (by omega), x1], by rw [w4 28 (by omega), w4 52 (by omega)]; exact x2⟩
    · refine (a8.congr g28 (fun k _ _ => by rw [g2 38 (by omega) (by omega) (by omega)]) (fun k _ _ => by rw [g2 40 (by omega) (by omega) (by omega)]) (fun k hk => by rw [w4 52 (by omega), z3 k hk]) (fun k _ => by rw [g2 54 (by omega) (by omega) (by omega)])).mono (Nat.le_refl _) (by dsimp only; omega) (Nat.le_refl _) (Nat.le_refl _) z4
  obtain ⟨x, x1, x2⟩ := a7
  have xl := x2.lt
  cases hg : cl.2.2 with
  | nil =>
    rw [hg] at p5
    have p5 : σ.2 30 (4 * pg c + 1) = Int32.ofInt (-1) := p5
    rw [p5, if_pos rfl]
    refine hfin σ1 nc (fun _ _ => rfl) (fun _ _ _ => rfl) (fun k _ => by rw [q4 52 (by omega)]) (Nat.le_refl _) (by omega) (by rw [q5 _ (by omega) (by omega), k4]) ⟨x, by rw [q5 _ (by omega) (by omega), x1], ?_⟩
    unfold clGoals
    rw [hg, e28, q4 52 (by omega)]
    exact x2.mono (by omega) (Nat.le_refl _) (fun _ _ => rfl)
  | cons g gs =>
    have hcells : ∀ (C : Nat → Int32), (∀ i, i < 4 * nc → C i = σ.2 52 i) → ∃ n0 : Nat, σ.2 30 (4 * pg c + 1) = Int32.ofInt n0 ∧ n0 < 624 ∧ RG (σ.2 28) C (nv + clNv cl) (nc + 1) (clGoals cl nv lvl ++ rest) n0 nv lvl x := by
      intro C hC
      exact RGl.goals (C := C) (nc := nc + 1) (lvl := lvl) (Nat.le_refl _) (x2.mono (by omega) (by omega) hC) p5 (by rw [hg]; simp)
    obtain ⟨n0, n1, n2, -⟩ := hcells (σ.2 52) (fun _ _ => rfl)
    rw [n1, if_neg (zeqN (by omega) (by omega) (by omega) (by omega) (by omega)), tappI (n := nc) (by rw [q5 _ (by omega) (by omega), k4]) (by omega) (by omega), Option.bind_some, q5 _ (by omega) (by omega), x1, q5 _ (by omega) (by omega), k4]
    dsimp only [qlet]
    have hcell : ∀ k, k < 4 * nc → fup (fup (fup (fup (σ1.2 52) (nc * 4) (Int32.ofInt n0)) (nc * 4 + 1) (Int32.ofInt nv)) (nc * 4 + 2) (Int32.ofInt lvl)) (nc * 4 + 3) (Int32.ofInt x) k = σ.2 52 k := by
      intro k hk
      rw [fup_at, if_neg (by omega), fup_at, if_neg (by omega), fup_at, if_neg (by omega), fup_at, if_neg (by omega), q4 52 (by omega)]
    refine hfin _ (nc + 1) (fun k hk => by rw [upS_2, upS_2, tap4_2, if_neg hk]) (fun j h1 h2 => by rw [upS_1, if_neg h1, upS_1, if_neg (by omega)]; rfl) (fun k hk => by rw [upS_2, upS_2, tap4_2, if_pos rfl, hcell k hk]) (by omega) (Nat.le_refl _) (by rw [upS_1, if_neg (by omega), upS_1, if_pos (by omega)]; rfl) ⟨nc, by rw [upS_1, if_pos rfl], Or.inr ⟨nc, n0, nv, lvl, x, rfl, by omega, ?_, ?_, ?_, ?_, by omega, hlv, ?_⟩⟩
    · rw [upS_2, upS_2, tap4_2, if_pos rfl, fup_at, if_neg (by omega), fup_at, if_neg (by omega), fup_at, if_neg (by omega), fup_at, if_pos (by omega)]
    · rw [upS_2, upS_2, tap4_2, if_pos rfl, fup_at, if_neg (by omega), fup_at, if_neg (by omega), fup_at, if_pos (by omega)]
    · rw [upS_2, upS_2, tap4_2, if_pos rfl, fup_at, if_neg (by omega), fup_at, if_pos (by omega)]
    · rw [upS_2, upS_2, tap4_2, if_pos rfl, fup_at, if_pos (by omega)]
    · rw [upS_2, upS_2, tap4_2, if_neg (by omega), e28, tap4_2, if_pos rfl]
      obtain ⟨n0', n1', n2', n3'⟩ := hcells _ hcell
      rw [n1] at n1'
      have := (zeq (a := (n0 : Int)) (b := (n0' : Int)) (by omega) (by omega) (by omega) (by omega)).mp n1'
      have : n0' = n0 := by omega
      rw [this] at n3'
      exact n3'
