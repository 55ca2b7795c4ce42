/-! D15: tests and waking, in the search -/
set_option maxHeartbeats 2000000 in
theorem tests_ok [Pg] {σ : qC} {cls : List Cl} {s bn nv ns na nc : Nat} {u : Us} {sg : Nat → Tr} {ap : List (Tr × Tr)} {td : List Go} {ch : List Ch} {W : Wc} {t : List Ec} (h : CMd σ cls s bn nv u ns sg ap td ch W t na nc) :
    ∃ σ', c_testAparts_97 σ = some (acode (tall nv u ap s).1, σ') ∧ s ≤ (tall nv u ap s).2.1 ∧ (tall nv u ap s).1 ≤ 2 ∧ ((tall nv u ap s).1 ≠ 0 → CFl σ' cls (tall nv u ap s).2.1 bn ch) ∧
      ((tall nv u ap s).1 = 0 → ∃ W' t', CMd σ' cls (tall nv u ap s).2.1 bn nv u ns sg (tall nv u ap s).2.2 td ch W' t' na nc) := by
  obtain ⟨a1, a2, a3, a4, a5, a6, ⟨L, R, a7, a7'⟩, a8, a9, a10, a11, a12, a13⟩ := h
  obtain ⟨σ', W', t', q1, q2, q3, q4, q5, q6, q7, q8, q9, q10, q11, q12, q13⟩ := testAparts_ok (nv := nv) (ns := ns) (na := na) (u := u) (L := L) (R := R) na 0 qF s W t σ (by omega) a2 a9.2.1 a4 a7 (by unfold qF; omega) a12 (by omega)
  rw [← a7'] at q1 q2 q6 q7 q8 q9 q13
  have hsn : SnC σ' (tall nv u ap s).2.1 ch W' t' nv ns na nc := ((q4.snc a11).mono (by omega) (Nat.le_refl _) (Nat.le_refl _) (Nat.le_refl _) (Nat.le_refl _)).und q5
  refine ⟨σ', q1, q6, q8, fun _ => ?_, fun hc => ⟨W', t', q4.stat a1, q2, a3, q10, fun a ha => by rw [q12 a (by omega)]; exact a5 a ha, fun e he => (a6 e he).congr (Nat.le_refl _) q4.book (q4.2.1 _ (by omega)).1 (q4.2.1 _ (by omega)).1, ⟨L, R, fun a ha => (a7 a ha).congr (Nat.le_refl _) q4.book (q4.2.1 _ (by omega)).2 (q4.2.1 _ (by omega)).2, (q13 hc).symm⟩, ⟨by omega, by omega, by omega, by omega, by omega⟩, ⟨by rw [q4.sc (by omega), a9.1], q3, by rw [q4.sc (by omega), a9.2.2.1], by rw [q4.sc (by omega), a9.2.2.2]⟩, q4.td a10, hsn, q7, by omega⟩⟩
  exact ⟨W', t', nv, ns, na, nc, q4.stat a1, q2.1, q2.2.2.1, ⟨q2.2.2.2.2.1, by rw [q4.sc (by omega), a9.1], q3, by rw [q4.sc (by omega), a9.2.2.1], by rw [q4.sc (by omega), a9.2.2.2], _, q2.2.2.2.2.2.1, by have := q2.2.2.2.2.2.2.2; omega⟩, by omega, hsn, q7, by omega⟩
/-- a call is put in front -/
theorem front_ok [Pg] {σ : qC} {nv nc n env : Nat} {X : Tr} {td : List Go} (hT : ∃ x : Int, σ.1 5108 = Int32.ofInt x ∧ RTd (σ.2 28) (σ.2 52) nv nc td x) (hC : σ.1 5202 = Int32.ofInt nc) (hnc : nc < 20000) (hn : n < 624 ∧ pgv n) (hx : CTx (σ.2 28) nv n env X) (h5 : σ.2 28 (9 * n + 5) = Int32.ofInt 40) (h7 : σ.2 28 (9 * n + 7) = Int32.ofInt (-1)) :
    ∃ σ', c_putInFront_75 (Int32.ofInt n) (Int32.ofInt env) σ = some σ' ∧ (∃ x : Int, σ'.1 5108 = Int32.ofInt x ∧ RTd (σ'.2 28) (σ'.2 52) nv (nc + 1) ((1, X, X, 0) :: td) x) ∧ σ'.1 5202 = Int32.ofInt (nc + 1 : Nat) ∧ (∀ k, k ≠ 52 → σ'.2 k = σ.2 k) ∧ (∀ k, k < 4 * nc → σ'.2 52 k = σ.2 52 k) ∧ (∀ j, j ≠ 5108 → j ≠ 5202 → σ'.1 j = σ.1 j) := by
  obtain ⟨x, x1, x2⟩ := hT
  have xl := x2.lt
  unfold c_putInFront_75
  rw [tappI (n := nc) hC (by omega) (by omega), Option.bind_some, x1, hC]
  dsimp only [qlet]
  have hcell : ∀ k, k < 4 * nc → fup (fup (fup (fup (σ.2 52) (nc * 4) (Int32.ofInt n)) (nc * 4 + 1) (Int32.ofInt env)) (nc * 4 + 2) (Int32.ofInt 0)) (nc * 4 + 3) (Int32.ofInt x) k = σ.2 52 k := by
    intro k hk
    rw [fup_at, if_neg (by omega), fup_at, if_neg (by omega), fup_at, if_neg (by omega), fup_at, if_neg (by omega)]
  refine ⟨_, rfl, ⟨nc, by rw [upS_1, if_pos rfl], Or.inr ⟨nc, n, env, 0, x, rfl, by omega, ?_, ?_, ?_, ?_, by omega, by omega, ?_⟩⟩, ?_, fun k hk => by rw [upS_2, upS_2, tap4_2, if_neg hk], fun k hk => by rw [upS_2, upS_2, tap4_2, if_pos rfl, hcell k hk], fun j h1 h2 => by rw [upS_1, if_neg h1, upS_1, if_neg (by omega)]; rfl⟩
  · rw [upS_2, upS_2, tap4_2, if_pos rfl, fup_at, if_neg (by omega), fup_at, if_neg (by omega), fup_at, if_neg (by omega), fup_at, if_pos (by omega)]
  · rw [upS_2, upS_2, tap4_2, if_pos rfl, fup_at, if_neg (by omega), fup_at, if_neg (by omega), fup_at, if_pos (by omega)]
  · rw [upS_2, upS_2, tap4_2, if_pos rfl, fup_at, if_neg (by omega), fup_at, if_pos (by omega)]
    rfl
  · rw [upS_2, upS_2, tap4_2, if_pos rfl, fup_at, if_pos (by omega)]
  · rw [upS_2, upS_2, tap4_2, if_neg (by omega), tap4_2, if_pos rfl]
    refine ⟨⟨hn.1, hx.cases.2.1, ⟨by show 1 ≤ 5; omega, hn.2⟩, rfl, h5, fun _ => hx, fun z => by omega⟩, Or.inl ⟨h7, ?_⟩⟩
    rcases x2.mono (Nat.le_refl _) (Nat.le_succ _) hcell with z | ⟨c, n', env', lvl', bh', z⟩
    · exact Or.inl z
    · exact Or.inr ⟨c, n', env', lvl', bh', z⟩
  · rw [upS_1, if_neg (by omega), upS_1, if_pos (by omega)]
    rfl
theorem wokenL_ok [Pg] {nv ns : Nat} {sg : Nat → Tr} {wk : List Nat} (hns : ns ≤ 20000) : ∀ (k n nc : Nat) (td : List Go) (σ : qC), (∃ x : Int, σ.1 5108 = Int32.ofInt x ∧ RTd (σ.2 28) (σ.2 52) nv nc td x) → σ.1 5202 = Int32.ofInt nc → nc + k < 20000 → RWk (σ.2 47) wk → k ≤ wk.length → wk.length ≤ ns → (∀ e, e ∈ wk → e < ns) → (∀ e, e < ns → RS1 σ nv e (sg e)) → k < n →
    ∃ σ', c_putWokenInFront_104_l10 n (Int32.ofInt ((k : Int) - 1)) σ = some (1, σ') ∧ (∃ x : Int, σ'.1 5108 = Int32.ofInt x ∧ RTd (σ'.2 28) (σ'.2 52) nv (nc + k) ((wk.take k).map (fun e => ((1, sg e, sg e, 0) : Go)) ++ td) x) ∧ σ'.1 5202 = Int32.ofInt (nc + k : Nat) ∧ (∀ j, j ≠ 52 → σ'.2 j = σ.2 j) ∧ (∀ j, j < 4 * nc → σ'.2 52 j = σ.2 52 j) ∧ (∀ j, j ≠ 5108 → j ≠ 5202 → σ'.1 j = σ.1 j) := by
  intro k
  induction k with
  | zero =>
    intro n nc td σ hT hC hnc hW hk hwn hwl hR hn
    cases n with
    | zero => omega
    | succ n =>
      unfold c_putWokenInFront_104_l10
      rw [z0, if_pos (zltP (by omega) (by omega) (by omega) (by omega) (by omega))]
      exact ⟨σ, rfl, hT, hC, fun _ _ => rfl, fun _ _ => rfl, fun _ _ _ => rfl⟩
  | succ k ih =>
    intro n nc td σ hT hC hnc hW hk hwn hwl hR hn
    cases n with
    | zero => omega
    | succ n =>
      have hkw := hW k (by omega)
      have hkl := hwl _ (List.getElem_mem (h := (by omega : k < wk.length)))
      obtain ⟨n1, env, r1, r2, r3, r4, r5, r6⟩ := hR _ hkl
      unfold c_putWokenInFront_104_l10 c_wokenGoal_106 c_sleeperGoal_107 c_sleeperEnv_108
      rw [z0, if_neg (zltN (by omega) (by omega) (by omega) (by omega) (by omega)), show ((k + 1 : Nat) : Int) - 1 = (k : Nat) by omega, tatI (i := 4 * k) (by omega) (by omega), hkw, tatI (i := 4 * wk[k]) (by omega) (by omega), tatI (i := 4 * wk[k] + 1) (by omega) (by omega), r2, r3]
      obtain ⟨σ1, q1, q2, q3, q4, q5, q6⟩ := front_ok hT hC (by omega) r1 r4 r5 r6
      rw [q1, Option.bind_some, zadd]
      obtain ⟨σ', p1, p2, p3, p4, p5, p6⟩ := ih n (nc + 1) _ σ1 q2 q3 (by omega) (by rw [q4 47 (by omega)]; exact hW) (by omega) hwn hwl (fun e he => (hR e he).congr (Nat.le_refl _) (q4 28 (by omega)) (by rw [q4 38 (by omega)]) (by rw [q4 38 (by omega)])) (by omega)
      refine ⟨σ', ?_, ?_, ?_, fun j hj => by rw [p4 j hj, q4 j hj], fun j hj => by rw [p5 j (by omega), q5 j hj], fun j h1 h2 => by rw [p6 j h1 h2, q6 j h1 h2]⟩
      · rw [← p1]
        rfl
      · obtain ⟨x, p2, p7⟩ := p2
        refine ⟨x, p2, ?_⟩
        rw [List.take_succ_eq_append_getElem (by omega), List.map_append, List.append_assoc]
        have e : nc + 1 + k = nc + (k + 1) := by omega
        rw [e] at p7
        exact p7
      · rw [p3]
        congr 1
        omega
set_option maxHeartbeats 2000000 in
theorem woken_ok [Pg] {σ : qC} {cls : List Cl} {s bn nv ns na nc : Nat} {u : Us} {sg : Nat → Tr} {ap : List (Tr × Tr)} {td : List Go} {ch : List Ch} {W : Wc} {t : List Ec} (h : CMd σ cls s bn nv u ns sg ap td ch W t na nc) :
    ∃ σ', c_putWokenInFront_104 σ = some (1, σ') ∧ CS σ' cls (s, bn, (nv, (u.1, u.2.1, u.2.2.1, u.2.2.2.1, u.2.2.2.2.1, []), ns, sg, ap), u.2.2.2.2.2.map (fun e => ((1, sg e, sg e, 0) : Go)) ++ td, ch) := by
  obtain ⟨a1, a2, a3, a4, a5, a6, ⟨L, R, a7, a7'⟩, a8, a9, a10, a11, a12, a13⟩ := h
  obtain ⟨c1, c2, c3, c4, c5, c6, c7, c8⟩ := a2
  have h6 := c1.2.2.2.2.2
  unfold c_putWokenInFront_104 c_wokenGoals_105
  rw [c6, zsub]
  obtain ⟨σ', p1, p2, p3, p4, p5, p6⟩ := wokenL_ok (nv := nv) (ns := ns) (sg := sg) (wk := u.2.2.2.2.2) (by omega) u.2.2.2.2.2.length qF nc td σ a10 a9.2.2.1 (by omega) c7 (Nat.le_refl _) (nodup_len ns a3.2.2.2.2.1 a3.2.2.2.2.2.1) a3.2.2.2.2.2.1 a6 (by unfold qF; omega)
  rw [List.take_length] at p2
  have e28 := p4 28 (by omega)
  refine ⟨σ', p1, W, t, na, nc + u.2.2.2.2.2.length, a1.congr e28 (p4 _ (by omega)) (p4 _ (by omega)) (p6 _ (by omega) (by omega)), c1.congr (p4 _ (by omega)) (p4 _ (by omega)) (p4 _ (by omega)) (p4 _ (by omega)) (p6 _ (by omega) (by omega)) (p6 _ (by omega) (by omega)) (p6 _ (by omega) (by omega)) (p6 _ (by omega) (by omega)), ⟨?_, c3, c4, ?_, rfl, a4, a5, fun e he => (a6 e he).congr (Nat.le_refl _) e28 (by rw [p4 38 (by omega)]) (by rw [p4 38 (by omega)]), L, R, fun a ha => (a7 a ha).congr (Nat.le_refl _) e28 (by rw [p4 40 (by omega)]) (by rw [p4 40 (by omega)]), a7'⟩, ⟨by dsimp only; omega, by dsimp only; omega, by dsimp only; omega, by dsimp only; omega, by dsimp only; omega⟩, ⟨by rw [p6 _ (by omega) (by omega), c5], by rw [p6 _ (by omega) (by omega), a9.1], by rw [p6 _ (by omega) (by omega), a9.2.1]; rfl, p3, by rw [p6 _ (by omega) (by omega), a9.2.2.2], _, by rw [p6 _ (by omega) (by omega), c6], by omega⟩, trivial, p2, ?_, a12, a13⟩
  · rw [e28]
    exact ⟨c2.1, c2.2⟩
  · obtain ⟨s1, s2, s3, s4, s5, s6, s7⟩ := a3
    exact ⟨s1, s2, s3, fun v e _ => by simp, List.nodup_nil, fun e he => absurd he (by simp), s7⟩
  · exact (a11.congr e28 (fun k _ _ => by rw [p4 38 (by omega)]) (fun k _ _ => by rw [p4 40 (by omega)]) (fun k hk => p5 k hk) (fun k _ => by rw [p4 54 (by omega)])).mono (Nat.le_refl _) (Nat.le_refl _) (Nat.le_refl _) (Nat.le_refl _) (by omega)
theorem CMd.done [Pg] {σ : qC} {cls : List Cl} {s bn nv ns na nc : Nat} {u : Us} {sg : Nat → Tr} {ap : List (Tr × Tr)} {td : List Go} {ch : List Ch} {W : Wc} {t : List Ec} (h : CMd σ cls s bn nv u ns sg ap td ch W t na nc) (hw : u.2.2.2.2.2 = []) : CS σ cls (s, bn, (nv, u, ns, sg, ap), td, ch) := by
  obtain ⟨a1, a2, a3, a4, a5, a6, a7, a8, a9, a10, a11, a12, a13⟩ := h
  obtain ⟨c1, c2, c3, c4, c5, c6, c7, c8⟩ := a2
  exact ⟨W, t, na, nc, a1, c1, ⟨c2, c3, c4, a3, hw, a4, a5, a6, a7⟩, ⟨by dsimp only; omega, by dsimp only; omega, by dsimp only; omega, by dsimp only; omega, by dsimp only; omega⟩, ⟨c5, a9.1, a9.2.1, a9.2.2.1, a9.2.2.2, _, c6, by have := c1.2.2.2.2.2; omega⟩, trivial, a10, a11, a12, a13⟩
