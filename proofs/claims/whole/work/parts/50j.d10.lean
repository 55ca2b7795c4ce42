/-! D10: the class goes through the pairs -/
theorem tputO_1 {σ σ' : qC} {t w : Nat} {r c v : Int32} (h : tputO σ t w r c v = some σ') : σ'.1 = σ.1 := by
  unfold tputO at h
  split at h
  · cases h
  · cases h
    rfl
theorem tappO_1 {σ σ' : qC} {t w : Nat} {a b c d : Int32} (h : tappO σ t w a b c d = some σ') : ∀ j, j ≠ 100 * t + 2 → σ'.1 j = σ.1 j := by
  intro j hj
  unfold tappO at h
  split at h
  · cases h
  · cases h
    unfold tapp
    rw [upS_1, if_neg hj]
    rfl
theorem bindG_1 {K : Nat} {v : Int32} {σ σ' : qC} (h : bindG K v σ = some σ') : ∀ j, j ≠ 4202 → σ'.1 j = σ.1 j := by
  intro j hj
  unfold bindG at h
  obtain ⟨a, a1, h⟩ := Option.bind_eq_some_iff.mp h
  obtain ⟨b, b1, h⟩ := Option.bind_eq_some_iff.mp h
  obtain ⟨c, c1, h⟩ := Option.bind_eq_some_iff.mp h
  cases h
  rw [tappO_1 c1 j hj, tputO_1 b1, tputO_1 a1]
theorem loopB {α : Type} {K V : Nat} {i1 v : Int32} {σ σ' : qC} {k : qC → Option α} (hV : V ≠ 4202) (hv : σ.1 V = v) (h : bindS K i1 v σ = some σ') :
    ((bindG K (σ.1 V) σ).bind (fun p => if i1 = 0 then k p else if p.1 (K + 2) = Int32.ofInt (-1) then (c_wake_95 (p.1 V) p).bind k else (c_join_77 (p.1 (K + 2)) (c_firstSleeper_94 (p.1 V) p) (c_lastSleeper_78 (p.1 V) p) p).bind k)) = k σ' := by
  rw [hv]
  unfold bindS at h
  obtain ⟨p, hp, h⟩ := Option.bind_eq_some_iff.mp h
  have e : p.1 V = v := by rw [bindG_1 hp V hV, hv]
  rw [hp, Option.bind_some, e]
  split at h
  · rename_i c
    rw [if_pos c]
    cases h
    rfl
  · rename_i c
    rw [if_neg c]
    split at h
    · rename_i c2
      rw [if_pos c2, h, Option.bind_some]
    · rename_i c2
      rw [if_neg c2, h, Option.bind_some]
def gcode (c : Nat) : Nat := if c = 0 then 1 else if c = 1 then 7 else 3
theorem alike_ok {σ : qC} {n m a b : Nat} {s s' : Int} (hn : n < 624) (hm : m < 624) (ha : a ≤ 3) (hb : b ≤ 3) (hs : 0 ≤ s ∧ s < 128) (hs' : 0 ≤ s' ∧ s' < 128) (e1 : σ.2 28 (9 * n) = Int32.ofInt s) (e2 : σ.2 28 (9 * m) = Int32.ofInt s') (e3 : σ.2 28 (9 * n + 1) = Int32.ofInt a) (e4 : σ.2 28 (9 * m + 1) = Int32.ofInt b) :
    c_alike_81 (Int32.ofInt n) (Int32.ofInt m) σ = if s = s' ∧ a = b then Int32.ofInt 1 else Int32.ofInt 0 := by
  unfold c_alike_81
  rw [rd_sign hn, rd_sign hm, e1, e2, rd_arity hn ha e3, rd_arity hm hb e4]
  by_cases h1 : s = s'
  · rw [if_pos (by rw [h1])]
    by_cases h2 : a = b
    · rw [if_pos (by rw [h2]), if_pos ⟨h1, h2⟩]
    · rw [if_neg (zeqN (by omega) (by omega) (by omega) (by omega) (by omega)), if_neg (fun z => h2 z.2)]
  · rw [if_neg (zeqN h1 (by omega) (by omega) (by omega) (by omega)), if_neg (fun z => h1 z.1)]
theorem vnI_eq {X Y : Tr} (h : vnI X = vnI Y) (hx : ¬ lab X < 0) : ¬ lab Y < 0 := by
  unfold vnI at h
  rw [if_neg hx] at h
  split at h
  · omega
  · assumption
theorem prs_len (X Y : Tr) (n : Nat) : (prs X Y n).length = n := by
  unfold prs
  rw [List.length_map, List.length_range]
theorem uni_none {nv f s : Nat} {stir bd : Bool} {u : Us} {x y : Tr} {r : List (Tr × Tr)} (h : ¬ 500 ≤ s) (h1 : uni1 stir u bd (fnd (nv + 1) u.1 x) (fnd (nv + 1) u.1 y) = none) : uni nv stir (f + 1) s u bd ((x, y) :: r) = (1, s + 1, u, bd) := by
  unfold uni
  rw [if_neg h, h1]
theorem uni_some {nv f s : Nat} {stir bd bd' : Bool} {u u' : Us} {x y : Tr} {r ps : List (Tr × Tr)} (h : ¬ 500 ≤ s) (h1 : uni1 stir u bd (fnd (nv + 1) u.1 x) (fnd (nv + 1) u.1 y) = some (u', bd', ps)) : uni nv stir (f + 1) s u bd ((x, y) :: r) = uni nv stir f (s + 1) u' bd' (ps ++ r) := by
  conv => lhs; unfold uni
  rw [if_neg h, h1]
theorem uni_steps {nv : Nat} {stir : Bool} : ∀ (f s : Nat) (u : Us) (bd : Bool) (ps : List (Tr × Tr)), s ≤ (uni nv stir f s u bd ps).2.1 := by
  intro f
  induction f with
  | zero => intro s u bd ps; exact Nat.le_refl _
  | succ f ih =>
    intro s u bd ps
    cases ps with
    | nil => exact Nat.le_refl _
    | cons p r =>
      obtain ⟨x, y⟩ := p
      by_cases h : 500 ≤ s
      · have e : uni nv stir (f + 1) s u bd ((x, y) :: r) = (2, s, u, bd) := by
          unfold uni
          rw [if_pos h]
        rw [e]
        exact Nat.le_refl _
      · cases h1 : uni1 stir u bd (fnd (nv + 1) u.1 x) (fnd (nv + 1) u.1 y) with
        | none => rw [uni_none h h1]; exact Nat.le_succ _
        | some q =>
          obtain ⟨u', bd', ps'⟩ := q
          rw [uni_some h h1]
          have := ih (s + 1) u' bd' (ps' ++ r)
          omega
theorem uni_test {nv : Nat} : ∀ (f s : Nat) (u : Us) (bd : Bool) (ps : List (Tr × Tr)), (uni nv false f s u bd ps).2.2.1.2 = u.2 := by
  intro f
  induction f with
  | zero => intro s u bd ps; rfl
  | succ f ih =>
    intro s u bd ps
    cases ps with
    | nil => rfl
    | cons p r =>
      obtain ⟨x, y⟩ := p
      by_cases h : 500 ≤ s
      · unfold uni
        rw [if_pos h]
      · cases h1 : uni1 false u bd (fnd (nv + 1) u.1 x) (fnd (nv + 1) u.1 y) with
        | none => rw [uni_none h h1]
        | some q =>
          obtain ⟨u', bd', ps'⟩ := q
          rw [uni_some h h1, ih]
          unfold uni1 at h1
          simp only [Bool.false_eq_true, if_false] at h1
          repeat' split at h1
          all_goals first
            | (cases h1; rfl)
            | (cases h1; done)
set_option maxHeartbeats 2000000 in
theorem gtp_ok [Pg] {nv ns na : Nat} (stir : Bool) : ∀ (f n i s : Nat) (u : Us) (bd : Bool) (ps : List (Tr × Tr)) (W : Wc) (t : List Ec) (σ : qC), CU σ nv ns na W t u s → RP (σ.2 28) (σ.2 45) nv ps → σ.1 4502 = Int32.ofInt ps.length → (stir = true → SlOK nv ns u) → s ≤ 500 → i ≤ s → 502 ≤ f + s → 502 ≤ n + s → ps.length ≤ 10 + 3 * s → t.length ≤ 3 * s + 10000 →
    ∃ σ' W' t', c_goThroughPairs_92_l2 n (Int32.ofInt (if stir = true then 1 else 0)) (Int32.ofInt i) σ = some (gcode (uni nv stir f s u bd ps).1, σ') ∧ CU σ' nv ns na W' t' (uni nv stir f s u bd ps).2.2.1 (uni nv stir f s u bd ps).2.1 ∧ (stir = true → SlOK nv ns (uni nv stir f s u bd ps).2.2.1) ∧ Und W t W' t' ∧ Fr σ σ' ∧ σ'.1 4502 = Int32.ofInt 0 ∧
      ((uni nv stir f s u bd ps).2.2.2 = true ↔ bd = true ∨ t.length < t'.length) ∧ t.length ≤ t'.length ∧ t'.length + 2 * s ≤ t.length + 2 * (uni nv stir f s u bd ps).2.1 ∧ s ≤ (uni nv stir f s u bd ps).2.1 ∧ (uni nv stir f s u bd ps).2.1 ≤ 500 ∧ (uni nv stir f s u bd ps).1 ≤ 2 ∧ (ps ≠ [] → s < 500 → s < (uni nv stir f s u bd ps).2.1) ∧ (stir = true → pot nv (uni nv stir f s u bd ps).2.2.1.2.2.2.2.1 + (uni nv stir f s u bd ps).2.2.1.2.2.2.2.2.length = pot nv u.2.2.2.2.1 + u.2.2.2.2.2.length) ∧ W'.2.2.2.2 = W.2.2.2.2 := by
  intro f
  induction f with
  | zero => intro n i s u bd ps W t σ _ _ _ _ h1 _ h2; omega
  | succ f ih =>
    intro n i s u bd ps W t σ hU hP hN hS hs hi hf hn hpl htl
    cases n with
    | zero => omega
    | succ n =>
      cases ps with
      | nil =>
        unfold uni c_goThroughPairs_92_l2
        rw [if_neg (zltN (by omega) (by omega) (by omega) (by omega) (by omega)), if_pos (by rw [hN]; decide)]
        exact ⟨σ, W, t, rfl, hU, hS, Und.refl, Fr.refl, hN, by simp, Nat.le_refl _, Nat.le_refl _, Nat.le_refl _, hs, by simp, (fun z => absurd rfl z), (fun _ => rfl), rfl⟩
      | cons p r =>
        obtain ⟨x, y⟩ := p
        rw [List.length_cons] at hN hpl
        obtain ⟨⟨n1, e1, n2, e2, r1, r2, r3, r4, hx, hy⟩, hP'⟩ := hP
        dsimp only at hx hy
        unfold c_goThroughPairs_92_l2
        rw [if_neg (zltN (by omega) (by omega) (by omega) (by omega) (by omega)), hN, z0, if_neg (zleN (by omega) (by omega) (by omega) (by omega) (by omega))]
        unfold c_takeStep_65
        rw [hU.2.2.2.2.1]
        by_cases h500 : 500 ≤ s
        · have hu : uni nv stir (f + 1) s u bd ((x, y) :: r) = (2, s, u, bd) := by
            unfold uni
            rw [if_pos h500]
          rw [if_neg (zltN (by omega) (by omega) (by omega) (by omega) (by omega)), Option.bind_some, if_pos rfl, hu]
          dsimp only [qlet]
          rw [tshrI (a := 0) (n := r.length + 1) (m := 0) hN (by omega) rfl (by omega)]
          refine ⟨_, W, t, rfl, hU.congr (fun k _ => rfl) (fun j a b c d e f g h => by rw [upS_1, if_neg (by omega)]) (by rw [upS_1, if_neg (by omega)]; exact hU.2.2.2.2.1), hS, Und.refl, ⟨fun _ _ _ _ _ _ => rfl, fun _ _ => rfl, fun j a b c d e f g h i l => by rw [upS_1, if_neg (by omega)]⟩, by rw [upS_1, if_pos (by omega)]; rfl, by simp, Nat.le_refl _, Nat.le_refl _, Nat.le_refl _, hs, Nat.le_refl _, (fun _ z => by omega), (fun _ => rfl), rfl⟩
        · rw [if_pos (zltP (by omega) (by omega) (by omega) (by omega) (by omega))]
          dsimp only [qlet]
          rw [Option.bind_some]
          dsimp only
          rw [if_neg (by decide), zadd]
          have hU1 : CU (upS σ 4406 (Int32.ofInt ((s : Int) + 1))) nv ns na W t u (s + 1) := hU.congr (fun _ _ => rfl) (fun j a b c d e f g h => by rw [upS_1, if_neg (by omega)]) (by rw [upS_1, if_pos rfl]; rfl)
          have hN1 : (upS σ 4406 (Int32.ofInt ((s : Int) + 1))).1 4502 = Int32.ofInt ((r.length + 1 : Nat) : Int) := by rw [upS_1, if_neg (by omega), hN]
          obtain ⟨σ1, hσ1⟩ : ∃ σ1, σ1 = upS σ 4406 (Int32.ofInt ((s : Int) + 1)) := ⟨_, rfl⟩
          have hF1 : Fr σ σ1 := by rw [hσ1]; exact ⟨fun _ _ _ _ _ _ => rfl, fun _ _ => rfl, fun j a b c d e f g h i l => by rw [upS_1, if_neg (by omega)]⟩
          have h45 : σ1.2 = σ.2 := by rw [hσ1]; rfl
          rw [← hσ1] at hU1 hN1 ⊢
          rw [hN1, zsub, show ((r.length + 1 : Nat) : Int) - 1 = (r.length : Nat) by omega]
          rw [tatI (i := 4 * r.length) (by omega) (by omega), tatI (i := 4 * r.length + 1) (by omega) (by omega), h45, r1, r2, f49]
          have hnv := hU1.1.2.2.2.2.2.1
          obtain ⟨σ2, g1, g2, g3, X1, X2, g4, g5, g6, g7, g8⟩ := findG_ok (K := 4900) (T := x) (σ := σ1) (by omega) hnv hU1.2.2.2.1 (hU1.2.1.RV hU1.1) hU1.1.2.2.2.1.1 (by rw [h45]; exact hx) (fun z => by have := hx.vlt z; omega)
          rw [g1, Option.bind_some, tatI (i := 4 * r.length + 2) (by omega) (by omega), tatI (i := 4 * r.length + 3) (by omega) (by omega), g2, h45, r3, r4, f50]
          have hU2 : CU σ2 nv ns na W t u (s + 1) := hU1.congr (fun k _ => by rw [g2]) (fun j a b c d e f g h => g3 j c d e) (by rw [g3 _ (by omega) (by omega) (by omega)]; exact hU1.2.2.2.2.1)
          have h28 : σ2.2 28 = σ.2 28 := by rw [g2, h45]
          obtain ⟨σ3, k1, k2, k3, Y1, Y2, k4, k5, k6, k7, k8⟩ := findG_ok (K := 5000) (T := y) (σ := σ2) (by omega) hnv hU2.2.2.2.1 (hU2.2.1.RV hU2.1) hU2.1.2.2.2.1.1 (by rw [h28]; exact hy) (fun z => by have := hy.vlt z; omega)
          rw [k1, Option.bind_some]
          have hU3 : CU σ3 nv ns na W t u (s + 1) := hU2.congr (fun k _ => by rw [k2]) (fun j a b c d e f g h => k3 j f g h) (by rw [k3 _ (by omega) (by omega) (by omega)]; exact hU2.2.2.2.2.1)
          have hN3 : σ3.1 4502 = Int32.ofInt ((r.length + 1 : Nat) : Int) := by rw [k3 _ (by omega) (by omega) (by omega), g3 _ (by omega) (by omega) (by omega), hN1]
          rw [tshrI (n := r.length + 1) (m := r.length) hN3 (by omega) rfl (by omega)]
          obtain ⟨σ4, hσ4⟩ : ∃ σ4, σ4 = upS σ3 (100 * 45 + 2) (Int32.ofInt (r.length : Int)) := ⟨_, rfl⟩
          have hsc4 : ∀ j, j ≠ 4502 → σ4.1 j = σ3.1 j := fun j hj => by rw [hσ4, upS_1, if_neg (by omega)]
          have h42 : σ4.2 = σ.2 := by rw [hσ4]; show σ3.2 = σ.2; rw [k2, g2, h45]
          have hU4 : CU σ4 nv ns na W t u (s + 1) := hU3.congr (fun k _ => by rw [hσ4]; rfl) (fun j a b c d e f g h => hsc4 j a) (by rw [hsc4 _ (by omega)]; exact hU3.2.2.2.2.1)
          have hN4 : σ4.1 4502 = Int32.ofInt r.length := by rw [hσ4, upS_1, if_pos (by omega)]
          have hP4 : RP (σ4.2 28) (σ4.2 45) nv r := by rw [h42]; exact hP'
          have hF4 : Fr σ σ4 := by
            refine ⟨fun k _ _ _ _ _ => by rw [h42], fun k _ => by rw [h42], fun j a b c d e f g h i l => ?_⟩
            rw [hsc4 j b, k3 j h i l, g3 j e f g]
            exact hF1.2.2 j a b c d e f g h i l
          rw [← hσ4]
          have x0 : σ4.1 4900 = Int32.ofInt X1 := by rw [hsc4 _ (by omega), k3 _ (by omega) (by omega) (by omega), g4]
          have x1 : σ4.1 4901 = Int32.ofInt X2 := by rw [hsc4 _ (by omega), k3 _ (by omega) (by omega) (by omega), g5]
          have x2 : σ4.1 4902 = Int32.ofInt (vnI (fnd (nv + 1) u.1 x)) := by rw [hsc4 _ (by omega), k3 _ (by omega) (by omega) (by omega), g6]
          have y0 : σ4.1 5000 = Int32.ofInt Y1 := by rw [hsc4 _ (by omega), k4]
          have y1 : σ4.1 5001 = Int32.ofInt Y2 := by rw [hsc4 _ (by omega), k5]
          have y2 : σ4.1 5002 = Int32.ofInt (vnI (fnd (nv + 1) u.1 y)) := by rw [hsc4 _ (by omega), k6]
          have cX : CTx (σ4.2 28) nv X1 X2 (fnd (nv + 1) u.1 x) := by rw [h42, ← h45]; exact g7
          have cY : CTx (σ4.2 28) nv Y1 Y2 (fnd (nv + 1) u.1 y) := by rw [h42, ← h28]; exact k7
          obtain ⟨X, hX⟩ : ∃ X, X = fnd (nv + 1) u.1 x := ⟨_, rfl⟩
          obtain ⟨Y, hY⟩ : ∃ Y, Y = fnd (nv + 1) u.1 y := ⟨_, rfl⟩
          rw [← hX] at x2 cX g8
          rw [← hY] at y2 cY k8
          have vX : vnI X < nv := by
            unfold vnI
            split
            · have := (g8 ‹_›).1
              omega
            · omega
          have vY : vnI Y < nv := by
            unfold vnI
            split
            · have := (k8 ‹_›).1
              omega
            · omega
          have vX' : -1 ≤ vnI X := by unfold vnI; split <;> omega
          have vY' : -1 ≤ vnI Y := by unfold vnI; split <;> omega
          rw [x2, y2, x0, y0, x1, y1]
          -- the same again, one step on
          have again : ∀ (σ5 : qC) (u5 : Us) (bd5 : Bool) (ps5 : List (Tr × Tr)) (W5 : Wc) (t5 : List Ec), uni1 stir u bd X Y = some (u5, bd5, ps5) → CU σ5 nv ns na W5 t5 u5 (s + 1) → RP (σ5.2 28) (σ5.2 45) nv (ps5 ++ r) → σ5.1 4502 = Int32.ofInt (ps5 ++ r).length → (stir = true → SlOK nv ns u5) → ps5.length ≤ 3 → Und W t W5 t5 → Fr σ σ5 → t.length ≤ t5.length → t5.length ≤ t.length + 2 → (bd5 = true ↔ bd = true ∨ t.length < t5.length) → (stir = true → pot nv u5.2.2.2.2.1 + u5.2.2.2.2.2.length = pot nv u.2.2.2.2.1 + u.2.2.2.2.2.length) → W5.2.2.2.2 = W.2.2.2.2 →
              ∃ σ' W' t', c_goThroughPairs_92_l2 n (Int32.ofInt (if stir = true then 1 else 0)) (Int32.ofInt i + Int32.ofInt 1) σ5 = some (gcode (uni nv stir (f + 1) s u bd ((x, y) :: r)).1, σ') ∧ CU σ' nv ns na W' t' (uni nv stir (f + 1) s u bd ((x, y) :: r)).2.2.1 (uni nv stir (f + 1) s u bd ((x, y) :: r)).2.1 ∧ (stir = true → SlOK nv ns (uni nv stir (f + 1) s u bd ((x, y) :: r)).2.2.1) ∧ Und W t W' t' ∧ Fr σ σ' ∧ σ'.1 4502 = Int32.ofInt 0 ∧
                ((uni nv stir (f + 1) s u bd ((x, y) :: r)).2.2.2 = true ↔ bd = true ∨ t.length < t'.length) ∧ t.length ≤ t'.length ∧ t'.length + 2 * s ≤ t.length + 2 * (uni nv stir (f + 1) s u bd ((x, y) :: r)).2.1 ∧ s ≤ (uni nv stir (f + 1) s u bd ((x, y) :: r)).2.1 ∧ (uni nv stir (f + 1) s u bd ((x, y) :: r)).2.1 ≤ 500 ∧ (uni nv stir (f + 1) s u bd ((x, y) :: r)).1 ≤ 2 ∧ (((x, y) :: r) ≠ [] → s < 500 → s < (uni nv stir (f + 1) s u bd ((x, y) :: r)).2.1) ∧ (stir = true → pot nv (uni nv stir (f + 1) s u bd ((x, y) :: r)).2.2.1.2.2.2.2.1 + (uni nv stir (f + 1) s u bd ((x, y) :: r)).2.2.1.2.2.2.2.2.length = pot nv u.2.2.2.2.1 + u.2.2.2.2.2.length) ∧ W'.2.2.2.2 = W.2.2.2.2 := by
            intro σ5 u5 bd5 ps5 W5 t5 a1 a2 a3 a4 a5 a6 a7 a8 a9 a10 a11 a12 a13
            rw [hX, hY] at a1
            rw [uni_some h500 a1, zadd]
            obtain ⟨σ', W', t', b1, b2, b3, b4, b5, b6, b7, b8, b9, b10, b11, b12, b13, b14, b15⟩ := ih n (i + 1) (s + 1) u5 bd5 (ps5 ++ r) W5 t5 σ5 a2 a3 a4 a5 (by omega) (by omega) (by omega) (by omega) (by rw [List.length_append]; omega) (by omega)
            refine ⟨σ', W', t', b1, b2, b3, a7.trans b4, a8.trans b5, b6, ?_, by omega, by omega, by omega, b11, b12, (fun _ _ => by omega), (fun z => by rw [b14 z, a12 z]), by rw [b15, a13]⟩
            rw [b7, a11]
            constructor
            · rintro ((z | z) | z)
              · exact Or.inl z
              · exact Or.inr (by omega)
              · exact Or.inr (by omega)
            · rintro (z | z)
              · exact Or.inl (Or.inl z)
              · by_cases z2 : t.length < t5.length
                · exact Or.inl (Or.inr z2)
                · exact Or.inr (by omega)
          by_cases heq : vnI X = vnI Y
          · rw [if_pos (by rw [heq])]
            by_cases hx0 : lab X < 0
            · -- the same variable
              have hy0 : lab Y < 0 := by
                apply Classical.byContradiction
                intro z
                exact vnI_eq heq.symm z hx0
              have hvv : vnum X = vnum Y := by
                unfold vnI at heq
                rw [if_pos hx0, if_pos hy0] at heq
                omega
              rw [if_neg (zeqN (by unfold vnI; rw [if_pos hx0]; omega) (by omega) (by omega) (by omega) (by omega))]
              refine again σ4 u bd [] W t ?_ hU4 hP4 hN4 hS (by simp) Und.refl hF4 (Nat.le_refl _) (by omega) (by simp) (fun _ => rfl) rfl
              unfold uni1
              rw [if_pos hx0, if_pos hy0, if_pos hvv]
            · have hy0 := vnI_eq heq hx0
              rw [if_pos (by unfold vnI; rw [if_neg hx0])]
              obtain ⟨hn1, -, a, ha, hab, s1, hs1, hsb1, hk1⟩ := cX.cases
              obtain ⟨hm1, -, b, hb, hbb, s2, hs2, hsb2, hk2⟩ := cY.cases
              rcases hk1 with ⟨_, -, -, e, -⟩ | ⟨-, la, ra, hargs⟩
              · exact absurd (by rw [e, lab_var]; omega) hx0
              rcases hk2 with ⟨_, -, -, e, -⟩ | ⟨-, lb, rb, hargs2⟩
              · exact absurd (by rw [e, lab_var]; omega) hy0
              rw [alike_ok hn1 hm1 ha hb hs1 hs2 hsb1 hsb2 hab hbb]
              by_cases hal : s1 = s2 ∧ a = b
              · rw [if_pos hal, if_neg (by decide)]
                obtain ⟨-, σ5, w1, w2, w3, w4, w5⟩ := pushArgs_ok (a := a) cX cY hx0 hy0 ra (by omega) hP4 hN4 (by omega)
                rw [w1, Option.bind_some]
                refine again σ5 u bd (prs X Y a) W t ?_ (hU4.congr w4 (fun j c1 _ _ _ _ _ _ _ => w5 j c1) (by rw [w5 _ (by omega)]; exact hU4.2.2.2.2.1)) w2 w3 hS (by rw [prs_len]; exact ha) Und.refl (hF4.trans ⟨fun k _ _ _ c _ => w4 k c, fun k _ => by rw [w4 38 (by omega)], fun j _ c _ _ _ _ _ _ _ _ => w5 j c⟩) (Nat.le_refl _) (by omega) (by simp) (fun _ => rfl) rfl
                unfold uni1
                rw [if_neg hx0, if_neg hy0, if_pos ⟨by omega, by omega⟩, ra]
              · rw [if_neg hal, if_pos rfl]
                have hno : uni1 stir u bd X Y = none := by
                  unfold uni1
                  rw [if_neg hx0, if_neg hy0, if_neg (fun z => hal ⟨by omega, by omega⟩)]
                rw [hX, hY] at hno
                rw [uni_none h500 hno]
                dsimp only
                rw [tshrI (a := 0) (n := r.length) (m := 0) hN4 (by omega) rfl (by omega)]
                refine ⟨_, W, t, rfl, hU4.congr (fun k _ => rfl) (fun j a b c d e f g h => by rw [upS_1, if_neg (by omega)]) (by rw [upS_1, if_neg (by omega)]; exact hU4.2.2.2.2.1), hS, Und.refl, hF4.trans ⟨fun _ _ _ _ _ _ => rfl, fun _ _ => rfl, fun j a b c d e f g h i l => by rw [upS_1, if_neg (by omega)]⟩, by rw [upS_1, if_pos (by omega)]; rfl, by simp, Nat.le_refl _, by omega, by omega, by omega, by omega, (fun _ _ => by omega), (fun _ => rfl), rfl⟩
          · rw [if_neg (zeqN heq (by omega) (by omega) (by omega) (by omega))]
            by_cases hle : vnI X ≤ vnI Y
            · rw [if_pos (zleP hle (by omega) (by omega) (by omega) (by omega)), b49]
              have hy0 : lab Y < 0 := by
                apply Classical.byContradiction
                intro z
                unfold vnI at heq hle
                rw [if_neg z] at heq hle
                split at hle <;> split at heq <;> omega
              have hYv : vnI Y = (vnum Y : Int) := by unfold vnI; rw [if_pos hy0]
              have hXl : lab X < 0 → vnum X < vnum Y := fun z => by
                have : vnI X = (vnum X : Int) := by unfold vnI; rw [if_pos z]
                omega
              obtain ⟨σ5, W5, t5, w1, w2, w3, w4, w5, w6, w7, w8, w9, w10, w11⟩ := bindS_ok (K := 4900) (v := vnum Y) (X := X) hU4 (Or.inl rfl) hS (k8 hy0).1 (k8 hy0).2 cX (fun z => ⟨hXl z, (g8 z).2⟩) x0 x1 x2 (by omega)
              have hl := loopB (V := 5002) (k := fun p => c_goThroughPairs_92_j270 (c_goThroughPairs_92_l2 n) (Int32.ofInt (if stir = true then 1 else 0)) (Int32.ofInt i) p) (by omega) (by rw [y2, hYv]) w1
              rw [y2] at hl
              have hA := again σ5 (uStir stir u (vnum Y) X) true [] W5 t5 ?_ w2 (by rw [w9, w7.book]; exact hP4) (by rw [w8]; exact hN4) w3 (by simp) w4 (hF4.trans w7) (by omega) (by omega) (by simp; omega) w10 w11
              · obtain ⟨σ', W', t', v1, v2⟩ := hA
                exact ⟨σ', W', t', hl.trans v1, v2⟩
              · unfold uni1 uStir
                by_cases hx0 : lab X < 0
                · rw [if_pos hx0, if_pos hy0, if_neg (by have := hXl hx0; omega), if_pos (hXl hx0)]
                  cases stir <;> simp [hx0]
                · rw [if_neg hx0, if_pos hy0]
                  cases stir <;> simp [hx0]
            · rw [if_neg (zleN (by omega) (by omega) (by omega) (by omega) (by omega)), b50]
              have hx0 : lab X < 0 := by
                apply Classical.byContradiction
                intro z
                unfold vnI at heq hle
                rw [if_neg z] at heq hle
                split at hle <;> split at heq <;> omega
              have hXv : vnI X = (vnum X : Int) := by unfold vnI; rw [if_pos hx0]
              have hYl : lab Y < 0 → vnum Y < vnum X := fun z => by
                have : vnI Y = (vnum Y : Int) := by unfold vnI; rw [if_pos z]
                omega
              obtain ⟨σ5, W5, t5, w1, w2, w3, w4, w5, w6, w7, w8, w9, w10, w11⟩ := bindS_ok (K := 5000) (v := vnum X) (X := Y) hU4 (Or.inr rfl) hS (g8 hx0).1 (g8 hx0).2 cY (fun z => ⟨hYl z, (k8 z).2⟩) y0 y1 y2 (by omega)
              have hl := loopB (V := 4902) (k := fun p => c_goThroughPairs_92_j270 (c_goThroughPairs_92_l2 n) (Int32.ofInt (if stir = true then 1 else 0)) (Int32.ofInt i) p) (by omega) (by rw [x2, hXv]) w1
              rw [x2] at hl
              have hA := again σ5 (uStir stir u (vnum X) Y) true [] W5 t5 ?_ w2 (by rw [w9, w7.book]; exact hP4) (by rw [w8]; exact hN4) w3 (by simp) w4 (hF4.trans w7) (by omega) (by omega) (by simp; omega) w10 w11
              · obtain ⟨σ', W', t', v1, v2⟩ := hA
                exact ⟨σ', W', t', hl.trans v1, v2⟩
              · unfold uni1 uStir
                by_cases hy0 : lab Y < 0
                · rw [if_pos hx0, if_pos hy0, if_neg (by have := hYl hy0; omega), if_neg (by have := hYl hy0; omega)]
                  cases stir <;> simp [hy0]
                · rw [if_pos hx0, if_neg hy0]
                  cases stir <;> simp [hy0]
