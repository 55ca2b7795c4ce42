/-! D78: the reference asks -/
def wm0 : Wm := (fun _ => 2147483647, fun _ => -1, fun _ => -1, fun _ => -1, fun _ => 0)
/-- the text is copied to the question's place; then n -/
theorem askCopy_m {n : Nat} {tx : Nat → Int} (hn : n ≤ 48) : ∀ (d i fuel : Nat) (σ : qC), i + d = n → d < fuel → (∀ p, p < n → σ.2 65 p = Int32.ofInt (tx p)) → (∀ p, p < i → σ.2 66 (576 + p) = Int32.ofInt (tx p)) →
    ∃ σ', m_ask_139_l99 fuel (Int32.ofInt n) (Int32.ofInt i) σ = (m_number_140 σ').bind (fun p6 => m_ask_139_l148 qF (Int32.ofInt 0) p6) ∧ σ'.1 6412 = Int32.ofInt (576 : Nat) ∧ σ'.1 6413 = Int32.ofInt (576 + n : Nat) ∧ (∀ p, p < n → σ'.2 66 (576 + p) = Int32.ofInt (tx p)) ∧ (∀ k, k < 576 → σ'.2 66 k = σ.2 66 k) ∧ (∀ a, a ≠ 66 → σ'.2 a = σ.2 a) ∧ (∀ j, j ≠ 6412 → j ≠ 6413 → σ'.1 j = σ.1 j) := by
  intro d
  induction d with
  | zero =>
    intro i fuel σ hi hf h3 h4
    obtain ⟨fuel, rfl⟩ : ∃ m, fuel = m + 1 := ⟨fuel - 1, by omega⟩
    unfold m_ask_139_l99
    rw [if_pos (zleP (by omega) (by omega) (by omega) (by omega) (by omega))]
    dsimp only [qlet]
    rw [zadd]
    refine ⟨_, rfl, ?_, ?_, fun p hp => ?_, fun k hk => rfl, fun a ha => rfl, fun j x y => ?_⟩
    · rw [upS_1, if_neg (by omega), upS_1, if_pos rfl]
      rfl
    · rw [upS_1, if_pos rfl]
      rfl
    · exact h4 p (by omega)
    · rw [upS_1, if_neg y, upS_1, if_neg x]
  | succ d ih =>
    intro i fuel σ hi hf h3 h4
    obtain ⟨fuel, rfl⟩ : ∃ m, fuel = m + 1 := ⟨fuel - 1, by omega⟩
    conv => enter [1, σ', 1, 1]; unfold m_ask_139_l99
    rw [if_neg (zleN (by omega) (by omega) (by omega) (by omega) (by omega)), agetI (i := i) rfl (by omega) (by omega), Option.bind_some, h3 i (by omega), zadd, aputI (i := 576 + i) (by omega) (by omega) (by omega), Option.bind_some, zadd, show ((i : Int) + 1) = ((i + 1 : Nat) : Int) by omega]
    obtain ⟨σ', a1, a2, a3, a4, a5, a6, a7⟩ := ih (i + 1) fuel (upA σ 66 (576 + i) (Int32.ofInt (tx i))) (by omega) (by omega) (by rw [upA_ne (by omega)]; exact h3) (fun p hp => by
      rw [upA_eq, fup_at]
      by_cases e : p = i
      · subst e
        rw [if_pos rfl]
      · rw [if_neg (by omega)]
        exact h4 p (by omega))
    exact ⟨σ', a1, a2, a3, a4, fun k hk => by rw [a5 k hk, upA_eq, fup_at, if_neg (by omega)], fun a ha => by rw [a6 a ha, upA_ne ha], fun j x y => by rw [a7 j x y]; rfl⟩
theorem askMap_m : ∀ (d i fuel : Nat) (σ : qC), i + d = 26 → d < fuel → (∀ c, c < i → σ.2 71 c = σ.2 70 c) →
    ∃ σ', m_ask_139_l148 fuel (Int32.ofInt i) σ = (m_buildGoals_142 (Int32.ofInt 0) (Int32.ofInt (-1)) σ').bind (fun p2 => qlet (upS p2.2 6429 p2.1) (fun σ4 => (m_seek_148 (Int32.ofInt 0) σ4).bind (fun p6 => some (p6.1, p6.2)))) ∧ σ'.1 = σ.1 ∧ (∀ a, a ≠ 71 → σ'.2 a = σ.2 a) ∧ (∀ c, c < 26 → σ'.2 71 c = σ.2 70 c) := by
  intro d
  induction d with
  | zero =>
    intro i fuel σ hi hf h
    obtain ⟨fuel, rfl⟩ : ∃ m, fuel = m + 1 := ⟨fuel - 1, by omega⟩
    unfold m_ask_139_l148
    rw [if_pos (zleP (by omega) (by omega) (by omega) (by omega) (by omega))]
    exact ⟨σ, rfl, rfl, fun _ _ => rfl, fun c hc => h c (by omega)⟩
  | succ d ih =>
    intro i fuel σ hi hf h
    obtain ⟨fuel, rfl⟩ : ∃ m, fuel = m + 1 := ⟨fuel - 1, by omega⟩
    conv => enter [1, σ', 1, 1]; unfold m_ask_139_l148
    rw [if_neg (zleN (by omega) (by omega) (by omega) (by omega) (by omega)), agetI (i := i) rfl (by omega) (by omega), Option.bind_some, aputI (i := i) rfl (by omega) (by omega), Option.bind_some, zadd, show ((i : Int) + 1) = ((i + 1 : Nat) : Int) by omega]
    obtain ⟨σ', a1, a2, a3, a4⟩ := ih (i + 1) fuel (upA σ 71 i (σ.2 70 i)) (by omega) (by omega) (fun c hc => by
      rw [upA_eq, fup_at, upA_ne (by omega)]
      by_cases e : c = i
      · rw [if_pos e, e]
      · rw [if_neg e]
        exact h c (by omega))
    exact ⟨σ', a1, by rw [a2]; rfl, fun a ha => by rw [a3 a ha, upA_ne ha], fun c hc => by rw [a4 c hc, upA_ne (by omega)]⟩
theorem QCl.nv {q : Cl} (h : QCl q) : clNv q ≤ 24 := by
  have h1 := pGs_cap (tx := q.1) (n := q.2.1) h.2.1 48 0 h.2.2.2.1
  have h2 := rnk_cap (tx := q.1) q.2.1
  have h3 := h.1
  have h4 : capS q.1 0 = 0 := rfl
  unfold clNv
  omega
set_option maxHeartbeats 1000000 in
theorem askGo_m {σ : qC} {A : As} {q : Cl} (hq : QCl q) (hT : TXT σ 576 q.2.1 q.1) (hS : MStat σ A.cls) (hs : σ.1 6412 = Int32.ofInt (576 : Nat)) (hz : ∀ j, j = 6425 ∨ j = 6426 ∨ j = 6427 ∨ j = 6428 ∨ j = 6430 ∨ j = 6432 ∨ j = 6433 ∨ j = 6434 ∨ j = 6435 ∨ j = 6440 ∨ j = 6411 → σ.1 j = Int32.ofInt 0) :
    ∃ σ', (m_number_140 σ).bind (fun p6 => m_ask_139_l148 qF (Int32.ofInt 0) p6) = (m_seek_148 (Int32.ofInt 0) σ').bind (fun p6 => some (p6.1, p6.2)) ∧ MS σ' A.cls (m0 q) ∧ QM (σ'.2 71) q ∧ (∀ j, j = 6407 ∨ j = 6409 ∨ j = 6431 ∨ j = 6438 → σ'.1 j = σ.1 j) ∧ σ'.2 65 = σ.2 65 := by
  obtain ⟨tx, n, gs⟩ := q
  have hnv : rnk tx n 26 ≤ 24 := hq.nv
  have hn48 : n ≤ 48 := hq.1
  have hgs : (pGs tx n 48 0).2.2 = gs := hq.2.2.2.2
  have hok : (pGs tx n 48 0).1 = true := hq.2.2.2.1
  dsimp only at hT
  obtain ⟨σ1, a1, a2⟩ := number_ok hT hs (nv := 0) (bn := 0) (by omega) (by rw [hz _ (by omega)]; rfl) (by rw [hz _ (by omega)]; rfl)
  rw [a1, Option.bind_some]
  have hmap := a2.map
  obtain ⟨⟨i1, i2⟩, i3, i4, i5, i6, i7⟩ := a2
  rw [Nat.zero_add] at i1 i2
  obtain ⟨σ2, b1, b2, b3, b4⟩ := askMap_m 26 0 qF σ1 (by omega) (by unfold qF; omega) (fun c hc => by omega)
  rw [show Int32.ofInt ((0 : Nat) : Int) = Int32.ofInt 0 from rfl] at b1
  rw [b1]
  have hT2 : TXT σ2 576 n tx := hT.congr (by rw [b2, i7 _ (by omega) (by omega)]) (by rw [b3 _ (by omega), i6 _ (by omega) (by omega) (by omega) (by omega)])
  have hB2 : BP0 σ2 576 n 0 (rnk tx n 26) tx 0 0 := ⟨hT2, fun p hp hc => by rw [b3 _ (by omega)]; exact hmap p hp hc, by rw [b2, i7 _ (by omega) (by omega), hs], by rw [b2, i7 _ (by omega) (by omega), hz _ (by omega)]; rfl, by omega, by omega⟩
  obtain ⟨σ3, nc, ng, e1, e2, e3, e4, e5, e6, e7⟩ := goals_t (behind := Int32.ofInt (-1)) (lvl := 0) (by omega) 48 0 0 0 16777215 (-1) (-1) σ2 hok hB2 (by rw [b2, i7 _ (by omega) (by omega), hz _ (by omega)]; rfl) (by omega) (by omega) (Or.inl (by omega)) (by omega)
  have e1' : m_buildGoals_142 (Int32.ofInt 0) (Int32.ofInt (-1)) σ2 = some (Int32.ofInt 0, σ3) := e1
  rw [e1', Option.bind_some]
  dsimp only [qlet]
  obtain ⟨f1, f2, f3, f4, f5, f6, f7, f8, f9, f10⟩ := e7
  have g : ∀ j, j ≠ 6429 → (upS σ3 6429 (Int32.ofInt 0)).1 j = σ3.1 j := fun j hj => by rw [upS_1, if_neg hj]
  have k1 : ∀ j, j ≠ 6429 → j ≠ 6412 → j ≠ 6425 → j ≠ 6428 → j ≠ 6426 → j ≠ 6427 → (upS σ3 6429 (Int32.ofInt 0)).1 j = σ.1 j := fun j x y z w u t => by rw [g j x, f10 j y z w, b2, i7 j u t]
  have k2 : ∀ a, a ≠ 68 → a ≠ 70 → a ≠ 71 → (a < 72 ∨ 82 < a) → σ3.2 a = σ.2 a := fun a x y z w => by rw [f9 a x (by omega) (by omega) (by omega) (by omega), b3 a z, i6 a y (by omega) (by omega) (by omega)]
  have k3 : ∀ a, a = 75 ∨ a = 76 ∨ a = 77 → σ3.2 a = σ1.2 a := fun a ha => by rw [f9 a (by omega) (by omega) (by omega) (by omega) (by omega), b3 a (by omega)]
  have hgne : gs ≠ [] := by rw [← hgs]; exact (pGs_ne 48 0 hok).1
  refine ⟨upS σ3 6429 (Int32.ofInt 0), rfl, ⟨wm0, [], 0, nc, ng, ?_, ⟨⟨?_, ?_, ?_, ⟨?_, ?_, ?_, ?_⟩, trivial, ?_⟩, ?_, ?_, ?_, ⟨?_, ?_, ?_⟩, ?_, ?_⟩, ⟨?_, ?_, ?_, ?_, ?_, ?_, ?_, ?_, fun _ => fun _ => (0, 0), fun _ => fun _ => (0, 0), ?_, ?_⟩, ⟨?_, ?_, ?_, ?_, ?_, ?_⟩, ⟨?_, ?_, ?_, ?_⟩, ⟨0, ?_, ?_⟩, trivial, Nat.le_refl _⟩, ?_, ?_, ?_⟩
  · exact hS.congr (k1 _ (by omega) (by omega) (by omega) (by omega) (by omega) (by omega)) (k2 _ (by omega) (by omega) (by omega) (by omega)) (k2 _ (by omega) (by omega) (by omega) (by omega))
  · intro v hv
    have hv' : v < rnk tx n 26 := hv
    have := i5 v (by omega) (by omega)
    exact ⟨by rw [upS_2, k3 _ (by omega)]; exact this.1, by rw [upS_2, k3 _ (by omega)]; exact this.2.1, by rw [upS_2, k3 _ (by omega)]; exact this.2.2⟩
  · intro s hs'
    exact absurd hs' (by show ¬ s < 0; omega)
  · intro a ha
    exact absurd ha (by omega)
  · rw [g _ (by omega), f10 _ (by omega) (by omega) (by omega), b2]
    exact i1
  · rw [k1 _ (by omega) (by omega) (by omega) (by omega) (by omega) (by omega)]
    exact hz _ (by omega)
  · rw [k1 _ (by omega) (by omega) (by omega) (by omega) (by omega) (by omega)]
    exact hz _ (by omega)
  · rw [k1 _ (by omega) (by omega) (by omega) (by omega) (by omega) (by omega)]
    exact hz _ (by omega)
  · show rnk tx n 26 ≤ 13000 ∧ 0 ≤ 600 ∧ 0 ≤ 600 ∧ 0 ≤ 5000
    omega
  · exact ⟨fun v => rfl, rfl, rfl, rfl⟩
  · intro e he
    cases he
  · intro v hv T hT'
    cases hT'
  · rw [k1 _ (by omega) (by omega) (by omega) (by omega) (by omega) (by omega)]
    exact hz _ (by omega)
  · rw [k1 _ (by omega) (by omega) (by omega) (by omega) (by omega) (by omega)]
    exact hz _ (by omega)
  · rw [k1 _ (by omega) (by omega) (by omega) (by omega) (by omega) (by omega)]
    exact hz _ (by omega)
  · omega
  · show 0 ≤ 500
    omega
  · exact ⟨fun v => rfl, rfl, rfl, rfl⟩
  · intro e he
    cases he
  · intro v hv T hT'
    cases hT'
  · exact slok0
  · rfl
  · intro a
    exact Or.inl rfl
  · intro a _
    rfl
  · intro e he
    exact absurd he (by show ¬ e < 0; omega)
  · intro a ha
    exact absurd ha (by omega)
  · rfl
  · show rnk tx n 26 ≤ 24 * (0 + 1)
    omega
  · show nc ≤ 24 * (0 + 1)
    omega
  · show ng + pot (rnk tx n 26) (fun _ => []) ≤ 25 * (0 + 1)
    rw [pot0]
    omega
  · exact Nat.le_refl _
  · exact Nat.le_refl _
  · exact Nat.le_refl _
  · rw [g _ (by omega), f10 _ (by omega) (by omega) (by omega), b2]
    exact i2
  · rw [g _ (by omega), f3]
  · rw [g _ (by omega), f4]
  · rw [k1 _ (by omega) (by omega) (by omega) (by omega) (by omega) (by omega)]
    exact hz _ (by omega)
  · rw [upS_1, if_pos rfl]
  · have hl : ((pGs tx n 48 0).2.2.map (mkG tx n 0 0)).length = (pGs tx n 48 0).2.2.length := List.length_map _
    have := GL.rtm (σ := σ3) (nv := rnk tx n 26) (nc := nc) (ng := ng) (rest := []) (b := -1) rfl e5 (by
      rw [hgs]
      intro z
      exact hgne (List.map_eq_nil_iff.mp z)) (by omega)
    rw [List.append_nil, hgs] at this
    exact RTM.mono (σ := σ3) (σ' := upS σ3 6429 (Int32.ofInt 0)) (nv := rnk tx n 26) (l := gs.map (mkG tx n 0 0)) (g := ((0 : Nat) : Int)) (Nat.le_refl _) (Nat.le_refl _) (Nat.le_refl _) (fun _ _ => rfl) (fun _ _ => rfl) (fun _ _ => rfl) (fun _ _ => ⟨rfl, rfl, rfl, rfl, rfl⟩) this
  · intro c hc
    rw [upS_2, f9 _ (by omega) (by omega) (by omega) (by omega) (by omega), b4 c hc, i3 c hc, Nat.zero_add]
  · intro j hj
    exact k1 j (by omega) (by omega) (by omega) (by omega) (by omega) (by omega)
  · exact k2 _ (by omega) (by omega) (by omega) (by omega)
def fAk (c : Nat) : Int := if c = 12 then 1 else if c = 15 then 2 else if c = 13 then 3 else 4
set_option maxHeartbeats 1000000 in
theorem ask_m {σ : qC} {A : As} (h : MJ σ A) (hA : AW A) : ∃ v σ', m_ask_139 σ = some (v, σ') ∧ MV (aAsk A).1 fAk v σ' ∧ MJ σ' (aAsk A).2 := by
  have h' := h
  obtain ⟨h1, h2, h3, h4, h5, h6⟩ := h
  unfold m_ask_139 aAsk m_bad_130
  dsimp only [qlet]
  have hP : RdP (upS σ 6410 (Int32.ofInt 0)) A.n A.tx 0 := ⟨h1.congr (by rw [upS_1, if_neg (by omega)]) rfl, by rw [upS_1, if_pos rfl]; rfl, Nat.zero_le _⟩
  obtain ⟨σ1, e1, hP1⟩ := readGs_m hP
  have hw := m_readGoals_137_fr (L := fun x => x ∈ _) (A := fun x => x ∈ _) (σ0 := upS σ 6410 (Int32.ofInt 0)) (fun x hx => hx) (fun x hx => hx) (upS σ 6410 (Int32.ofInt 0)) Wr.refl _ e1
  dsimp only at hw
  have f1 : ∀ j, j ≠ 6410 → σ1.1 j = σ.1 j := fun j hj => by rw [hw.1 j (by simpa using hj), upS_1, if_neg hj]
  have f2 : ∀ a, a ≠ 69 → σ1.2 a = σ.2 a := fun a ha => by rw [hw.2 a (by simpa using ha), upS_2]
  rw [e1, Option.bind_some]
  dsimp only
  by_cases hc : (pGs A.tx A.n 48 0).1 = true
  · rw [if_pos hc, hc, if_neg (by decide), if_pos (by decide), if_neg (by decide), Option.bind_some, if_pos (by rfl)]
    dsimp only
    have hq := qcl_of hA hc
    obtain ⟨σ2, hσ2⟩ : ∃ σ2, σ2 = upS (upS (upS (upS (upS (upS (upS (upS (upS (upS (upS (upS (upS σ1 6407 (Int32.ofInt 0)) 6438 (bo true)) 6411 (Int32.ofInt 0)) 6435 (Int32.ofInt 0)) 6434 (Int32.ofInt 0)) 6433 (Int32.ofInt 0)) 6432 (Int32.ofInt 0)) 6431 (Int32.ofInt 0)) 6430 (Int32.ofInt 0)) 6428 (Int32.ofInt 0)) 6427 (Int32.ofInt 0)) 6426 (Int32.ofInt 0)) 6425 (Int32.ofInt 0) := ⟨_, rfl⟩
    rw [← hσ2]
    have z0' : ∀ j, j = 6407 ∨ j = 6425 ∨ j = 6426 ∨ j = 6427 ∨ j = 6428 ∨ j = 6430 ∨ j = 6431 ∨ j = 6432 ∨ j = 6433 ∨ j = 6434 ∨ j = 6435 ∨ j = 6411 → σ2.1 j = Int32.ofInt 0 := by
      rintro j (rfl | rfl | rfl | rfl | rfl | rfl | rfl | rfl | rfl | rfl | rfl | rfl) <;> rw [hσ2] <;> rfl
    have z1' : ∀ j, j = 6408 ∨ j = 6409 ∨ j = 6440 → σ2.1 j = σ.1 j := by
      rintro j (rfl | rfl | rfl) <;> rw [← f1 _ (by omega), hσ2] <;> rfl
    have z38 : σ2.1 6438 = Int32.ofInt 1 := by rw [hσ2]; rfl
    have z2 : σ2.2 = σ1.2 := by rw [hσ2]; rfl
    rw [f1 6407 (by omega), h1.1]
    obtain ⟨σ3, a1, a2, a3, a4, a5, a6, a7⟩ := askCopy_m (tx := A.tx) hA.1.1 A.n 0 qF σ2 (by omega) (by have := hA.1.1; unfold qF; omega) (by rw [z2, f2 _ (by omega)]; exact h1.2.1) (fun p hp => by omega)
    rw [show Int32.ofInt ((0 : Nat) : Int) = Int32.ofInt 0 from rfl] at a1
    rw [a1]
    have hT3 : TXT σ3 576 (qOf A).2.1 (qOf A).1 := ⟨a3, a4, by omega, hA.1.1, hA.1.2.1, hA.rng⟩
    have hS3 : MStat σ3 A.cls := by
      refine ⟨by rw [a7 _ (by omega) (by omega), z1' _ (by omega)]; exact h2.1, h2.2.1, fun i hi => ?_⟩
      obtain ⟨w1, w2, w3⟩ := h2.2.2 i hi
      have := w3.1
      have := h2.2.1
      exact ⟨by rw [a6 _ (by omega), z2, f2 _ (by omega), w1], fun j hj => by rw [a5 _ (by omega), z2, f2 _ (by omega), w2 j hj], w3⟩
    obtain ⟨σ4, b1, b2, b3, b4, b5⟩ := askGo_m (A := A) hq hT3 hS3 a2 (fun j hj => by
      rw [a7 j (by omega) (by omega)]
      rcases (by omega : j = 6440 ∨ (j = 6425 ∨ j = 6426 ∨ j = 6427 ∨ j = 6428 ∨ j = 6430 ∨ j = 6432 ∨ j = 6433 ∨ j = 6434 ∨ j = 6435 ∨ j = 6411)) with e | e
      · rw [e, z1' _ (by omega)]
        exact h4.2
      · exact z0' j (by omega))
    rw [b1]
    have hrun := aRun_ok hA.2.2.1 hA.cl (ph := 0) (inv0 (A := A) hq) (by omega) b2.len
    obtain ⟨σ5, e5, hE⟩ := seek_m0 hA.cl (f := 20000) (by unfold qF; omega) (inv0 (A := A) hq) b2 hrun
    have e31 : σ4.1 6431 = Int32.ofInt 0 := by rw [b4 _ (by omega), a7 _ (by omega) (by omega), z0' _ (by omega)]
    obtain ⟨c1, c2, c3⟩ := seekEnd_m (A := clr A) (q := qOf A) (TXm.nil (by rw [b4 _ (by omega), a7 _ (by omega) (by omega), z0' _ (by omega)])) (by rw [b4 _ (by omega), a7 _ (by omega) (by omega), z1' _ (by omega)]; exact h3) b3 (by rw [b4 _ (by omega), a7 _ (by omega) (by omega), z38]) e5 hE
    rw [e31] at c1
    rw [e5, Option.bind_some]
    refine ⟨_, σ5, rfl, ?_, c1⟩
    unfold aEnd
    by_cases r0 : (aRun A.cls 20000 0 (m0 (qOf A))).1 = 0
    · rw [if_pos r0, if_pos r0]
      exact ⟨rfl, c2 r0⟩
    · obtain ⟨c12, c11⟩ := c3 r0
      rw [if_neg r0]
      show σ5.1 6411 = _
      rw [c11]
      rcases (by omega : (aRun A.cls 20000 0 (m0 (qOf A))).1 = 1 ∨ (aRun A.cls 20000 0 (m0 (qOf A))).1 = 2 ∨ (aRun A.cls 20000 0 (m0 (qOf A))).1 = 3) with e | e | e <;> rw [e] <;> rfl
  · have hc' : (pGs A.tx A.n 48 0).1 = false := by simpa using hc
    rw [if_neg hc, hc', if_pos (by decide), if_pos (by decide), if_pos (by decide), Option.bind_some, if_neg (by show ¬ Int32.ofInt 1 = 0; decide)]
    obtain ⟨σ2, hσ2⟩ : ∃ σ2, σ2 = upS (upS (upS (upS σ1 6409 (σ1.1 6410)) 6407 (Int32.ofInt 0)) 6438 (bo false)) 6411 (Int32.ofInt 1) := ⟨_, rfl⟩
    rw [← hσ2]
    have g : ∀ j, j ≠ 6409 → j ≠ 6407 → j ≠ 6438 → j ≠ 6411 → j ≠ 6410 → σ2.1 j = σ.1 j := fun j x y z w u => by rw [hσ2, upS_1, if_neg w, upS_1, if_neg z, upS_1, if_neg y, upS_1, if_neg x, f1 j u]
    have z2 : σ2.2 = σ1.2 := by rw [hσ2]; rfl
    refine ⟨_, σ2, rfl, ?_, TXm.nil (by rw [hσ2]; rfl), h2.congr (g _ (by omega) (by omega) (by omega) (by omega) (by omega)) (by rw [z2, f2 _ (by omega)]) (by rw [z2, f2 _ (by omega)]), ?_, ⟨by rw [g _ (by omega) (by omega) (by omega) (by omega) (by omega)]; exact h4.1, by rw [g _ (by omega) (by omega) (by omega) (by omega) (by omega)]; exact h4.2⟩, fun _ => by rw [hσ2]; rfl, fun q m a z => by cases z⟩
    · show σ2.1 6411 = _
      rw [hσ2, upS_1, if_pos rfl]
      rfl
    · rw [hσ2, upS_1, if_neg (by omega), upS_1, if_neg (by omega), upS_1, if_neg (by omega), upS_1, if_pos rfl, hP1.2.1]
