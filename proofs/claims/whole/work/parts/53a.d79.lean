/-! D79: the reference counts; who sleeps -/
def cnt0 (X : Nat → Int32) : Nat → Nat → Nat
  | 0, _ => 0
  | k + 1, i => (if X i = 0 then 1 else 0) + cnt0 X k (i + 1)
theorem cnt0_le {X : Nat → Int32} : ∀ k i, cnt0 X k i ≤ k
  | 0, _ => Nat.le_refl _
  | k + 1, i => by
    have := cnt0_le (X := X) k (i + 1)
    unfold cnt0
    split <;> omega
theorem cnt0_ap {X : Nat → Int32} {go : Nat → Int} {L R : Nat → Tr} {na : Nat} (hX : ∀ a, a < na → X a = Int32.ofInt (go a)) (h01 : ∀ a, go a = 0 ∨ go a = 1) : ∀ k i, i + k = na → cnt0 X k i = (apFm go L R k i).length
  | 0, _, _ => rfl
  | k + 1, i, h => by
    have ih := cnt0_ap (L := L) (R := R) hX h01 k (i + 1) (by omega)
    unfold cnt0 apFm
    rw [hX i (by omega), ih]
    rcases h01 i with e | e
    · rw [e, if_pos (by rfl), if_pos rfl, List.length_cons]
      omega
    · rw [e, if_neg (by decide), if_neg (by omega)]
      omega
def cfin (i1 : Int32) (c : Nat) (σ : qC) : Option (Int32 × qC) := if i1 = 0 then some (σ.1 6409, σ) else if i1 = Int32.ofInt 1 then some (σ.1 6407, σ) else if i1 = Int32.ofInt 2 then some (σ.1 6408, σ) else if m_in_129 i1 (Int32.ofInt 3) (Int32.ofInt 6) = 0 then some (Int32.ofInt (-1), σ) else if σ.1 6438 = 0 then some (Int32.ofInt 0, σ) else if i1 = Int32.ofInt 3 then some (σ.1 6431, σ) else if i1 = Int32.ofInt 4 then some (σ.1 6433, σ) else if i1 = Int32.ofInt 5 then some (Int32.ofInt c, σ) else some (σ.1 6427, σ)
theorem countL_m {na : Nat} {σ : qC} {i1 : Int32} (hn : σ.1 6435 = Int32.ofInt na) (hna : na ≤ 600) : ∀ (k i c fuel : Nat), i + k = na → k < fuel → m_count_173_l9 fuel i1 (Int32.ofInt c) (Int32.ofInt i) σ = cfin i1 (c + cnt0 (σ.2 89) k i) σ := by
  intro k
  induction k with
  | zero =>
    intro i c fuel hi hf
    obtain ⟨fuel, rfl⟩ : ∃ m, fuel = m + 1 := ⟨fuel - 1, by omega⟩
    unfold m_count_173_l9
    rw [hn, if_pos (zleP (by omega) (by omega) (by omega) (by omega) (by omega))]
    rfl
  | succ k ih =>
    intro i c fuel hi hf
    obtain ⟨fuel, rfl⟩ : ∃ m, fuel = m + 1 := ⟨fuel - 1, by omega⟩
    conv => lhs; unfold m_count_173_l9
    rw [hn, if_neg (zleN (by omega) (by omega) (by omega) (by omega) (by omega)), agetI (i := i) rfl (by omega) (by omega), Option.bind_some, zadd, zadd]
    unfold cnt0
    by_cases e : σ.2 89 i = 0
    · rw [if_pos e, if_pos e, show (c : Int) + 1 = ((c + 1 : Nat) : Int) by omega, show (i : Int) + 1 = ((i + 1 : Nat) : Int) by omega, ih (i + 1) (c + 1) fuel (by omega) (by omega), show c + 1 + cnt0 (σ.2 89) k (i + 1) = c + (1 + cnt0 (σ.2 89) k (i + 1)) by omega]
    · rw [if_neg e, if_neg e, show (i : Int) + 1 = ((i + 1 : Nat) : Int) by omega, ih (i + 1) c fuel (by omega) (by omega), Nat.zero_add]
theorem count_m {σ : qC} {A : As} {i : Int} (hi : -2147483648 ≤ i ∧ i < 2147483648) (h : MJ σ A) : ∃ σ', m_count_173 (Int32.ofInt i) σ = some (aCount i A, σ') ∧ MJ σ' A := by
  have h' := h
  obtain ⟨h1, h2, h3, ⟨⟨k, k1, k2⟩, h4⟩, h5, h6⟩ := h
  unfold m_count_173 aCount
  dsimp only [qlet]
  have g : ∀ j, j ≠ 6411 → (upS σ 6411 (Int32.ofInt 0)).1 j = σ.1 j := fun j hj => by rw [upS_1, if_neg hj]
  have hL := countL_m (σ := upS σ 6411 (Int32.ofInt 0)) (i1 := Int32.ofInt i) (by rw [g _ (by omega)]; exact k1) k2 k 0 0 qF (by omega) (by unfold qF; omega)
  rw [show Int32.ofInt ((0 : Nat) : Int) = Int32.ofInt 0 from rfl, Nat.zero_add] at hL
  rw [hL]
  have hJ : MJ (upS σ 6411 (Int32.ofInt 0)) A := h'.keys (h1.congr (g _ (by omega)) rfl) (by rw [g _ (by omega)]; exact h3) rfl rfl (fun _ _ => rfl) (fun j hj => g j (by omega))
  refine ⟨upS σ 6411 (Int32.ofInt 0), ?_, hJ⟩
  unfold cfin
  rw [g _ (by omega), g _ (by omega), g _ (by omega), g _ (by omega), g _ (by omega), g _ (by omega), g _ (by omega), h3, h1.1, h2.1, in_ok (by omega) (by omega) (by omega)]
  by_cases e0 : i = 0
  · rw [if_pos (by rw [e0]; rfl), if_pos e0]
  rw [z0, if_neg (zeqN e0 (by omega) (by omega) (by omega) (by omega)), if_neg e0]
  by_cases e1 : i = 1
  · rw [if_pos (by rw [e1]), if_pos e1]
  rw [if_neg (zeqN e1 (by omega) (by omega) (by omega) (by omega)), if_neg e1]
  by_cases e2 : i = 2
  · rw [if_pos (by rw [e2]), if_pos e2]
  rw [if_neg (zeqN e2 (by omega) (by omega) (by omega) (by omega)), if_neg e2]
  by_cases e36 : 3 ≤ i ∧ i ≤ 6
  · rw [if_pos e36, if_neg (by decide), if_pos e36]
    cases hq : A.q with
    | none => rw [h5 hq, if_pos rfl]
    | some x =>
      obtain ⟨q, m, a⟩ := x
      obtain ⟨b1, b2, b3, b4⟩ := h6 q m a hq
      obtain ⟨W, t, na, nc, ng, a1, ⟨m1, -⟩, a3, a4, ⟨y1, y2, y3, y4⟩, -⟩ := b3
      rw [b1, if_neg (by decide), b2]
      dsimp only
      by_cases e3 : i = 3
      · rw [if_pos (by rw [e3]), if_pos e3]
      rw [if_neg (zeqN e3 (by omega) (by omega) (by omega) (by omega)), if_neg e3]
      by_cases e4 : i = 4
      · rw [if_pos (by rw [e4]), if_pos e4]
        rw [g _ (by omega)] at y4
        rw [y4]
      rw [if_neg (zeqN e4 (by omega) (by omega) (by omega) (by omega)), if_neg e4]
      by_cases e5 : i = 5
      · rw [if_pos (by rw [e5]), if_pos e5]
        obtain ⟨-, -, -, -, -, a01, -, -, L, R, -, aap⟩ := a3
        have hk : (k : Int) = na := by
          have e := m1.2.2.2.1.2.2.1
          have hna6 : na ≤ 600 := m1.2.2.2.2.2.2.2.1
          rw [g _ (by omega), k1, zeq (by omega) (by omega) (by omega) (by omega)] at e
          exact e
        have hk' : k = na := by omega
        subst hk'
        rw [aap, cnt0_ap (L := L) (R := R) m1.2.2.1 a01 k 0 (by omega)]
      rw [if_neg (zeqN e5 (by omega) (by omega) (by omega) (by omega)), if_neg e5]
      rw [g _ (by omega)] at y1
      rw [y1]
  · rw [if_neg e36, if_pos (by decide), if_neg e36]
theorem value_m {σ : qC} {nv nc : Nat} {b : Bd} {bi : Nat → Int} {t : Int} {T : Tr} (hnv : nv ≤ 13000) (hnc : nc ≤ 24000) (ho : bOrd nv b) (hV : RVm (σ.2 72) (σ.2 73) (σ.2 74) (σ.2 75) nv nc b bi) (hT : MTx (σ.2 72) (σ.2 73) (σ.2 74) nv nc t T) (hl : lab T < 0 → vnum T < nv + 1) :
    ∃ t' : Int, m_value_158 (Int32.ofInt t) σ = some (Int32.ofInt t') ∧ MTx (σ.2 72) (σ.2 73) (σ.2 74) nv nc t' (fnd (nv + 1) b T) ∧ (lab (fnd (nv + 1) b T) < 0 → b (vnum (fnd (nv + 1) b T)) = none) := by
  unfold m_value_158
  exact valueL_ok hnv hnc ho hV (nv + 1) qF t T hT hl (by unfold qF; omega)
theorem sleepL_m {nx : Nat → Int} {σ : qC} {ns : Nat} (hns : ns ≤ 600) (hx : ∀ s, s < ns → σ.2 86 s = Int32.ofInt (nx s)) : ∀ (l : List Nat) (f : Int) (c fuel : Nat), chn nx f l → (∀ e, e ∈ l → e < ns) → c + l.length ≤ ns → l.length < fuel → m_sleeping_172_l67 fuel (Int32.ofInt c) (Int32.ofInt f) σ = some (Int32.ofInt (c + l.length : Nat), σ)
  | [], f, c, fuel, hc, hm, hl, hf => by
    obtain ⟨fuel, rfl⟩ : ∃ m, fuel = m + 1 := ⟨fuel - 1, by simp at hf; omega⟩
    have : f = -1 := hc
    subst this
    unfold m_sleeping_172_l67
    rw [if_pos (by decide)]
    rfl
  | e :: l, f, c, fuel, hc, hm, hl, hf => by
    rw [List.length_cons] at hf hl
    obtain ⟨fuel, rfl⟩ : ∃ m, fuel = m + 1 := ⟨fuel - 1, by omega⟩
    obtain ⟨h1, h2⟩ := hc
    subst h1
    have he := hm e List.mem_cons_self
    unfold m_sleeping_172_l67
    rw [z0, if_neg (zltN (by omega) (by omega) (by omega) (by omega) (by omega)), agetI (i := e) rfl (by omega) (by omega), Option.bind_some, hx e he, zadd, show (c : Int) + 1 = ((c + 1 : Nat) : Int) by omega, sleepL_m hns hx l (nx e) (c + 1) fuel h2 (fun x hx' => hm x (List.mem_cons_of_mem _ hx')) (by omega) (by omega), List.length_cons, show c + 1 + l.length = c + (l.length + 1) by omega]
def fSl (_ : Nat) : Int := 1
theorem MTx.var {G C A : Nat → Int32} {nv nc v : Nat} (h : v < nv) : MTx G C A nv nc (-1 - (v : Int)) (trVar v) := ⟨1, Or.inl ⟨by omega, by omega, by rw [show (-1 - (-1 - (v : Int))).toNat = v by omega]⟩⟩
theorem sleeping_m {σ : qC} {A : As} {i : Int} (hi : -2147483648 ≤ i ∧ i < 2147483648) (h : MJ σ A) (hA : AW A) : ∃ v σ', m_sleeping_172 (Int32.ofInt i) σ = some (v, σ') ∧ MV (aSleeping i A) fSl v σ' ∧ MJ σ' A := by
  have h' := h
  obtain ⟨h1, h2, h3, h4, h5, h6⟩ := h
  unfold m_sleeping_172 aSleeping m_bad_130
  rw [in_ok (by omega) (by omega) (by omega)]
  have g : ∀ v j, j ≠ 6411 → (upS σ 6411 v).1 j = σ.1 j := fun v j hj => by rw [upS_1, if_neg hj]
  have hJ : ∀ v, MJ (upS σ 6411 v) A := fun v => h'.keys (h1.congr (g _ _ (by omega)) rfl) (by rw [g _ _ (by omega)]; exact h3) rfl rfl (fun _ _ => rfl) (fun j hj => g _ j (by omega))
  have e11 : ∀ v, (upS σ 6411 v).1 6411 = v := fun v => by rw [upS_1, if_pos rfl]
  by_cases hn : 0 ≤ i ∧ i < 26
  · rw [if_pos (show (0 : Int) ≤ i ∧ i ≤ 25 by omega), if_neg (by decide), if_pos hn]
    dsimp only [qlet]
    rw [Option.bind_some, if_pos (by rfl)]
    dsimp only
    rw [g _ _ (by omega)]
    cases hq : A.q with
    | none =>
      rw [h5 hq, if_pos (by decide)]
      exact ⟨_, _, rfl, ⟨rfl, e11 _⟩, hJ _⟩
    | some x =>
      obtain ⟨q, m, a⟩ := x
      obtain ⟨b1, b2, b3, b4⟩ := h6 q m a hq
      obtain ⟨w1, w2, w3⟩ := hA.2.2.2.2 q m a hq
      rw [b1, if_neg (by decide), agetI (i := i.toNat) (by omega) (by omega) (by omega), Option.bind_some, upS_2, b4 _ (by omega), show (65 + ((i.toNat : Nat) : Int)) = 65 + i by omega]
      dsimp only
      by_cases ho : occ q.1 q.2.1 (65 + i) = true
      · have hrk : rnk q.1 q.2.1 i.toNat < clNv q := by
          obtain ⟨p, p1, p2⟩ := occ_iff.mp ho
          have := rnk_lt p1 (show isCa (q.1 p) by omega)
          rw [p2, show (65 + i - 65).toNat = i.toNat by omega] at this
          exact this
        have hnv := w2.nv
        rw [if_pos ho, if_pos ho, if_pos (by rw [z0]; exact zleP (by omega) (by omega) (by omega) (by omega) (by omega)), Option.bind_some, zsub]
        obtain ⟨W, t, na, nc, ng, a1, ⟨m1, m2, m3, m4, m5, m6, m7⟩, a3, a4, -⟩ := b3
        have hnv13 := m1.2.2.2.2.2.1
        obtain ⟨t', v1, v2, v3⟩ := value_m (T := trVar (rnk q.1 q.2.1 i.toNat)) (t := -1 - (rnk q.1 q.2.1 i.toNat : Nat)) hnv13 m6 m4 (m2.RV m1) (MTx.var (by have := w3.1; omega)) (fun _ => by rw [vnum_var]; have := w3.1; omega)
        rw [v1, Option.bind_some]
        have hrg := v2.cases
        by_cases hl : lab (fnd (m.2.2.1.1 + 1) m.2.2.1.2.1.1 (trVar (rnk q.1 q.2.1 i.toNat))) < 0
        · rcases hrg with ⟨t1, t2, t3⟩ | ⟨t1, t2, a, -, -, s, hs, -, hls, -⟩
          · have hvn : vnum (fnd (m.2.2.1.1 + 1) m.2.2.1.2.1.1 (trVar (rnk q.1 q.2.1 i.toNat))) = (-1 - t').toNat := by rw [t3, vnum_var]
            rw [if_pos hl, if_neg (by rw [z0]; exact zleN (by omega) (by omega) (by omega) (by omega) (by omega)), zsub, agetI (i := (-1 - t').toNat) (by omega) (by omega) (by omega), Option.bind_some, show σ.2 76 (-1 - t').toNat = Int32.ofInt (W.2.1 (-1 - t').toNat) from (m1.1 _ (by omega)).2.1, ← hvn, m2.2.1]
            have hS := a3.2.2.2.1
            have hch := (hS.1 _ (v3 hl)).1
            have hmem := (hS.2.1 (vnum (fnd (m.2.2.1.1 + 1) m.2.2.1.2.1.1 (trVar (rnk q.1 q.2.1 i.toNat))))).2.1
            have hle := nodup_len _ (hS.2.1 (vnum (fnd (m.2.2.1.1 + 1) m.2.2.1.2.1.1 (trVar (rnk q.1 q.2.1 i.toNat))))).1 hmem
            have hns := m1.2.2.2.2.2.2.1
            have := sleepL_m (nx := m.2.2.1.2.1.2.2.2.1) (σ := upS σ 6411 (Int32.ofInt 0)) (ns := m.2.2.1.2.2.1) hns (fun s hs => by rw [m1.2.1 s hs, m2.2.2.2]) _ _ 0 qF hch hmem (by omega) (by unfold qF; omega)
            rw [show Int32.ofInt ((0 : Nat) : Int) = Int32.ofInt 0 from rfl, Nat.zero_add] at this
            rw [this]
            exact ⟨_, _, rfl, ⟨rfl, e11 _⟩, hJ _⟩
          · omega
        · rcases hrg with ⟨t1, t2, t3⟩ | ⟨t1, t2, -⟩
          · rw [t3, lab_var] at hl
            omega
          · rw [if_neg hl, if_pos (by rw [z0]; exact zleP (by omega) (by omega) (by omega) (by omega) (by omega))]
            have hF : qF = 16777215 + 1 := rfl
            rw [hF]
            unfold m_sleeping_172_l67
            rw [if_pos (by decide)]
            exact ⟨_, _, rfl, ⟨rfl, e11 _⟩, hJ _⟩
      · rw [if_neg ho, if_neg ho, if_neg (by decide)]
        exact ⟨_, _, rfl, ⟨rfl, e11 _⟩, hJ _⟩
  · rw [if_neg (show ¬ ((0 : Int) ≤ i ∧ i ≤ 25) by omega), if_pos (by decide), if_neg hn]
    dsimp only [qlet]
    rw [Option.bind_some, if_neg (by show ¬ Int32.ofInt 1 = 0; decide)]
    exact ⟨_, _, rfl, e11 _, hJ _⟩
