/-! D44: the reference numbers a text's letters -/
theorem born_ok {σ : qC} {nv bn : Nat} (h : σ.1 6426 = Int32.ofInt nv) (hb : σ.1 6427 = Int32.ofInt bn) (hn : nv < 13000) :
    ∃ σ', m_born_141 σ = some (Int32.ofInt nv, σ') ∧ σ'.1 6426 = Int32.ofInt (nv + 1 : Nat) ∧ σ'.1 6427 = Int32.ofInt (bn + 1 : Nat) ∧ σ'.2 75 = fup (σ.2 75) nv (Int32.ofInt 2147483647) ∧ σ'.2 76 = fup (σ.2 76) nv (Int32.ofInt (-1)) ∧ σ'.2 77 = fup (σ.2 77) nv (Int32.ofInt (-1)) ∧ (∀ k, k ≠ 75 → k ≠ 76 → k ≠ 77 → σ'.2 k = σ.2 k) ∧ (∀ j, j ≠ 6426 → j ≠ 6427 → σ'.1 j = σ.1 j) := by
  unfold m_born_141
  rw [h, aputI (i := nv) rfl hn (by omega), Option.bind_some, aputI (i := nv) rfl hn (by omega), Option.bind_some, aputI (i := nv) rfl hn (by omega), Option.bind_some]
  dsimp only [qlet]
  refine ⟨_, rfl, ?_, ?_, ?_, ?_, ?_, fun k a b c => ?_, fun j a b => ?_⟩
  · rw [upS_1, if_neg (by omega), upS_1, if_pos rfl, upA_1, upA_1, upA_1, h, zadd]; rfl
  · rw [upS_1, if_pos rfl, upS_1, if_neg (by omega), upA_1, upA_1, upA_1, hb, zadd]; rfl
  · rw [upS_2, upS_2, upA_ne (by omega), upA_ne (by omega), upA_eq]
  · rw [upS_2, upS_2, upA_ne (by omega), upA_eq, upA_ne (by omega)]
  · rw [upS_2, upS_2, upA_eq, upA_ne (by omega), upA_ne (by omega)]
  · rw [upS_2, upS_2, upA_ne c, upA_ne b, upA_ne a]
  · rw [upS_1, if_neg b, upS_1, if_neg a]; rfl
/-- one letter was numbered -/
def NumB (σ σ' : qC) (nv bn v : Nat) : Prop := σ'.1 6426 = Int32.ofInt (nv + 1 : Nat) ∧ σ'.1 6427 = Int32.ofInt (bn + 1 : Nat) ∧ σ'.2 75 = fup (σ.2 75) nv (Int32.ofInt 2147483647) ∧ σ'.2 76 = fup (σ.2 76) nv (Int32.ofInt (-1)) ∧ σ'.2 77 = fup (σ.2 77) nv (Int32.ofInt (-1)) ∧ σ'.2 70 = fup (σ.2 70) v (Int32.ofInt nv) ∧ (∀ k, k ≠ 70 → k ≠ 75 → k ≠ 76 → k ≠ 77 → σ'.2 k = σ.2 k) ∧ (∀ j, j ≠ 6426 → j ≠ 6427 → σ'.1 j = σ.1 j)
theorem num_in {K : Int32 → qC → Option qC} {base n v nv bn : Nat} {tx : Nat → Int} (hv : v < 26) (hnv : nv < 13000) : ∀ (k p fuel : Nat) (σ : qC), TXT σ base n tx → p + k = n → σ.2 70 v = Int32.ofInt (-1) → σ.1 6426 = Int32.ofInt nv → σ.1 6427 = Int32.ofInt bn → k + 1 < fuel →
    ((∃ p', p ≤ p' ∧ p' < n ∧ tx p' = 65 + v) → ∃ σ', m_number_140_l20 K fuel (Int32.ofInt v) (Int32.ofInt (base + p : Nat)) σ = K (Int32.ofInt (v + 1 : Nat)) σ' ∧ NumB σ σ' nv bn v) ∧ ((¬ ∃ p', p ≤ p' ∧ p' < n ∧ tx p' = 65 + v) → m_number_140_l20 K fuel (Int32.ofInt v) (Int32.ofInt (base + p : Nat)) σ = K (Int32.ofInt (v + 1 : Nat)) σ) := by
  intro k
  induction k with
  | zero =>
    intro p fuel σ hT hp hm hn hb hf
    obtain ⟨t1, t2, t3, t4, t5, t6⟩ := hT
    refine ⟨fun ⟨p', a, b, _⟩ => by omega, fun _ => ?_⟩
    cases fuel with
    | zero => omega
    | succ fuel =>
      unfold m_number_140_l20
      rw [t1, if_pos (zleP (by omega) (by omega) (by omega) (by omega) (by omega)), zadd]
      rfl
  | succ k ih =>
    intro p fuel σ hT hp hm hn hb hf
    have hT' := hT
    obtain ⟨t1, t2, t3, t4, t5, t6⟩ := hT
    cases fuel with
    | zero => omega
    | succ fuel =>
      have h6 := t6 p
      have e : m_number_140_l20 K (fuel + 1) (Int32.ofInt v) (Int32.ofInt (base + p : Nat)) σ = if tx p = 65 + v then (m_born_141 σ).bind (fun p8 => (aput p8.2 70 26 (Int32.ofInt v) p8.1).bind (fun σ10 => (m_number_140_l20 K fuel) (Int32.ofInt v) (Int32.ofInt (base + (p + 1) : Nat)) σ10)) else m_number_140_l20 K fuel (Int32.ofInt v) (Int32.ofInt (base + (p + 1) : Nat)) σ := by
        conv => lhs; unfold m_number_140_l20
        rw [t1, if_neg (zleN (by omega) (by omega) (by omega) (by omega) (by omega)), agetI (i := v) rfl hv (by omega), Option.bind_some, hm, z0, if_neg (zleN (by omega) (by omega) (by omega) (by omega) (by omega)), agetI (i := base + p) rfl (by omega) (by omega), Option.bind_some, t2 p (by omega), zadd, zadd]
        by_cases hc : tx p = 65 + v
        · rw [if_pos (by rw [hc]), if_pos hc]
          rfl
        · rw [if_neg (zeqN hc (by omega) (by omega) (by omega) (by omega)), if_neg hc]
          rfl
      rw [e]
      by_cases hc : tx p = 65 + v
      · refine ⟨fun _ => ?_, fun z => absurd ⟨p, Nat.le_refl _, by omega, hc⟩ z⟩
        rw [if_pos hc]
        obtain ⟨σ1, b1, b2, b3, b4, b5, b6, b7, b8⟩ := born_ok hn hb hnv
        rw [b1, Option.bind_some, aputI (i := v) rfl hv (by omega), Option.bind_some]
        refine ⟨upA σ1 70 v (Int32.ofInt nv), ?_, b2, b3, by rw [upA_ne (by omega), b4], by rw [upA_ne (by omega), b5], by rw [upA_ne (by omega), b6], by rw [upA_eq, b7 70 (by omega) (by omega) (by omega)], fun k a b c d => by rw [upA_ne a, b7 k b c d], b8⟩
        cases fuel with
        | zero => omega
        | succ fuel =>
          unfold m_number_140_l20
          rw [upA_1, b8 _ (by omega) (by omega), t1]
          by_cases hl : n ≤ p + 1
          · rw [if_pos (zleP (by omega) (by omega) (by omega) (by omega) (by omega)), zadd]; rfl
          · rw [if_neg (zleN (by omega) (by omega) (by omega) (by omega) (by omega)), agetI (i := v) rfl hv (by omega), Option.bind_some, upA_eq, fup_at, if_pos rfl, z0, if_pos (zleP (by omega) (by omega) (by omega) (by omega) (by omega)), zadd]; rfl
      · rw [if_neg hc]
        obtain ⟨i1, i2⟩ := ih (p + 1) fuel σ hT' (by omega) hm hn hb (by omega)
        refine ⟨fun ⟨p', a, b, c⟩ => i1 ⟨p', ?_, b, c⟩, fun z => i2 (fun ⟨p', a, b, c⟩ => z ⟨p', by omega, b, c⟩)⟩
        rcases Nat.lt_or_ge p p' with h | h
        · omega
        · have : p' = p := by omega
          subst this
          exact absurd c hc
/-- the letters below v are numbered -/
def NumI (σ0 σ : qC) (n nv bn v : Nat) (tx : Nat → Int) : Prop :=
  (σ.1 6426 = Int32.ofInt (nv + rnk tx n v : Nat) ∧ σ.1 6427 = Int32.ofInt (bn + rnk tx n v : Nat)) ∧ (∀ u, u < v → σ.2 70 u = if occ tx n (65 + (u : Int)) then Int32.ofInt (nv + rnk tx n u : Nat) else Int32.ofInt (-1)) ∧ (∀ i, i < nv → σ.2 75 i = σ0.2 75 i ∧ σ.2 76 i = σ0.2 76 i ∧ σ.2 77 i = σ0.2 77 i) ∧ (∀ i, nv ≤ i → i < nv + rnk tx n v → σ.2 75 i = Int32.ofInt 2147483647 ∧ σ.2 76 i = Int32.ofInt (-1) ∧ σ.2 77 i = Int32.ofInt (-1)) ∧ (∀ k, k ≠ 70 → k ≠ 75 → k ≠ 76 → k ≠ 77 → σ.2 k = σ0.2 k) ∧ (∀ j, j ≠ 6426 → j ≠ 6427 → σ.1 j = σ0.1 j)
theorem occ_iff {tx : Nat → Int} {n : Nat} {c : Int} : occ tx n c = true ↔ ∃ p, p < n ∧ tx p = c := by
  unfold occ
  rw [List.any_eq_true]
  constructor
  · rintro ⟨p, a, b⟩
    exact ⟨p, List.mem_range.mp a, by simpa using b⟩
  · rintro ⟨p, a, b⟩
    exact ⟨p, List.mem_range.mpr a, by simpa using b⟩
theorem num_out {base n nv bn : Nat} {tx : Nat → Int} {σ0 : qC} (hT0 : TXT σ0 base n tx) (hs : σ0.1 6412 = Int32.ofInt base) (hnv : nv + rnk tx n 26 < 13000) : ∀ (k v fuel : Nat) (σ : qC), v + k = 26 → NumI σ0 σ n nv bn v tx → k < fuel → ∃ σ', m_number_140_l2 fuel (Int32.ofInt v) σ = some σ' ∧ NumI σ0 σ' n nv bn 26 tx := by
  intro k
  induction k with
  | zero =>
    intro v fuel σ hv hI hf
    cases fuel with
    | zero => omega
    | succ fuel =>
      have : v = 26 := by omega
      subst this
      unfold m_number_140_l2
      rw [if_pos (zleP (by omega) (by omega) (by omega) (by omega) (by omega))]
      exact ⟨σ, rfl, hI⟩
  | succ k ih =>
    intro v fuel σ hv hI hf
    cases fuel with
    | zero => omega
    | succ fuel =>
      have hr1 : rnk tx n (v + 1) = rnk tx n v + (if occ tx n (65 + (v : Int)) then 1 else 0) := rfl
      have hr2 := rnk_mono (tx := tx) (n := n) (m := v + 1) (26 - (v + 1))
      rw [show v + 1 + (26 - (v + 1)) = 26 by omega] at hr2
      obtain ⟨⟨i1, i2⟩, i3, i4, i5, i6, i7⟩ := hI
      unfold m_number_140_l2
      rw [if_neg (zleN (by omega) (by omega) (by omega) (by omega) (by omega)), aputI (i := v) rfl (by omega) (by omega), Option.bind_some, upA_1, i7 _ (by omega) (by omega), hs]
      obtain ⟨σ1, hσ1⟩ : ∃ σ1, σ1 = upA σ 70 v (Int32.ofInt (-1)) := ⟨_, rfl⟩
      rw [← hσ1]
      have s1 : σ1.1 = σ.1 := by rw [hσ1]; rfl
      have s2 : ∀ k, k ≠ 70 → σ1.2 k = σ.2 k := fun k a => by rw [hσ1, upA_ne a]
      have s70 : ∀ u, σ1.2 70 u = if u = v then Int32.ofInt (-1) else σ.2 70 u := fun u => by rw [hσ1, upA_eq, fup_at]
      have hT1 : TXT σ1 base n tx := hT0.congr (by rw [s1, i7 _ (by omega) (by omega)]) (by rw [s2 _ (by omega), i6 _ (by omega) (by omega) (by omega) (by omega)])
      have hn48 := hT0.2.2.2.1
      by_cases ho : occ tx n (65 + (v : Int)) = true
      · rw [if_pos ho] at hr1
        obtain ⟨p', a, b⟩ := occ_iff.mp ho
        have hin := (num_in (K := m_number_140_l2 fuel) (base := base) (n := n) (v := v) (nv := nv + rnk tx n v) (bn := bn + rnk tx n v) (tx := tx) (by omega) (by omega) n 0 qF σ1 hT1 (by omega) (by rw [s70, if_pos rfl]) (by rw [s1, i1]) (by rw [s1, i2]) (by unfold qF; omega)).1 ⟨p', by omega, a, b⟩
        obtain ⟨σ2, e1, b1, b2, b3, b4, b5, b6, b7, b8⟩ := hin
        rw [Nat.add_zero] at e1
        rw [e1]
        refine ih (v + 1) fuel σ2 (by omega) ⟨⟨?_, ?_⟩, ?_, ?_, ?_, ?_, ?_⟩ (by omega)
        · rw [b1, hr1]; rfl
        · rw [b2, hr1]; rfl
        · intro u hu
          rw [b6, fup_at]
          by_cases h1 : u = v
          · rw [if_pos h1, h1, if_pos ho]
          · rw [if_neg h1, s70, if_neg h1, i3 u (by omega)]
        · intro i hi
          rw [b3, b4, b5, fup_at, fup_at, fup_at, if_neg (by omega), if_neg (by omega), if_neg (by omega), s2 _ (by omega), s2 _ (by omega), s2 _ (by omega)]
          exact i4 i hi
        · intro i hi hi2
          rw [b3, b4, b5, fup_at, fup_at, fup_at]
          by_cases h1 : i = nv + rnk tx n v
          · rw [if_pos h1, if_pos h1, if_pos h1]
            exact ⟨rfl, rfl, rfl⟩
          · rw [if_neg h1, if_neg h1, if_neg h1, s2 _ (by omega), s2 _ (by omega), s2 _ (by omega)]
            exact i5 i hi (by omega)
        · intro k a b c d
          rw [b7 k a b c d, s2 k a, i6 k a b c d]
        · intro j a b
          rw [b8 j a b, s1, i7 j a b]
      · rw [if_neg ho] at hr1
        have hin := (num_in (K := m_number_140_l2 fuel) (base := base) (n := n) (v := v) (nv := if nv + rnk tx n v < 13000 then nv + rnk tx n v else 0) (bn := bn + rnk tx n v) (tx := tx) (by omega) (by split <;> omega) n 0 qF σ1 hT1 (by omega) (by rw [s70, if_pos rfl]))
        by_cases hlt : nv + rnk tx n v < 13000
        · rw [if_pos hlt] at hin
          have hin2 := (hin (by rw [s1, i1]) (by rw [s1, i2]) (by unfold qF; omega)).2 (fun ⟨p', a, b, c⟩ => ho (occ_iff.mpr ⟨p', b, c⟩))
          rw [Nat.add_zero] at hin2
          rw [hin2]
          refine ih (v + 1) fuel σ1 (by omega) ⟨⟨?_, ?_⟩, ?_, ?_, ?_, ?_, ?_⟩ (by omega)
          · rw [s1, i1, hr1]; rfl
          · rw [s1, i2, hr1]; rfl
          · intro u hu
            rw [s70]
            by_cases h1 : u = v
            · rw [if_pos h1, h1, if_neg ho]
            · rw [if_neg h1, i3 u (by omega)]
          · intro i hi
            rw [s2 _ (by omega), s2 _ (by omega), s2 _ (by omega)]
            exact i4 i hi
          · intro i hi hi2
            rw [s2 _ (by omega), s2 _ (by omega), s2 _ (by omega)]
            exact i5 i hi (by omega)
          · intro k a b c d
            rw [s2 k a, i6 k a b c d]
          · intro j a b
            rw [s1, i7 j a b]
        · omega
theorem number_ok {base n nv bn : Nat} {tx : Nat → Int} {σ : qC} (hT : TXT σ base n tx) (hs : σ.1 6412 = Int32.ofInt base) (hnv : nv + rnk tx n 26 < 13000) (h1 : σ.1 6426 = Int32.ofInt nv) (h2 : σ.1 6427 = Int32.ofInt bn) : ∃ σ', m_number_140 σ = some σ' ∧ NumI σ σ' n nv bn 26 tx :=
  num_out hT hs hnv 26 0 qF σ (by omega) ⟨⟨h1, h2⟩, fun u hu => by omega, fun _ _ => ⟨rfl, rfl, rfl⟩, fun i a b => by have : rnk tx n 0 = 0 := rfl; omega, fun _ _ _ _ _ => rfl, fun _ _ _ => rfl⟩ (by unfold qF; omega)
theorem NumI.map {σ0 σ : qC} {n nv bn : Nat} {tx : Nat → Int} (h : NumI σ0 σ n nv bn 26 tx) : MAP σ n nv tx := by
  intro p hp hc
  rw [h.2.1 _ (by omega), if_pos (occ_iff.mpr ⟨p, hp, by omega⟩)]
