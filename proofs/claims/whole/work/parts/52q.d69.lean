/-! D69: the class drops a clause -/
theorem removeL_c {k : Nat} (hk : k ≤ 12) {x : Int32} : ∀ (d j fuel : Nat) (σ : qC), j + 1 + d = k → d < fuel → σ.1 3302 = Int32.ofInt k →
    ∃ σ', c_remove_52_l22 fuel x (Int32.ofInt j) σ = some σ' ∧ σ'.1 3302 = Int32.ofInt (k - 1 : Nat) ∧ (∀ y, y ≠ 3302 → σ'.1 y = σ.1 y) ∧ (∀ a, a ≠ 34 → σ'.2 a = σ.2 a) ∧ (∀ t, σ'.2 34 t = if j ≤ t ∧ t < k - 1 then σ.2 34 (t + 1) else if t = k - 1 then x else σ.2 34 t) := by
  intro d
  induction d with
  | zero =>
    intro j fuel σ hj hf hs
    obtain ⟨fuel, rfl⟩ : ∃ m, fuel = m + 1 := ⟨fuel - 1, by omega⟩
    unfold c_remove_52_l22
    rw [hs, zadd, if_pos (zleP (by omega) (by omega) (by omega) (by omega) (by omega)), zsub]
    dsimp only [qlet]
    rw [upS_1, if_pos rfl, aputI (i := k - 1) (by omega) (by omega) (by omega), Option.bind_some]
    refine ⟨_, rfl, ?_, fun y hy => ?_, fun a ha => by rw [upA_ne ha, upS_2], fun t => ?_⟩
    · rw [upA_1, upS_1, if_pos rfl, show ((k : Int) - 1) = ((k - 1 : Nat) : Int) by omega]
    · rw [upA_1, upS_1, if_neg hy]
    · rw [upA_eq, fup_at, upS_2]
      by_cases e : t = k - 1
      · rw [if_pos e, if_neg (by omega)]
      · rw [if_neg e, if_neg (by omega)]
  | succ d ih =>
    intro j fuel σ hj hf hs
    obtain ⟨fuel, rfl⟩ : ∃ m, fuel = m + 1 := ⟨fuel - 1, by omega⟩
    conv => enter [1, σ', 1, 1]; unfold c_remove_52_l22
    rw [hs, zadd, if_neg (zleN (by omega) (by omega) (by omega) (by omega) (by omega)), agetI (i := j + 1) (by omega) (by omega) (by omega), Option.bind_some, aputI (i := j) rfl (by omega) (by omega), Option.bind_some, show ((j : Int) + 1) = ((j + 1 : Nat) : Int) by omega]
    obtain ⟨σ', a1, a2, a3, a4, a5⟩ := ih (j + 1) fuel (upA σ 34 j (σ.2 34 (j + 1))) (by omega) (by omega) hs
    refine ⟨σ', a1, a2, fun y hy => by rw [a3 y hy]; rfl, fun a ha => by rw [a4 a ha, upA_ne ha], fun t => ?_⟩
    rw [a5, upA_eq, fup_at, fup_at]
    by_cases e1 : j + 1 ≤ t ∧ t < k - 1
    · rw [if_pos e1, if_neg (by omega), if_pos (by omega)]
    · rw [if_neg e1]
      by_cases e2 : t = k - 1
      · rw [if_pos e2, if_neg (by omega), if_pos e2]
      · rw [if_neg e2]
        by_cases e3 : t = j
        · subst e3
          rw [if_pos rfl, if_pos (by omega)]
        · rw [if_neg e3, if_neg (by omega), if_neg e2]
def remI (k i t : Nat) : Nat := if i ≤ t ∧ t < k - 1 then t + 1 else if t = k - 1 then i else t
theorem remI_lt {k i t : Nat} (hi : i < k) (hk : k ≤ 12) (ht : t < 12) : remI k i t < 12 := by
  unfold remI
  split
  · omega
  · split <;> omega
theorem remI_inj {k i a b : Nat} (hi : i < k) (hk : k ≤ 12) (h : remI k i a = remI k i b) : a = b := by
  unfold remI at h
  by_cases a1 : i ≤ a ∧ a < k - 1
  · rw [if_pos a1] at h
    by_cases b1 : i ≤ b ∧ b < k - 1
    · rw [if_pos b1] at h
      omega
    · rw [if_neg b1] at h
      split at h <;> omega
  · rw [if_neg a1] at h
    by_cases b1 : i ≤ b ∧ b < k - 1
    · rw [if_pos b1] at h
      split at h <;> omega
    · rw [if_neg b1] at h
      by_cases a2 : a = k - 1
      · rw [if_pos a2] at h
        split at h <;> omega
      · rw [if_neg a2] at h
        split at h <;> omega
def pgRem (pg : Nat → Nat) (k i : Nat) : Nat → Nat := fun t => pg (remI k i t)
theorem erase_getD {l : List Cl} {i t : Nat} : (l.eraseIdx i).getD t clNil = if t < i then l.getD t clNil else l.getD (t + 1) clNil := by
  rw [List.getD_eq_getElem?_getD, List.getElem?_eraseIdx]
  split
  · rw [← List.getD_eq_getElem?_getD]
  · rw [← List.getD_eq_getElem?_getD]
theorem erase_len {l : List Cl} {i : Nat} (h : i < l.length) : (l.eraseIdx i).length = l.length - 1 := by
  rw [List.length_eraseIdx, if_pos h]
theorem PgS.rem {σ σ' : qC} {cls : List Cl} {pg : Nat → Nat} {i : Nat} (h : PgS σ cls pg) (hi : i < cls.length) (h1 : σ'.1 3302 = Int32.ofInt (cls.length - 1 : Nat)) (h28 : σ'.2 28 = σ.2 28) (h30 : σ'.2 30 = σ.2 30) (h34 : ∀ t, σ'.2 34 t = if i ≤ t ∧ t < cls.length - 1 then σ.2 34 (t + 1) else if t = cls.length - 1 then σ.2 34 i else σ.2 34 t) : PgS σ' (cls.eraseIdx i) (pgRem pg cls.length i) := by
  obtain ⟨p1, p2, p3, p4, p5⟩ := h
  refine ⟨by rw [h1, erase_len hi], by rw [erase_len hi]; omega, fun t ht => ?_, fun a b ha hb hab => remI_inj hi p2 (p4 _ _ (remI_lt hi p2 ha) (remI_lt hi p2 hb) hab), fun t ht => ?_⟩
  · have := p3 (remI cls.length i t) (remI_lt hi p2 ht)
    refine ⟨?_, this.2⟩
    rw [h34]
    show _ = Int32.ofInt (pg (remI cls.length i t))
    rw [← this.1]
    unfold remI
    split
    · rfl
    · split <;> rfl
  · rw [erase_len hi] at ht
    rw [erase_getD, h28, h30]
    unfold pgRem remI
    by_cases e : t < i
    · rw [if_pos e, if_neg (by omega), if_neg (by omega)]
      exact p5 t (by omega)
    · rw [if_neg e, if_pos (by omega)]
      exact p5 (t + 1) (by omega)
theorem drop_c {σ : qC} {A : As} {i : Int} (hi : -2147483648 ≤ i ∧ i < 2147483648) (h : CJ σ A) : ∃ σ', c_drop_51 (Int32.ofInt i) σ = some ((aDrop i A).1, σ') ∧ CJ σ' (aDrop i A).2 := by
  have h' := h
  obtain ⟨h1, h2, h3, h4, pg, h5, h6, h7⟩ := h
  have p1 := h5.1
  have p2 := h5.2.1
  unfold c_drop_51 aDrop c_size_13
  by_cases n0 : i < 0
  · rw [z0, if_pos (zltP n0 (by omega) (by omega) (by omega) (by omega)), if_neg (by omega)]
    exact ⟨σ, rfl, h'⟩
  rw [z0, if_neg (zltN (by omega) (by omega) (by omega) (by omega) (by omega)), p1]
  by_cases n1 : i < A.cls.length
  · rw [if_pos (zltP n1 (by omega) (by omega) (by omega) (by omega)), if_pos (by omega)]
    unfold c_remove_52
    rw [z0, if_neg (zltN (by omega) (by omega) (by omega) (by omega) (by omega)), p1, if_pos (zltP n1 (by omega) (by omega) (by omega) (by omega)), agetI (i := i.toNat) (by omega) (by omega) (by omega), Option.bind_some]
    obtain ⟨σ1, a1, a2, a3, a4, a5⟩ := removeL_c p2 (x := σ.2 34 i.toNat) (A.cls.length - i.toNat - 1) i.toNat qF σ (by omega) (by unfold qF; omega) p1
    rw [show ((i.toNat : Nat) : Int) = i by omega] at a1
    rw [a1, Option.bind_some]
    dsimp only [qlet]
    have hP := h5.rem (by omega) a2 (a4 28 (by omega)) (a4 30 (by omega)) a5
    have g : ∀ j, j ≠ 2410 → j ≠ 3302 → (upS σ1 2410 (Int32.ofInt 0)).1 j = σ.1 j := fun j x y => by rw [upS_1, if_neg x, a3 j y]
    refine ⟨_, rfl, h1.congr (g _ (by omega) (by omega)) (a4 26 (by omega)), by rw [g _ (by omega) (by omega)]; exact h2, h3.congr (fun t ht => g _ (by omega) (by omega)), by rw [g _ (by omega) (by omega)]; exact h4, _, hP.congr (by rw [upS_1, if_neg (by omega)]) (fun _ _ => rfl), fun _ => by rw [upS_1, if_pos rfl], fun q m a z => by cases z⟩
  · rw [if_neg (zltN (by omega) (by omega) (by omega) (by omega) (by omega)), if_neg (by omega)]
    exact ⟨σ, rfl, h'⟩
theorem drop_aw {A : As} {i : Int} (h : AW A) : AW (aDrop i A).2 := by
  unfold aDrop
  split
  · rename_i hi
    have hlt : i.toNat < A.cls.length := by omega
    have h12 := h.2.2.1
    refine ⟨h.1, h.2.1, by dsimp only; rw [erase_len hlt]; omega, fun t ht => ?_, fun q m a z => by cases z⟩
    dsimp only at ht ⊢
    rw [erase_len hlt] at ht
    rw [erase_getD]
    split
    · exact h.2.2.2.1 t (by omega)
    · exact h.2.2.2.1 (t + 1) (by omega)
  · exact h
