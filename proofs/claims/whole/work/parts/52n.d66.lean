/-! D66: typing, both sides -/
def byt (l : Int64) (k : Nat) : Nat := (((l.toUInt64 >>> ((Int32.ofInt (56 - 8 * (k : Int))).toInt64.toUInt64 &&& Int64.toUInt64 63)).toInt64.toInt32).toBitVec.toNat) % 256
theorem byt_lt (l : Int64) (k : Nat) : byt l k < 256 := Nat.mod_lt _ (by omega)
theorem and255 (x : Int32) : x &&& Int32.ofInt 255 = Int32.ofInt ((x.toBitVec.toNat % 256 : Nat) : Int) := by
  apply Int32.toBitVec_inj.1
  rw [Int32.toBitVec_and]
  show x.toBitVec &&& BitVec.ofNat 32 255 = BitVec.ofNat 32 (x.toBitVec.toNat % 256)
  apply BitVec.eq_of_toNat_eq
  rw [BitVec.toNat_and, BitVec.toNat_ofNat, BitVec.toNat_ofNat, show 255 % 2 ^ 32 = 2 ^ 8 - 1 from rfl, Nat.and_two_pow_sub_one_eq_mod, Nat.mod_eq_of_lt (show x.toBitVec.toNat % 256 < 2 ^ 32 by omega)]
theorem byte_c {l : Int64} {k : Nat} {a : Int} (h : a = 56 - 8 * (k : Int)) : c_byteOf_21 l (Int32.ofInt a) = Int32.ofInt (byt l k : Nat) := by
  subst h
  exact and255 _
theorem byte_m {l : Int64} {k : Nat} {a : Int} (h : a = 56 - 8 * (k : Int)) : (((l.toUInt64 >>> ((Int32.ofInt a).toInt64.toUInt64 &&& Int64.toUInt64 63)).toInt64).toInt32) &&& (Int32.ofInt 255) = Int32.ofInt (byt l k : Nat) := by
  subst h
  exact and255 _
set_option maxRecDepth 100000 in
theorem chr_ok : ∀ v : Fin 256, (((Int32.ofInt (v.1 : Int)).toUInt32 % 65536).toInt32).toUInt32.toUInt16.toUInt32.toInt32 = Int32.ofInt (v.1 : Int) := by decide
/-- how many characters; are they right; the text with them -/
def nzF (l : Int64) : Nat → Nat → Nat
  | 0, _ => 0
  | m + 1, k => (if byt l k = 0 then 0 else 1) + nzF l m (k + 1)
def okF (l : Int64) : Nat → Nat → Bool
  | 0, _ => true
  | m + 1, k => decide (byt l k = 0 ∨ 33 ≤ byt l k ∧ byt l k ≤ 126) && okF l m (k + 1)
def tyF (l : Int64) : Nat → Nat → (Nat → Int) × Nat → (Nat → Int) × Nat
  | 0, _, t => t
  | m + 1, k, t => tyF l m (k + 1) (if byt l k = 0 then t else (gup t.1 t.2 (byt l k : Int), t.2 + 1))
theorem nzF_le (l : Int64) : ∀ m k, nzF l m k ≤ m
  | 0, _ => Nat.le_refl _
  | m + 1, k => by
    have := nzF_le l m (k + 1)
    unfold nzF
    split <;> omega
theorem tyF_n (l : Int64) : ∀ m k t, (tyF l m k t).2 = t.2 + nzF l m k
  | 0, _, _ => rfl
  | m + 1, k, t => by
    unfold tyF nzF
    rw [tyF_n l m (k + 1)]
    split
    · omega
    · dsimp only
      omega
/-- class: the first turn -/
theorem type1_c {l : Int64} {σ : qC} {n : Nat} (hn : σ.1 2501 = Int32.ofInt n) (hn48 : n ≤ 48) : ∀ (m k c fuel : Nat), k + m = 8 → m < fuel → c ≤ k →
    c_type_20_l6 fuel l (Int32.ofInt c) (Int32.ofInt (56 - 8 * (k : Int))) σ = if okF l m k = true then (if n + (c + nzF l m k) ≤ 48 then c_type_20_l95 qF l (Int32.ofInt 56) σ else some (.inr 13, σ)) else some (.inr 12, σ) := by
  intro m
  induction m with
  | zero =>
    intro k c fuel hk hf hc
    obtain ⟨fuel, rfl⟩ : ∃ m, fuel = m + 1 := ⟨fuel - 1, by omega⟩
    unfold c_type_20_l6 c_length_12
    rw [z0, if_pos (zltP (by omega) (by omega) (by omega) (by omega) (by omega)), hn, zadd, if_pos (show okF l 0 k = true from rfl), show nzF l 0 k = 0 from rfl, Nat.add_zero]
    by_cases h : n + c ≤ 48
    · rw [if_pos (zleP (by omega) (by omega) (by omega) (by omega) (by omega)), if_pos h]
    · rw [if_neg (zleN (by omega) (by omega) (by omega) (by omega) (by omega)), if_neg h]
  | succ m ih =>
    intro k c fuel hk hf hc
    obtain ⟨fuel, rfl⟩ : ∃ m, fuel = m + 1 := ⟨fuel - 1, by omega⟩
    have hb := byt_lt l k
    conv => lhs; unfold c_type_20_l6
    rw [z0, if_neg (zltN (by omega) (by omega) (by omega) (by omega) (by omega)), byte_c rfl]
    have e8 : Int32.ofInt (56 - 8 * (k : Int)) + Int32.ofInt (-8) = Int32.ofInt (56 - 8 * ((k + 1 : Nat) : Int)) := by
      rw [zadd]
      congr 1
      omega
    have eo : okF l (m + 1) k = (decide (byt l k = 0 ∨ 33 ≤ byt l k ∧ byt l k ≤ 126) && okF l m (k + 1)) := rfl
    have en : nzF l (m + 1) k = (if byt l k = 0 then 0 else 1) + nzF l m (k + 1) := rfl
    by_cases h0 : byt l k = 0
    · rw [if_pos (by rw [h0]; rfl)]
      unfold c_type_20_j48
      rw [if_pos (by rw [h0]; rfl), e8, zadd]
      have := ih (k + 1) c fuel (by omega) (by omega) (by omega)
      rw [show (c : Int) + 0 = (c : Int) by omega, this, eo, en, if_pos h0, decide_eq_true (Or.inl h0), Bool.true_and, Nat.zero_add]
    rw [if_neg (zeqN (by omega) (by omega) (by omega) (by omega) (by omega))]
    by_cases h1 : byt l k < 33
    · rw [if_pos (zltP (by omega) (by omega) (by omega) (by omega) (by omega)), eo, decide_eq_false (by omega), Bool.false_and, if_neg (by simp)]
    rw [if_neg (zltN (by omega) (by omega) (by omega) (by omega) (by omega))]
    by_cases h2 : byt l k ≤ 126
    · rw [if_pos (zleP (by omega) (by omega) (by omega) (by omega) (by omega))]
      unfold c_type_20_j48
      rw [if_neg (by rw [z0]; exact zeqN (by omega) (by omega) (by omega) (by omega) (by omega)), e8, zadd]
      have := ih (k + 1) (c + 1) fuel (by omega) (by omega) (by omega)
      rw [show (c : Int) + 1 = ((c + 1 : Nat) : Int) by omega, this, eo, en, if_neg h0, decide_eq_true (Or.inr ⟨by omega, h2⟩), Bool.true_and, show c + (1 + nzF l m (k + 1)) = c + 1 + nzF l m (k + 1) by omega]
    · rw [if_neg (zleN (by omega) (by omega) (by omega) (by omega) (by omega)), eo, decide_eq_false (by omega), Bool.false_and, if_neg (by simp)]
theorem type2_c {l : Int64} : ∀ (m k fuel : Nat) (σ : qC) (t : (Nat → Int) × Nat), k + m = 8 → m < fuel → σ.1 2501 = Int32.ofInt t.2 → (∀ p, p < t.2 → σ.2 26 p = Int32.ofInt (t.1 p)) → t.2 + nzF l m k ≤ 48 →
    ∃ σ', c_type_20_l95 fuel l (Int32.ofInt (56 - 8 * (k : Int))) σ = some (.inl (Int32.ofInt (tyF l m k t).2), σ') ∧ σ'.1 2501 = Int32.ofInt (tyF l m k t).2 ∧ (∀ p, p < (tyF l m k t).2 → σ'.2 26 p = Int32.ofInt ((tyF l m k t).1 p)) ∧ (∀ j, j ≠ 2501 → σ'.1 j = σ.1 j) ∧ (∀ a, a ≠ 26 → σ'.2 a = σ.2 a) := by
  intro m
  induction m with
  | zero =>
    intro k fuel σ t hk hf h1 h2 h3
    obtain ⟨fuel, rfl⟩ : ∃ m, fuel = m + 1 := ⟨fuel - 1, by omega⟩
    unfold c_type_20_l95 c_length_12
    rw [z0, if_pos (zltP (by omega) (by omega) (by omega) (by omega) (by omega)), h1]
    exact ⟨σ, rfl, h1, h2, fun _ _ => rfl, fun _ _ => rfl⟩
  | succ m ih =>
    intro k fuel σ t hk hf h1 h2 h3
    obtain ⟨fuel, rfl⟩ : ∃ m, fuel = m + 1 := ⟨fuel - 1, by omega⟩
    have hb := byt_lt l k
    conv => enter [1, σ', 1, 1]; unfold c_type_20_l95
    rw [z0, if_neg (zltN (by omega) (by omega) (by omega) (by omega) (by omega)), byte_c rfl]
    have e8 : Int32.ofInt (56 - 8 * (k : Int)) + Int32.ofInt (-8) = Int32.ofInt (56 - 8 * ((k + 1 : Nat) : Int)) := by
      rw [zadd]
      congr 1
      omega
    have en : nzF l (m + 1) k = (if byt l k = 0 then 0 else 1) + nzF l m (k + 1) := rfl
    have et : tyF l (m + 1) k t = tyF l m (k + 1) (if byt l k = 0 then t else (gup t.1 t.2 (byt l k : Int), t.2 + 1)) := rfl
    unfold c_append_22
    by_cases h0 : byt l k = 0
    · rw [if_pos (by rw [h0]; rfl), Option.bind_some, e8, et, if_pos h0]
      rw [en, if_pos h0] at h3
      exact ih (k + 1) fuel σ t (by omega) (by omega) h1 h2 (by omega)
    · rw [en, if_neg h0] at h3
      rw [if_neg (by rw [z0]; exact zeqN (by omega) (by omega) (by omega) (by omega) (by omega)), h1, znat, if_neg (zleN (by omega) (by omega) (by omega) (by omega) (by omega)), aputI (i := t.2) rfl (by omega) (by omega), Option.bind_some, chr_ok ⟨byt l k, hb⟩]
      dsimp only [qlet]
      rw [Option.bind_some, upA_1, h1, e8, zadd, et, if_neg h0]
      obtain ⟨σ1, hσ1⟩ : ∃ σ1, σ1 = upS (upA σ 26 t.2 (Int32.ofInt (byt l k : Nat))) 2501 (Int32.ofInt ((t.2 : Int) + 1)) := ⟨_, rfl⟩
      rw [← hσ1]
      obtain ⟨σ', a1, a2, a3, a4, a5⟩ := ih (k + 1) fuel σ1 (gup t.1 t.2 (byt l k : Int), t.2 + 1) (by omega) (by omega) (by rw [hσ1, upS_1, if_pos rfl]; rfl) (fun p hp => by
        rw [hσ1, upS_2, upA_eq, fup_at]
        dsimp only [gup]
        by_cases e : p = t.2
        · rw [if_pos e, if_pos e]
        · rw [if_neg e, if_neg e]
          dsimp only at hp
          exact h2 p (by omega)) (by dsimp only; omega)
      exact ⟨σ', a1, a2, a3, fun j hj => by rw [a4 j hj, hσ1, upS_1, if_neg hj]; rfl, fun a ha => by rw [a5 a ha, hσ1, upS_2, upA_ne ha]⟩
theorem type1_m {l : Int64} {σ : qC} {n : Nat} (hn : σ.1 6407 = Int32.ofInt n) (hn48 : n ≤ 48) : ∀ (m k c fuel : Nat) (fl : Bool), k + m = 8 → m < fuel → c ≤ k →
    m_type_128_l9 fuel l (Int32.ofInt c) (bo fl) (Int32.ofInt (56 - 8 * (k : Int))) σ = if (fl && okF l m k) = true then (if n + (c + nzF l m k) ≤ 48 then m_type_128_l91 qF l (Int32.ofInt 56) (upS σ 6411 (Int32.ofInt 0)) else some (Int32.ofInt 0, upS (upS σ 6411 (Int32.ofInt 0)) 6411 (Int32.ofInt 2))) else some (Int32.ofInt 0, upS σ 6411 (Int32.ofInt 1)) := by
  intro m
  induction m with
  | zero =>
    intro k c fuel fl hk hf hc
    obtain ⟨fuel, rfl⟩ : ∃ m, fuel = m + 1 := ⟨fuel - 1, by omega⟩
    unfold m_type_128_l9 m_bad_130 m_fail_131
    rw [z0, if_pos (zltP (by omega) (by omega) (by omega) (by omega) (by omega)), show okF l 0 k = true from rfl, Bool.and_true]
    cases fl with
    | false =>
      rw [if_pos (by rfl), if_neg (by simp)]
      rfl
    | true =>
      rw [if_neg (by decide), if_pos rfl]
      dsimp only [qlet]
      rw [Option.bind_some, if_pos rfl]
      dsimp only
      have e7 : (upS σ 6411 (Int32.ofInt 0)).1 6407 = Int32.ofInt n := by rw [upS_1, if_neg (by omega), hn]
      rw [e7, zadd, show nzF l 0 k = 0 from rfl, Nat.add_zero]
      by_cases h : n + c ≤ 48
      · rw [if_pos (zleP (by omega) (by omega) (by omega) (by omega) (by omega)), if_pos h]
      · rw [if_neg (zleN (by omega) (by omega) (by omega) (by omega) (by omega)), if_neg h]
        rfl
  | succ m ih =>
    intro k c fuel fl hk hf hc
    obtain ⟨fuel, rfl⟩ : ∃ m, fuel = m + 1 := ⟨fuel - 1, by omega⟩
    have hb := byt_lt l k
    conv => lhs; unfold m_type_128_l9
    rw [z0, if_neg (zltN (by omega) (by omega) (by omega) (by omega) (by omega)), byte_m rfl]
    dsimp only [qlet]
    have e8 : Int32.ofInt (56 - 8 * (k : Int)) + Int32.ofInt (-8) = Int32.ofInt (56 - 8 * ((k + 1 : Nat) : Int)) := by
      rw [zadd]
      congr 1
      omega
    have eo : okF l (m + 1) k = (decide (byt l k = 0 ∨ 33 ≤ byt l k ∧ byt l k ≤ 126) && okF l m (k + 1)) := rfl
    have en : nzF l (m + 1) k = (if byt l k = 0 then 0 else 1) + nzF l m (k + 1) := rfl
    unfold m_type_128_j33 m_type_128_j53
    rw [e8, in_ok (by omega) (by omega) (by omega)]
    by_cases h0 : byt l k = 0
    · rw [if_pos (by rw [h0]; rfl), if_pos (by rw [h0]; rfl), ih (k + 1) c fuel fl (by omega) (by omega) (by omega), eo, en, if_pos h0, decide_eq_true (Or.inl h0), Bool.true_and, Nat.zero_add]
    have hn0 : ¬ Int32.ofInt (byt l k : Nat) = Int32.ofInt 0 := zeqN (by omega) (by omega) (by omega) (by omega) (by omega)
    have hn0' : ¬ Int32.ofInt (byt l k : Nat) = 0 := hn0
    rw [if_neg hn0, if_neg hn0', zadd, show (c : Int) + 1 = ((c + 1 : Nat) : Int) by omega]
    by_cases h1 : 33 ≤ byt l k ∧ byt l k ≤ 126
    · rw [if_pos (show (33 : Int) ≤ (byt l k : Nat) ∧ ((byt l k : Nat) : Int) ≤ 126 by omega), if_neg (by decide), ih (k + 1) (c + 1) fuel fl (by omega) (by omega) (by omega), eo, en, if_neg h0, decide_eq_true (Or.inr h1), Bool.true_and, show c + (1 + nzF l m (k + 1)) = c + 1 + nzF l m (k + 1) by omega]
    · rw [if_neg (show ¬ ((33 : Int) ≤ (byt l k : Nat) ∧ ((byt l k : Nat) : Int) ≤ 126) by omega), if_pos (by decide)]
      have := ih (k + 1) (c + 1) fuel false (by omega) (by omega) (by omega)
      rw [bo_f] at this
      rw [this, Bool.false_and, eo, decide_eq_false (by omega), Bool.false_and, Bool.and_false, if_neg (by simp), if_neg (by simp)]
theorem type2_m {l : Int64} : ∀ (m k fuel : Nat) (σ : qC) (t : (Nat → Int) × Nat), k + m = 8 → m < fuel → σ.1 6407 = Int32.ofInt t.2 → (∀ p, p < t.2 → σ.2 65 p = Int32.ofInt (t.1 p)) → t.2 + nzF l m k ≤ 48 →
    ∃ σ', m_type_128_l91 fuel l (Int32.ofInt (56 - 8 * (k : Int))) σ = some (Int32.ofInt (tyF l m k t).2, σ') ∧ σ'.1 6407 = Int32.ofInt (tyF l m k t).2 ∧ (∀ p, p < (tyF l m k t).2 → σ'.2 65 p = Int32.ofInt ((tyF l m k t).1 p)) ∧ (∀ j, j ≠ 6407 → σ'.1 j = σ.1 j) ∧ (∀ a, a ≠ 65 → σ'.2 a = σ.2 a) := by
  intro m
  induction m with
  | zero =>
    intro k fuel σ t hk hf h1 h2 h3
    obtain ⟨fuel, rfl⟩ : ∃ m, fuel = m + 1 := ⟨fuel - 1, by omega⟩
    unfold m_type_128_l91
    rw [z0, if_pos (zltP (by omega) (by omega) (by omega) (by omega) (by omega)), h1]
    exact ⟨σ, rfl, h1, h2, fun _ _ => rfl, fun _ _ => rfl⟩
  | succ m ih =>
    intro k fuel σ t hk hf h1 h2 h3
    obtain ⟨fuel, rfl⟩ : ∃ m, fuel = m + 1 := ⟨fuel - 1, by omega⟩
    have hb := byt_lt l k
    conv => enter [1, σ', 1, 1]; unfold m_type_128_l91
    rw [z0, if_neg (zltN (by omega) (by omega) (by omega) (by omega) (by omega)), byte_m rfl]
    dsimp only [qlet]
    have e8 : Int32.ofInt (56 - 8 * (k : Int)) + Int32.ofInt (-8) = Int32.ofInt (56 - 8 * ((k + 1 : Nat) : Int)) := by
      rw [zadd]
      congr 1
      omega
    have en : nzF l (m + 1) k = (if byt l k = 0 then 0 else 1) + nzF l m (k + 1) := rfl
    have et : tyF l (m + 1) k t = tyF l m (k + 1) (if byt l k = 0 then t else (gup t.1 t.2 (byt l k : Int), t.2 + 1)) := rfl
    rw [e8]
    by_cases h0 : byt l k = 0
    · rw [if_pos (by rw [h0]; rfl), et, if_pos h0]
      rw [en, if_pos h0] at h3
      exact ih (k + 1) fuel σ t (by omega) (by omega) h1 h2 (by omega)
    · rw [en, if_neg h0] at h3
      rw [if_neg (zeqN (by omega) (by omega) (by omega) (by omega) (by omega)), h1, aputI (i := t.2) rfl (by omega) (by omega), Option.bind_some, upA_1, h1, zadd, et, if_neg h0]
      obtain ⟨σ1, hσ1⟩ : ∃ σ1, σ1 = upS (upA σ 65 t.2 (Int32.ofInt (byt l k : Nat))) 6407 (Int32.ofInt ((t.2 : Int) + 1)) := ⟨_, rfl⟩
      rw [← hσ1]
      obtain ⟨σ', a1, a2, a3, a4, a5⟩ := ih (k + 1) fuel σ1 (gup t.1 t.2 (byt l k : Int), t.2 + 1) (by omega) (by omega) (by rw [hσ1, upS_1, if_pos rfl]; rfl) (fun p hp => by
        rw [hσ1, upS_2, upA_eq, fup_at]
        dsimp only [gup]
        by_cases e : p = t.2
        · rw [if_pos e, if_pos e]
        · rw [if_neg e, if_neg e]
          dsimp only at hp
          exact h2 p (by omega)) (by dsimp only; omega)
      exact ⟨σ', a1, a2, a3, fun j hj => by rw [a4 j hj, hσ1, upS_1, if_neg hj]; rfl, fun a ha => by rw [a5 a ha, hσ1, upS_2, upA_ne ha]⟩
