/-! the law answers true: what stands before a turn stands after it -/
def JJ (σ τ : qC) (A : As) : Prop := CJ σ A ∧ MJ τ A ∧ AW A
theorem type_codes {l : Int64} {A : As} {c : Nat} (h : (aType l A).1 = .inr c) : c = 12 ∨ c = 13 := by
  unfold aType at h
  split at h
  · split at h
    · cases h
    · cases h
      exact Or.inr rfl
  · cases h
    exact Or.inl rfl
theorem add_codes {A : As} {c : Nat} (h : (aAdd A).1 = .inr c) : c = 12 ∨ c = 13 := by
  unfold aAdd at h
  split at h
  · cases h
    exact Or.inr rfl
  · split at h
    · cases h
    · cases h
      exact Or.inl rfl
theorem drop_codes {i : Int} {A : As} {c : Nat} (h : (aDrop i A).1 = .inr c) : c = 12 := by
  unfold aDrop at h
  split at h
  · cases h
  · cases h
    rfl
theorem ncode_c (c : Nat) : ncode c = 15 ∨ ncode c = 13 ∨ ncode c = 14 := by
  unfold ncode
  split
  · exact Or.inr (Or.inl rfl)
  · split
    · exact Or.inr (Or.inr rfl)
    · exact Or.inl rfl
theorem end_codes {A : As} {q : Cl} {a : Int32} {r : Nat × Ma} {c : Nat} (h : (aEnd A q a r).1 = .inr c) : c = 15 ∨ c = 13 ∨ c = 14 := by
  unfold aEnd at h
  split at h
  · cases h
  · cases h
    exact ncode_c _
theorem next_codes {A : As} {c : Nat} (h : (aNext A).1 = .inr c) : c = 15 ∨ c = 13 ∨ c = 14 := by
  unfold aNext at h
  split at h
  · cases h
    exact Or.inl rfl
  · exact end_codes h
theorem ask_codes {A : As} {c : Nat} (h : (aAsk A).1 = .inr c) : c = 12 ∨ c = 15 ∨ c = 13 ∨ c = 14 := by
  unfold aAsk at h
  split at h
  · exact Or.inr (end_codes h)
  · cases h
    exact Or.inl rfl
theorem letter_codes {i j : Int} {A : As} {c : Nat} (h : aLetter i j A = .inr c) : c = 12 ∨ c = 15 := by
  unfold aLetter at h
  split at h
  · split at h
    · cases h
      exact Or.inr rfl
    · split at h
      · split at h
        · cases h
        · split at h
          · cases h
          · cases h
            exact Or.inr rfl
      · cases h
        exact Or.inr rfl
  · cases h
    exact Or.inl rfl
theorem sleeping_codes {i : Int} {A : As} {c : Nat} (h : aSleeping i A = .inr c) : c = 12 := by
  unfold aSleeping at h
  split at h
  · split at h
    · cases h
    · split at h
      · split at h
        · cases h
        · cases h
      · cases h
  · cases h
    rfl
theorem and7 (x : Int32) : ∃ k : Nat, k < 8 ∧ x &&& Int32.ofInt 7 = Int32.ofInt k := by
  refine ⟨x.toBitVec.toNat % 8, Nat.mod_lt _ (by omega), ?_⟩
  apply Int32.toBitVec_inj.1
  rw [Int32.toBitVec_and]
  show x.toBitVec &&& BitVec.ofNat 32 7 = BitVec.ofNat 32 (x.toBitVec.toNat % 8)
  apply BitVec.eq_of_toNat_eq
  rw [BitVec.toNat_and, BitVec.toNat_ofNat, BitVec.toNat_ofNat, show 7 % 2 ^ 32 = 2 ^ 3 - 1 from rfl, Nat.and_two_pow_sub_one_eq_mod, Nat.mod_eq_of_lt (show x.toBitVec.toNat % 8 < 2 ^ 32 by omega)]
theorem asInt (x : Int32) : ∃ a : Int, (-2147483648 ≤ a ∧ a < 2147483648) ∧ x = Int32.ofInt a := ⟨x.toInt, ⟨Int32.le_toInt x, Int32.toInt_lt x⟩, (Int32.ofInt_toInt x).symm⟩
set_option maxHeartbeats 1000000 in
theorem lturn {L : Nat} {xs : Nat → Int32} {d i n : Nat} {σ τ : qC} {o : Int64} {A : As} (hJ : JJ σ τ A) (hi : i + 3 ≤ L) (hL : L ≤ 1536) (hd : 50 ≤ d) : ∃ (σ' τ' : qC) (o' : Int64) (n' : Nat) (A' : As), JJ σ' τ' A' ∧ n' ≤ n + 1 ∧ ∀ r, qE (L, xs) d jm_law (23, [(4, .int (Int32.ofInt (i + 3 : Nat))), (3, .ref 105), (2, .ref 64), (1, .ref 24), (0, .ref 0)], [], (σ', τ', o', n')) r → qE (L, xs) d jm_law (23, [(4, .int (Int32.ofInt i)), (3, .ref 105), (2, .ref 64), (1, .ref 24), (0, .ref 0)], [], (σ, τ, o, n)) r := by
  obtain ⟨hC, hM, hA⟩ := hJ
  have en : Int32.ofInt (i : Int) + Int32.ofInt 3 = Int32.ofInt ((i + 3 : Nat) : Int) := by
    rw [zadd]
    rfl
  have h0 : aget xs L (Int32.ofInt (i : Int)) = some (xs i) := agetI rfl (by omega) (by omega)
  have h1 : aget xs L (Int32.ofInt (i : Int) + Int32.ofInt 1) = some (xs (i + 1)) := by
    rw [zadd]
    exact agetI (i := i + 1) (by omega) (by omega) (by omega)
  have h2 : aget xs L (Int32.ofInt (i : Int) + Int32.ofInt 2) = some (xs (i + 2)) := by
    rw [zadd]
    exact agetI (i := i + 2) (by omega) (by omega) (by omega)
  have hl : ¬ Int32.ofNat L - Int32.ofInt 3 < Int32.ofInt (i : Int) := by
    rw [znat, zsub]
    exact zltN (by omega) (by omega) (by omega) (by omega) (by omega)
  obtain ⟨k, hk, ek⟩ := and7 (xs i)
  obtain ⟨a, ha, ea⟩ := asInt (xs (i + 1))
  obtain ⟨c, hc, ec⟩ := asInt (xs (i + 2))
  have hd' : 40 ≤ d - 1 := by omega
  have fin : ∀ (σ' τ' : qC) (o' : Int64) (n' : Nat) (A' : As), JJ σ' τ' A' → n' ≤ n + 1 → (∀ r, qE (L, xs) d jm_law (23, [(4, .int (Int32.ofInt (i : Int) + Int32.ofInt 3)), (3, .ref 105), (2, .ref 64), (1, .ref 24), (0, .ref 0)], [], (σ', τ', o', n')) r → qE (L, xs) d jm_law (39, [(4, .int (Int32.ofInt i)), (3, .ref 105), (2, .ref 64), (1, .ref 24), (0, .ref 0)], [.int (xs i &&& Int32.ofInt 7)], (σ, τ, o, n)) r) → ∃ (σ' τ' : qC) (o' : Int64) (n' : Nat) (A' : As), JJ σ' τ' A' ∧ n' ≤ n + 1 ∧ ∀ r, qE (L, xs) d jm_law (23, [(4, .int (Int32.ofInt (i + 3 : Nat))), (3, .ref 105), (2, .ref 64), (1, .ref 24), (0, .ref 0)], [], (σ', τ', o', n')) r → qE (L, xs) d jm_law (23, [(4, .int (Int32.ofInt i)), (3, .ref 105), (2, .ref 64), (1, .ref 24), (0, .ref 0)], [], (σ, τ, o, n)) r := by
    intro σ' τ' o' n' A' z1 z2 z3
    refine ⟨σ', τ', o', n', A', z1, z2, fun r e => go_head hd hl h0 (z3 r ?_)⟩
    rw [en]
    exact e
  rcases (by omega : k = 0 ∨ k = 1 ∨ k = 2 ∨ k = 3 ∨ k = 4 ∨ k = 5 ∨ k = 6 ∨ k = 7) with rfl | rfl | rfl | rfl | rfl | rfl | rfl | rfl
  · obtain ⟨σ', c1, c2⟩ := type_c (lX (xs (i + 1)) (xs (i + 2))) hC hA
    obtain ⟨v, τ', m1, m2, m3⟩ := type_m (lX (xs (i + 1)) (xs (i + 2))) hM hA
    cases hr : (aType (lX (xs (i + 1)) (xs (i + 2))) A).1 with
    | inl x =>
      rw [hr] at c1 m2
      obtain ⟨e0, e1⟩ := m2
      subst e0
      exact fin σ' τ' v.toInt64 n _ ⟨c2, m3, type_aw _ hA⟩ (Nat.le_succ _) (fun r e => by rw [ek]; exact sw_0 hd (go_type hd e1 (fun _ => rfl) h1 h2 (w_type hd' c1) m1 e))
    | inr c =>
      rw [hr] at c1 m2
      rcases type_codes hr with rfl | rfl
      · exact fin σ' τ' o (n + 1) _ ⟨c2, m3, type_aw _ hA⟩ (Nat.le_refl _) (fun r e => by rw [ek]; exact sw_0 hd (go_type hd m2 (fun z => absurd z (by decide)) h1 h2 (w_type_12 hd' c1) m1 e))
      · exact fin σ' τ' o (n + 1) _ ⟨c2, m3, type_aw _ hA⟩ (Nat.le_refl _) (fun r e => by rw [ek]; exact sw_0 hd (go_type hd m2 (fun z => absurd z (by decide)) h1 h2 (w_type_13 hd' c1) m1 e))
  · obtain ⟨σ', c1, c2⟩ := add_c hC hA
    obtain ⟨v, τ', m1, m2, m3⟩ := add_m hM hA
    cases hr : (aAdd A).1 with
    | inl x =>
      rw [hr] at c1 m2
      obtain ⟨e0, e1⟩ := m2
      subst e0
      exact fin σ' τ' v.toInt64 n _ ⟨c2, m3, add_aw hA⟩ (Nat.le_succ _) (fun r e => by rw [ek]; exact sw_1 hd (go_add hd e1 (fun _ => rfl) (w_add hd' c1) m1 e))
    | inr c =>
      rw [hr] at c1 m2
      rcases add_codes hr with rfl | rfl
      · exact fin σ' τ' o (n + 1) _ ⟨c2, m3, add_aw hA⟩ (Nat.le_refl _) (fun r e => by rw [ek]; exact sw_1 hd (go_add hd m2 (fun z => absurd z (by decide)) (w_add_12 hd' c1) m1 e))
      · exact fin σ' τ' o (n + 1) _ ⟨c2, m3, add_aw hA⟩ (Nat.le_refl _) (fun r e => by rw [ek]; exact sw_1 hd (go_add hd m2 (fun z => absurd z (by decide)) (w_add_13 hd' c1) m1 e))
  · obtain ⟨σ', c1, c2⟩ := drop_c (i := a) ha hC
    obtain ⟨τ', m1, m2, m3⟩ := drop_m (i := a) ha hM
    rw [← ea] at c1 m1
    cases hr : (aDrop a A).1 with
    | inl x =>
      rw [hr] at c1 m2
      exact fin σ' τ' o n _ ⟨c2, m3, drop_aw hA⟩ (Nat.le_succ _) (fun r e => by rw [ek]; exact sw_2 hd (go_drop hd m2.2 h1 (w_drop hd' c1) m1 e))
    | inr c =>
      rw [hr] at c1 m2
      rcases drop_codes hr with rfl
      exact fin σ' τ' o (n + 1) _ ⟨c2, m3, drop_aw hA⟩ (Nat.le_refl _) (fun r e => by rw [ek]; exact sw_2 hd (go_drop hd m2 h1 (w_drop_12 hd' c1) m1 e))
  · obtain ⟨σ', c1, c2⟩ := ask_c hC hA
    obtain ⟨v, τ', m1, m2, m3⟩ := ask_m hM hA
    cases hr : (aAsk A).1 with
    | inl x =>
      rw [hr] at c1 m2
      obtain ⟨e0, e1⟩ := m2
      subst e0
      exact fin σ' τ' v.toInt64 n _ ⟨c2, m3, ask_aw hA⟩ (Nat.le_succ _) (fun r e => by rw [ek]; exact sw_3 hd (go_ask hd e1 (fun _ => rfl) (w_ask hd' c1) m1 e))
    | inr c =>
      rw [hr] at c1 m2
      rcases ask_codes hr with rfl | rfl | rfl | rfl
      · exact fin σ' τ' o (n + 1) _ ⟨c2, m3, ask_aw hA⟩ (Nat.le_refl _) (fun r e => by rw [ek]; exact sw_3 hd (go_ask hd m2 (fun z => absurd z (by decide)) (w_ask_12 hd' c1) m1 e))
      · exact fin σ' τ' o (n + 1) _ ⟨c2, m3, ask_aw hA⟩ (Nat.le_refl _) (fun r e => by rw [ek]; exact sw_3 hd (go_ask hd m2 (fun z => absurd z (by decide)) (w_ask_15 hd' c1) m1 e))
      · exact fin σ' τ' o (n + 1) _ ⟨c2, m3, ask_aw hA⟩ (Nat.le_refl _) (fun r e => by rw [ek]; exact sw_3 hd (go_ask hd m2 (fun z => absurd z (by decide)) (w_ask_13 hd' c1) m1 e))
      · exact fin σ' τ' o (n + 1) _ ⟨c2, m3, ask_aw hA⟩ (Nat.le_refl _) (fun r e => by rw [ek]; exact sw_3 hd (go_ask hd m2 (fun z => absurd z (by decide)) (w_ask_14 hd' c1) m1 e))
  · obtain ⟨σ', c1, c2⟩ := next_c hC hA
    obtain ⟨v, τ', m1, m2, m3⟩ := next_m hM hA
    cases hr : (aNext A).1 with
    | inl x =>
      rw [hr] at c1 m2
      obtain ⟨e0, e1⟩ := m2
      subst e0
      exact fin σ' τ' v.toInt64 n _ ⟨c2, m3, next_aw hA⟩ (Nat.le_succ _) (fun r e => by rw [ek]; exact sw_4 hd (go_next hd e1 (fun _ => rfl) (w_next hd' c1) m1 e))
    | inr c =>
      rw [hr] at c1 m2
      rcases next_codes hr with rfl | rfl | rfl
      · exact fin σ' τ' o (n + 1) _ ⟨c2, m3, next_aw hA⟩ (Nat.le_refl _) (fun r e => by rw [ek]; exact sw_4 hd (go_next hd m2 (fun z => absurd z (by decide)) (w_next_15 hd' c1) m1 e))
      · exact fin σ' τ' o (n + 1) _ ⟨c2, m3, next_aw hA⟩ (Nat.le_refl _) (fun r e => by rw [ek]; exact sw_4 hd (go_next hd m2 (fun z => absurd z (by decide)) (w_next_13 hd' c1) m1 e))
      · exact fin σ' τ' o (n + 1) _ ⟨c2, m3, next_aw hA⟩ (Nat.le_refl _) (fun r e => by rw [ek]; exact sw_4 hd (go_next hd m2 (fun z => absurd z (by decide)) (w_next_14 hd' c1) m1 e))
  · obtain ⟨σ', c1, c2⟩ := letter_c (i := a) (j := c) ha hc hC hA
    obtain ⟨v, τ', m1, m2, m3⟩ := letter_m (i := a) (j := c) ha hc hM hA
    rw [← ea, ← ec] at c1 m1
    cases hr : aLetter a c A with
    | inl x =>
      rw [hr] at c1 m2
      obtain ⟨e0, e1⟩ := m2
      subst e0
      exact fin σ' τ' v.toInt64 n _ ⟨c2, m3, hA⟩ (Nat.le_succ _) (fun r e => by rw [ek]; exact sw_5 hd (go_letter hd e1 (fun _ => rfl) h1 h2 (w_letter hd' c1) m1 e))
    | inr c' =>
      rw [hr] at c1 m2
      rcases letter_codes hr with rfl | rfl
      · exact fin σ' τ' o (n + 1) _ ⟨c2, m3, hA⟩ (Nat.le_refl _) (fun r e => by rw [ek]; exact sw_5 hd (go_letter hd m2 (fun z => absurd z (by decide)) h1 h2 (w_letter_12 hd' c1) m1 e))
      · exact fin σ' τ' o (n + 1) _ ⟨c2, m3, hA⟩ (Nat.le_refl _) (fun r e => by rw [ek]; exact sw_5 hd (go_letter hd m2 (fun z => absurd z (by decide)) h1 h2 (w_letter_15 hd' c1) m1 e))
  · obtain ⟨σ', c1, c2⟩ := sleeping_c (i := a) ha hC hA
    obtain ⟨v, τ', m1, m2, m3⟩ := sleeping_m (i := a) ha hM hA
    rw [← ea] at c1 m1
    cases hr : aSleeping a A with
    | inl x =>
      rw [hr] at c1 m2
      obtain ⟨e0, e1⟩ := m2
      subst e0
      exact fin σ' τ' v.toInt64 n _ ⟨c2, m3, hA⟩ (Nat.le_succ _) (fun r e => by rw [ek]; exact sw_6 hd (go_sleeping hd e1 (fun _ => rfl) h1 (w_sleeping hd' c1) m1 e))
    | inr c =>
      rw [hr] at c1 m2
      rcases sleeping_codes hr with rfl
      · exact fin σ' τ' o (n + 1) _ ⟨c2, m3, hA⟩ (Nat.le_refl _) (fun r e => by rw [ek]; exact sw_6 hd (go_sleeping hd m2 (fun z => absurd z (by decide)) h1 (w_sleeping_12 hd' c1) m1 e))
  · have c1 := count_c (i := a) ha hC
    obtain ⟨τ', m1, m3⟩ := count_m (i := a) ha hM
    rw [← ea] at c1 m1
    exact fin σ τ' o n _ ⟨hC, m3, hA⟩ (Nat.le_succ _) (fun r e => by rw [ek]; exact sw_7 hd (go_count hd h1 c1 m1 e))
theorem lawrun {L : Nat} {xs : Nat → Int32} {d : Nat} (hL : L ≤ 1536) (hd : 50 ≤ d) : ∀ (m i n : Nat) (σ τ : qC) (o : Int64) (A : As), JJ σ τ A → L < i + 3 * m + 3 → i ≤ 2000 → ∃ g : qG, qE (L, xs) d jm_law (23, [(4, .int (Int32.ofInt i)), (3, .ref 105), (2, .ref 64), (1, .ref 24), (0, .ref 0)], [], (σ, τ, o, n)) (.inl (some (.int 1)), g) ∧ g.2.2.2 ≤ n + m := by
  intro m
  induction m with
  | zero =>
    intro i n σ τ o A hJ hi h2
    refine ⟨_, go_end hd ?_, Nat.le_refl _⟩
    show Int32.ofNat L - Int32.ofInt 3 < _
    rw [znat, zsub]
    exact zltP (by omega) (by omega) (by omega) (by omega) (by omega)
  | succ m ih =>
    intro i n σ τ o A hJ hi h2
    by_cases hl : i + 3 ≤ L
    · obtain ⟨σ', τ', o', n', A', z1, z2, z3⟩ := lturn hJ hl hL hd
      obtain ⟨g, g1, g2⟩ := ih (i + 3) n' σ' τ' o' A' z1 (by omega) (by omega)
      exact ⟨g, z3 _ g1, by omega⟩
    · refine ⟨_, go_end hd ?_, Nat.le_add_right _ _⟩
      show Int32.ofNat L - Int32.ofInt 3 < _
      rw [znat, zsub]
      exact zltP (by omega) (by omega) (by omega) (by omega) (by omega)
