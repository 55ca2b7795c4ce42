/-! D1: the numbers and the memory -/
theorem zadd (a b : Int) : Int32.ofInt a + Int32.ofInt b = Int32.ofInt (a + b) := (Int32.ofInt_add a b).symm
theorem zsub (a b : Int) : Int32.ofInt a - Int32.ofInt b = Int32.ofInt (a - b) := (Int32.ofInt_sub a b).symm
theorem zmul (a b : Int) : Int32.ofInt a * Int32.ofInt b = Int32.ofInt (a * b) := (Int32.ofInt_mul a b).symm
theorem z0 : (0 : Int32) = Int32.ofInt 0 := rfl
theorem z1 : (1 : Int32) = Int32.ofInt 1 := rfl
theorem znat (n : Nat) : Int32.ofNat n = Int32.ofInt (n : Int) := rfl
theorem zto {a : Int} (h1 : -2147483648 ≤ a) (h2 : a < 2147483648) : (Int32.ofInt a).toInt = a := Int32.toInt_ofInt_of_le (by omega) (by omega)
theorem zlt {a b : Int} (h1 : -2147483648 ≤ a) (h2 : a < 2147483648) (h3 : -2147483648 ≤ b) (h4 : b < 2147483648) : (Int32.ofInt a < Int32.ofInt b) = (a < b) := by
  rw [Int32.lt_iff_toInt_lt, zto h1 h2, zto h3 h4]
theorem zle {a b : Int} (h1 : -2147483648 ≤ a) (h2 : a < 2147483648) (h3 : -2147483648 ≤ b) (h4 : b < 2147483648) : (Int32.ofInt a ≤ Int32.ofInt b) = (a ≤ b) := by
  rw [Int32.le_iff_toInt_le, zto h1 h2, zto h3 h4]
theorem zeq {a b : Int} (h1 : -2147483648 ≤ a) (h2 : a < 2147483648) (h3 : -2147483648 ≤ b) (h4 : b < 2147483648) : (Int32.ofInt a = Int32.ofInt b) = (a = b) := by
  apply propext
  constructor
  · intro h
    rw [← zto h1 h2, h, zto h3 h4]
  · intro h
    rw [h]
theorem zltN {a b : Int} (h : b ≤ a) (h1 : -2147483648 ≤ a) (h2 : a < 2147483648) (h3 : -2147483648 ≤ b) (h4 : b < 2147483648) : ¬ Int32.ofInt a < Int32.ofInt b := by
  rw [zlt h1 h2 h3 h4]
  omega
theorem zltP {a b : Int} (h : a < b) (h1 : -2147483648 ≤ a) (h2 : a < 2147483648) (h3 : -2147483648 ≤ b) (h4 : b < 2147483648) : Int32.ofInt a < Int32.ofInt b := by
  rw [zlt h1 h2 h3 h4]
  exact h
theorem zleN {a b : Int} (h : b < a) (h1 : -2147483648 ≤ a) (h2 : a < 2147483648) (h3 : -2147483648 ≤ b) (h4 : b < 2147483648) : ¬ Int32.ofInt a ≤ Int32.ofInt b := by
  rw [zle h1 h2 h3 h4]
  omega
theorem zleP {a b : Int} (h : a ≤ b) (h1 : -2147483648 ≤ a) (h2 : a < 2147483648) (h3 : -2147483648 ≤ b) (h4 : b < 2147483648) : Int32.ofInt a ≤ Int32.ofInt b := by
  rw [zle h1 h2 h3 h4]
  exact h
theorem zeqN {a b : Int} (h : a ≠ b) (h1 : -2147483648 ≤ a) (h2 : a < 2147483648) (h3 : -2147483648 ≤ b) (h4 : b < 2147483648) : ¬ Int32.ofInt a = Int32.ofInt b := by
  rw [zeq h1 h2 h3 h4]
  exact h
theorem zcl {a : Int} (h1 : 0 ≤ a) (h2 : a < 2147483648) : (Int32.ofInt a).toNatClampNeg = a.toNat := by
  show (Int32.ofInt a).toInt.toNat = a.toNat
  rw [zto (by omega) h2]
theorem qobF {n : Nat} {a : Int} (h1 : 0 ≤ a) (h2 : a < n) (h3 : a < 2147483648) : ¬ qob n (Int32.ofInt a) = true := by
  unfold qob
  rw [Bool.or_eq_true, decide_eq_true_eq, z0, zlt (by omega) h3 (by omega) (by omega), zcl h1 h3]
  rintro (h | h)
  · omega
  · have := Nat.le_of_ble_eq_true h
    omega
theorem agetI {A : Nat → Int32} {n i : Nat} {a : Int} (h : a = i) (hi : i < n) (hn : n ≤ 2147483648) : aget A n (Int32.ofInt a) = some (A i) := by
  unfold aget
  rw [if_neg (qobF (by omega) (by omega) (by omega)), zcl (by omega) (by omega), h]
  rfl
theorem aputI {σ : qC} {k n i : Nat} {a : Int} {v : Int32} (h : a = i) (hi : i < n) (hn : n ≤ 2147483648) : aput σ k n (Int32.ofInt a) v = some (upA σ k i v) := by
  unfold aput
  rw [if_neg (qobF (by omega) (by omega) (by omega)), zcl (by omega) (by omega), h]
  rfl
theorem upA_1 {σ : qC} {a i : Nat} {v : Int32} : (upA σ a i v).1 = σ.1 := rfl
theorem upS_2 {σ : qC} {k : Nat} {v : Int32} : (upS σ k v).2 = σ.2 := rfl
theorem upS_1 {σ : qC} {k j : Nat} {v : Int32} : (upS σ k v).1 j = if j = k then v else σ.1 j := by
  unfold upS
  by_cases h : j = k
  · subst h
    simp
  · have : Nat.beq j k = false := by
      cases e : Nat.beq j k with
      | false => rfl
      | true => exact absurd (Nat.eq_of_beq_eq_true e) h
    simp [this, h]
theorem upA_ne {σ : qC} {a b i : Nat} {v : Int32} (h : b ≠ a) : (upA σ a i v).2 b = σ.2 b := by
  unfold upA
  have : Nat.beq b a = false := by
    cases e : Nat.beq b a with
    | false => rfl
    | true => exact absurd (Nat.eq_of_beq_eq_true e) h
  simp [this]
def fup (f : Nat → Int32) (i : Nat) (v : Int32) : Nat → Int32 := fun j => if j = i then v else f j
theorem fup_at {f : Nat → Int32} {i j : Nat} {v : Int32} : fup f i v j = if j = i then v else f j := rfl
theorem upA_eq {σ : qC} {a i : Nat} {v : Int32} : (upA σ a i v).2 a = fup (σ.2 a) i v := by
  unfold upA
  funext j
  have : Nat.beq a a = true := Nat.beq_refl a
  simp [upd, fup]
theorem upA_2 {σ : qC} {a b i : Nat} {v : Int32} : (upA σ a i v).2 b = if b = a then fup (σ.2 a) i v else σ.2 b := by
  by_cases h : b = a
  · subst h
    rw [upA_eq, if_pos rfl]
  · rw [upA_ne h, if_neg h]
theorem tatI {σ : qC} {t w i : Nat} {r c : Int} (h : r * w + c = i) (hi : i < 2147483648) : tat σ t w (Int32.ofInt r) (Int32.ofInt c) = σ.2 t i := by
  unfold tat
  rw [znat, zmul, zadd, h, z0, if_neg (zltN (by omega) (by omega) (by omega) (by omega) (by omega)), zcl (by omega) (by omega)]
  rfl
theorem tatneg {σ : qC} {t w : Nat} {r c : Int} (h : r * w + c < 0) (hi : -2147483648 ≤ r * w + c) : tat σ t w (Int32.ofInt r) (Int32.ofInt c) = 0 := by
  unfold tat
  rw [znat, zmul, zadd, z0, if_pos (zltP h (by omega) (by omega) (by omega) (by omega))]
theorem tputI {σ : qC} {t w i : Nat} {r c : Int} {v : Int32} (h : r * w + c = i) (hi : i < 131072) : tputO σ t w (Int32.ofInt r) (Int32.ofInt c) v = some (upA σ t i v) := by
  unfold tputO tputB tput
  rw [znat, zmul, zadd, h, zcl (by omega) (by omega), if_neg]
  · rfl
  · rw [Bool.or_eq_true, decide_eq_true_eq, z0, zlt (by omega) (by omega) (by omega) (by omega)]
    rintro (h | h)
    · omega
    · have := Nat.le_of_ble_eq_true h
      omega
def tap4 (σ : qC) (t i : Nat) (a b c d : Int32) : qC := upA (upA (upA (upA σ t i a) t (i + 1) b) t (i + 2) c) t (i + 3) d
theorem tappI {σ : qC} {t w n : Nat} {a b c d : Int32} (h : σ.1 (100 * t + 2) = Int32.ofInt n) (hi : (n + 1) * w ≤ 131072) (hw : 0 < w) : tappO σ t w a b c d = some (upS (tap4 σ t (n * w) a b c d) (100 * t + 2) (Int32.ofInt (n + 1))) := by
  have hn : n < 131072 := by
    have h1 : (n + 1) * 1 ≤ (n + 1) * w := Nat.mul_le_mul_left _ hw
    omega
  unfold tappO tappB tapp tap4
  rw [h, zcl (by omega) (by omega), z1, zadd, if_neg]
  · rfl
  · rw [Bool.or_eq_true, decide_eq_true_eq, z0, zlt (by omega) (by omega) (by omega) (by omega)]
    rintro (h | h)
    · omega
    · have : 131072 < (n + 1) * w := by
        have := Nat.le_of_ble_eq_true h
        exact this
      omega
theorem tshrI {σ : qC} {t n m : Nat} {a : Int} (h : σ.1 (100 * t + 2) = Int32.ofInt n) (hn : n < 131072) (ha : a = m) (hm : m ≤ n) : tshr σ t (Int32.ofInt a) = upS σ (100 * t + 2) (Int32.ofInt m) := by
  unfold tshr
  rw [h, ha, z0, if_neg (zltN (by omega) (by omega) (by omega) (by omega) (by omega))]
  by_cases e : n ≤ m
  · rw [if_pos (zleP (by omega) (by omega) (by omega) (by omega) (by omega))]
    have : m = n := by omega
    subst this
    unfold upS
    have e2 : (fun i => bif Nat.beq i (100 * t + 2) then Int32.ofInt (m : Int) else σ.1 i) = σ.1 := by
      funext i
      cases e3 : Nat.beq i (100 * t + 2) with
      | false => rfl
      | true =>
        rw [Nat.eq_of_beq_eq_true e3, h]
        rfl
    rw [e2]
  · rw [if_neg (zleN (by omega) (by omega) (by omega) (by omega) (by omega))]
