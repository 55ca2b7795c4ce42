/-! D58: bits -/
theorem zand (a b : Nat) : Int32.ofInt (a : Int) &&& Int32.ofInt (b : Int) = Int32.ofInt ((a &&& b : Nat) : Int) := by
  apply Int32.toBitVec_inj.1
  rw [Int32.toBitVec_and]
  show BitVec.ofNat 32 a &&& BitVec.ofNat 32 b = BitVec.ofNat 32 (a &&& b)
  exact BitVec.ofNat_and.symm
theorem zor (a b : Nat) : Int32.ofInt (a : Int) ||| Int32.ofInt (b : Int) = Int32.ofInt ((a ||| b : Nat) : Int) := by
  apply Int32.toBitVec_inj.1
  rw [Int32.toBitVec_or]
  show BitVec.ofNat 32 a ||| BitVec.ofNat 32 b = BitVec.ofNat 32 (a ||| b)
  exact BitVec.ofNat_or.symm
theorem zshr (a k : Nat) (ha : a < 4294967296) (hk : k < 32) : ((Int32.ofInt (a : Int)).toUInt32 >>> ((Int32.ofInt (k : Int)).toUInt32 &&& Int32.toUInt32 31)).toInt32 = Int32.ofInt ((a / 2 ^ k : Nat) : Int) := by
  apply Int32.toBitVec_inj.1
  show (BitVec.ofNat 32 a) >>> ((BitVec.ofNat 32 k &&& BitVec.ofNat 32 31) % 32) = BitVec.ofNat 32 (a / 2 ^ k)
  apply BitVec.eq_of_toNat_eq
  rw [BitVec.ushiftRight_eq', BitVec.toNat_ushiftRight, BitVec.toNat_ofNat, BitVec.toNat_ofNat, Nat.mod_eq_of_lt (show a < 2 ^ 32 by omega)]
  have h1 : (((BitVec.ofNat 32 k &&& BitVec.ofNat 32 31) % 32 : BitVec 32)).toNat = k := by
    rw [BitVec.toNat_umod, BitVec.toNat_and, BitVec.toNat_ofNat, BitVec.toNat_ofNat]
    show ((k % 2 ^ 32) &&& (31 % 2 ^ 32)) % 32 = k
    rw [Nat.mod_eq_of_lt (show k < 2 ^ 32 by omega), show 31 % 2 ^ 32 = 2 ^ 5 - 1 from rfl, Nat.and_two_pow_sub_one_eq_mod]
    omega
  rw [h1, Nat.shiftRight_eq_div_pow]
  have : a / 2 ^ k ≤ a := Nat.div_le_self _ _
  rw [Nat.mod_eq_of_lt (by omega)]
/-- masks -/
theorem land4 (a m r : Nat) (hr : r < 4) : (4 * a + r) &&& (4 * m + 1) = 4 * (a &&& m) + r % 2 := by
  have h1 : (4 * a + r) &&& (4 * m + 1) = 4 * (((4 * a + r) &&& (4 * m + 1)) / 4) + ((4 * a + r) &&& (4 * m + 1)) % 4 := (Nat.div_add_mod _ 4).symm
  have h2 : ((4 * a + r) &&& (4 * m + 1)) / 4 = a &&& m := by
    rw [show (4 : Nat) = 2 ^ 2 from rfl, Nat.and_div_two_pow]
    rw [show (2 ^ 2 * a + r) / 2 ^ 2 = a by omega, show (2 ^ 2 * m + 1) / 2 ^ 2 = m by omega]
  have h3 : ((4 * a + r) &&& (4 * m + 1)) % 4 = r % 2 := by
    rw [show (4 : Nat) = 2 ^ 2 from rfl, Nat.and_mod_two_pow]
    rw [show (2 ^ 2 * a + r) % 2 ^ 2 = r by omega, show (2 ^ 2 * m + 1) % 2 ^ 2 = 2 ^ 1 - 1 by omega, Nat.and_two_pow_sub_one_eq_mod]
  rw [h1, h2, h3]
theorem land16 (a m r : Nat) (hr : r < 16) : (16 * a + r) &&& (16 * m + 3) = 16 * (a &&& m) + r % 4 := by
  have h1 : (16 * a + r) &&& (16 * m + 3) = 16 * (((16 * a + r) &&& (16 * m + 3)) / 16) + ((16 * a + r) &&& (16 * m + 3)) % 16 := (Nat.div_add_mod _ 16).symm
  have h2 : ((16 * a + r) &&& (16 * m + 3)) / 16 = a &&& m := by
    rw [show (16 : Nat) = 2 ^ 4 from rfl, Nat.and_div_two_pow]
    rw [show (2 ^ 4 * a + r) / 2 ^ 4 = a by omega, show (2 ^ 4 * m + 3) / 2 ^ 4 = m by omega]
  have h3 : ((16 * a + r) &&& (16 * m + 3)) % 16 = r % 4 := by
    rw [show (16 : Nat) = 2 ^ 4 from rfl, Nat.and_mod_two_pow]
    rw [show (2 ^ 4 * a + r) % 2 ^ 4 = r by omega, show (2 ^ 4 * m + 3) % 2 ^ 4 = 2 ^ 2 - 1 by omega, Nat.and_two_pow_sub_one_eq_mod]
  rw [h1, h2, h3]
theorem land256 (a m r : Nat) (hr : r < 256) : (256 * a + r) &&& (256 * m + 15) = 256 * (a &&& m) + r % 16 := by
  have h1 : (256 * a + r) &&& (256 * m + 15) = 256 * (((256 * a + r) &&& (256 * m + 15)) / 256) + ((256 * a + r) &&& (256 * m + 15)) % 256 := (Nat.div_add_mod _ 256).symm
  have h2 : ((256 * a + r) &&& (256 * m + 15)) / 256 = a &&& m := by
    rw [show (256 : Nat) = 2 ^ 8 from rfl, Nat.and_div_two_pow]
    rw [show (2 ^ 8 * a + r) / 2 ^ 8 = a by omega, show (2 ^ 8 * m + 15) / 2 ^ 8 = m by omega]
  have h3 : ((256 * a + r) &&& (256 * m + 15)) % 256 = r % 16 := by
    rw [show (256 : Nat) = 2 ^ 8 from rfl, Nat.and_mod_two_pow]
    rw [show (2 ^ 8 * a + r) % 2 ^ 8 = r by omega, show (2 ^ 8 * m + 15) % 2 ^ 8 = 2 ^ 4 - 1 by omega, Nat.and_two_pow_sub_one_eq_mod]
  rw [h1, h2, h3]
def v4 : List Nat → Nat
  | [] => 0
  | d :: r => 4 * v4 r + d
def v16 : List Nat → Nat
  | [] => 0
  | d :: r => 16 * v16 r + d
def v256 : List Nat → Nat
  | [] => 0
  | d :: r => 256 * v256 r + d
def m4 : Nat → Nat
  | 0 => 0
  | n + 1 => 4 * m4 n + 1
def m16 : Nat → Nat
  | 0 => 0
  | n + 1 => 16 * m16 n + 3
def m256 : Nat → Nat
  | 0 => 0
  | n + 1 => 256 * m256 n + 15
theorem v4_land : ∀ (l : List Nat), (∀ d, d ∈ l → d < 4) → v4 l &&& m4 l.length = v4 (l.map (· % 2))
  | [], _ => rfl
  | d :: r, h => by
    show (4 * v4 r + d) &&& (4 * m4 r.length + 1) = 4 * v4 (r.map (· % 2)) + d % 2
    rw [land4 _ _ _ (h d List.mem_cons_self), v4_land r (fun x hx => h x (List.mem_cons_of_mem _ hx))]
theorem v16_land : ∀ (l : List Nat), (∀ d, d ∈ l → d < 16) → v16 l &&& m16 l.length = v16 (l.map (· % 4))
  | [], _ => rfl
  | d :: r, h => by
    show (16 * v16 r + d) &&& (16 * m16 r.length + 3) = 16 * v16 (r.map (· % 4)) + d % 4
    rw [land16 _ _ _ (h d List.mem_cons_self), v16_land r (fun x hx => h x (List.mem_cons_of_mem _ hx))]
theorem v256_land : ∀ (l : List Nat), (∀ d, d ∈ l → d < 256) → v256 l &&& m256 l.length = v256 (l.map (· % 16))
  | [], _ => rfl
  | d :: r, h => by
    show (256 * v256 r + d) &&& (256 * m256 r.length + 15) = 256 * v256 (r.map (· % 16)) + d % 16
    rw [land256 _ _ _ (h d List.mem_cons_self), v256_land r (fun x hx => h x (List.mem_cons_of_mem _ hx))]
/-- halving pairs -/
def pd : List Nat → List Nat
  | [] => []
  | [p] => [p / 2]
  | p :: q :: r => (p / 2 + 2 * (q % 2)) :: pd (q :: r)
theorem pd_len : ∀ (l : List Nat), (pd l).length = l.length
  | [] => rfl
  | [_] => rfl
  | _ :: q :: r => by
    show (pd (q :: r)).length + 1 = _
    rw [pd_len (q :: r)]
    rfl
theorem pd_lt : ∀ (l : List Nat), (∀ d, d ∈ l → d < 4) → ∀ d, d ∈ pd l → d < 4
  | [], _, d, h => by simp [pd] at h
  | [p], hl, d, h => by
    have := hl p List.mem_cons_self
    simp [pd] at h
    omega
  | p :: q :: r, hl, d, h => by
    have := hl p List.mem_cons_self
    rcases List.mem_cons.mp (show d ∈ (p / 2 + 2 * (q % 2)) :: pd (q :: r) from h) with e | e
    · omega
    · exact pd_lt (q :: r) (fun x hx => hl x (List.mem_cons_of_mem _ hx)) d e
theorem pd_mod : ∀ (l : List Nat), (∀ d, d ∈ l → d < 4) → (pd l).map (· % 2) = l.map (· / 2)
  | [], _ => rfl
  | [p], hl => by
    have := hl p List.mem_cons_self
    show [p / 2 % 2] = [p / 2]
    rw [show p / 2 % 2 = p / 2 by omega]
  | p :: q :: r, hl => by
    have := hl p List.mem_cons_self
    show (p / 2 + 2 * (q % 2)) % 2 :: (pd (q :: r)).map (· % 2) = p / 2 :: (q :: r).map (· / 2)
    rw [pd_mod (q :: r) (fun x hx => hl x (List.mem_cons_of_mem _ hx)), show (p / 2 + 2 * (q % 2)) % 2 = p / 2 by omega]
theorem pd_val : ∀ (l : List Nat), (∀ d, d ∈ l → d < 4) → v4 (pd l) = v4 l / 2
  | [], _ => rfl
  | [p], hl => by
    show 4 * 0 + p / 2 = (4 * 0 + p) / 2
    omega
  | p :: q :: r, hl => by
    have h1 := pd_val (q :: r) (fun x hx => hl x (List.mem_cons_of_mem _ hx))
    have := hl p List.mem_cons_self
    show 4 * v4 (pd (q :: r)) + (p / 2 + 2 * (q % 2)) = (4 * v4 (q :: r) + p) / 2
    rw [h1]
    show 4 * ((4 * v4 r + q) / 2) + (p / 2 + 2 * (q % 2)) = (4 * (4 * v4 r + q) + p) / 2
    omega
theorem v4_sub : ∀ (l : List Nat), v4 l - v4 (l.map (· / 2)) = v4 (l.map (fun p => p - p / 2)) ∧ v4 (l.map (· / 2)) ≤ v4 l
  | [] => ⟨rfl, Nat.le_refl _⟩
  | p :: r => by
    obtain ⟨h1, h2⟩ := v4_sub r
    show 4 * v4 r + p - (4 * v4 (r.map (· / 2)) + p / 2) = 4 * v4 (r.map (fun p => p - p / 2)) + (p - p / 2) ∧ 4 * v4 (r.map (· / 2)) + p / 2 ≤ 4 * v4 r + p
    omega
def zsh (x : Int32) (k : Int32) : Int32 := (x.toUInt32 >>> (k.toUInt32 &&& Int32.toUInt32 31)).toInt32
theorem bitCount_eq (x : Int32) : c_bitCount_183 x =
    (fun v => (v + zsh v (Int32.ofInt 16)) &&& Int32.ofInt 63) ((fun w => w + zsh w (Int32.ofInt 8)) ((fun z => (z + zsh z (Int32.ofInt 4)) &&& Int32.ofInt 252645135) ((fun y => (y &&& Int32.ofInt 858993459) + (zsh y (Int32.ofInt 2) &&& Int32.ofInt 858993459)) (x - (zsh x (Int32.ofInt 1) &&& Int32.ofInt 1431655765))))) := rfl
theorem zshN (a k : Nat) (ha : a < 4294967296) (hk : k < 32) : zsh (Int32.ofInt (a : Int)) (Int32.ofInt (k : Int)) = Int32.ofInt ((a / 2 ^ k : Nat) : Int) := zshr a k ha hk
theorem zaddN (a b : Nat) : Int32.ofInt (a : Int) + Int32.ofInt (b : Int) = Int32.ofInt ((a + b : Nat) : Int) := by
  rw [zadd]
  rfl
theorem zsubN (a b : Nat) (h : b ≤ a) : Int32.ofInt (a : Int) - Int32.ofInt (b : Int) = Int32.ofInt ((a - b : Nat) : Int) := by
  rw [zsub]
  have : (a : Int) - b = ((a - b : Nat) : Int) := by omega
  rw [this]
set_option maxHeartbeats 2000000 in
theorem bitCount16 {p0 p1 p2 p3 p4 p5 p6 p7 p8 p9 p10 p11 p12 p13 p14 p15 : Nat} (h : ∀ d, d ∈ [p0, p1, p2, p3, p4, p5, p6, p7, p8, p9, p10, p11, p12, p13, p14, p15] → d < 4) :
    c_bitCount_183 (Int32.ofInt (v4 [p0, p1, p2, p3, p4, p5, p6, p7, p8, p9, p10, p11, p12, p13, p14, p15] : Nat)) = Int32.ofInt (([p0, p1, p2, p3, p4, p5, p6, p7, p8, p9, p10, p11, p12, p13, p14, p15].map (fun p => p - p / 2)).sum : Nat) := by
  obtain ⟨l, hl⟩ : ∃ l, l = [p0, p1, p2, p3, p4, p5, p6, p7, p8, p9, p10, p11, p12, p13, p14, p15] := ⟨_, rfl⟩
  rw [← hl] at h ⊢
  have hx : v4 l < 4294967296 := by
    have a0 := h p0 (by rw [hl]; simp)
    have a1 := h p1 (by rw [hl]; simp)
    have a2 := h p2 (by rw [hl]; simp)
    have a3 := h p3 (by rw [hl]; simp)
    have a4 := h p4 (by rw [hl]; simp)
    have a5 := h p5 (by rw [hl]; simp)
    have a6 := h p6 (by rw [hl]; simp)
    have a7 := h p7 (by rw [hl]; simp)
    have a8 := h p8 (by rw [hl]; simp)
    have a9 := h p9 (by rw [hl]; simp)
    have a10 := h p10 (by rw [hl]; simp)
    have a11 := h p11 (by rw [hl]; simp)
    have a12 := h p12 (by rw [hl]; simp)
    have a13 := h p13 (by rw [hl]; simp)
    have a14 := h p14 (by rw [hl]; simp)
    have a15 := h p15 (by rw [hl]; simp)
    rw [hl]
    simp only [v4]
    omega
  have hlen : l.length = 16 := by rw [hl]; rfl
  have hm4 : m4 16 = 1431655765 := by simp only [m4]
  have hq : ∀ p, p ∈ l → p - p / 2 ≤ 2 := fun p hp => by have := h p hp; omega
  rw [bitCount_eq]
  have e1 : Int32.ofInt (v4 l : Nat) - (zsh (Int32.ofInt (v4 l : Nat)) (Int32.ofInt 1) &&& Int32.ofInt 1431655765) = Int32.ofInt (v4 (l.map (fun p => p - p / 2)) : Nat) := by
    rw [show Int32.ofInt 1 = Int32.ofInt ((1 : Nat) : Int) from rfl, zshN _ _ hx (by omega), show Int32.ofInt 1431655765 = Int32.ofInt ((m4 l.length : Nat) : Int) from by rw [hlen, hm4]; rfl, zand, show v4 l / 2 ^ 1 = v4 (pd l) from (pd_val l h).symm]
    have : v4 (pd l) &&& m4 l.length = v4 (l.map (· / 2)) := by
      rw [← pd_len l, v4_land _ (pd_lt l h), pd_mod l h]
    rw [this, zsubN _ _ (v4_sub l).2, (v4_sub l).1]
  rw [e1]
  obtain ⟨q0, q1, q2, q3, q4, q5, q6, q7, q8, q9, q10, q11, q12, q13, q14, q15, hqs⟩ : ∃ q0 q1 q2 q3 q4 q5 q6 q7 q8 q9 q10 q11 q12 q13 q14 q15, l.map (fun p => p - p / 2) = [q0, q1, q2, q3, q4, q5, q6, q7, q8, q9, q10, q11, q12, q13, q14, q15] := by
    rw [hl]
    exact ⟨_, _, _, _, _, _, _, _, _, _, _, _, _, _, _, _, rfl⟩
  have hq2 : ∀ q, q ∈ [q0, q1, q2, q3, q4, q5, q6, q7, q8, q9, q10, q11, q12, q13, q14, q15] → q ≤ 2 := by
    rw [← hqs]
    intro q hq'
    obtain ⟨p, hp, rfl⟩ := List.mem_map.mp hq'
    exact hq p hp
  rw [hqs]
  clear hqs e1 hq hx hl h
  have b0 := hq2 q0 (by simp)
  have b1 := hq2 q1 (by simp)
  have b2 := hq2 q2 (by simp)
  have b3 := hq2 q3 (by simp)
  have b4 := hq2 q4 (by simp)
  have b5 := hq2 q5 (by simp)
  have b6 := hq2 q6 (by simp)
  have b7 := hq2 q7 (by simp)
  have b8 := hq2 q8 (by simp)
  have b9 := hq2 q9 (by simp)
  have b10 := hq2 q10 (by simp)
  have b11 := hq2 q11 (by simp)
  have b12 := hq2 q12 (by simp)
  have b13 := hq2 q13 (by simp)
  have b14 := hq2 q14 (by simp)
  have b15 := hq2 q15 (by simp)
  clear hq2
  have y1 : v4 [q0, q1, q2, q3, q4, q5, q6, q7, q8, q9, q10, q11, q12, q13, q14, q15] = v16 [4 * q1 + q0, 4 * q3 + q2, 4 * q5 + q4, 4 * q7 + q6, 4 * q9 + q8, 4 * q11 + q10, 4 * q13 + q12, 4 * q15 + q14] := by
    simp only [v4, v16]
    omega
  have y2 : v4 [q0, q1, q2, q3, q4, q5, q6, q7, q8, q9, q10, q11, q12, q13, q14, q15] / 2 ^ 2 = v16 [4 * q2 + q1, 4 * q4 + q3, 4 * q6 + q5, 4 * q8 + q7, 4 * q10 + q9, 4 * q12 + q11, 4 * q14 + q13, q15] := by
    simp only [v4, v16]
    omega
  have y3 : v4 [q0, q1, q2, q3, q4, q5, q6, q7, q8, q9, q10, q11, q12, q13, q14, q15] < 4294967296 := by
    simp only [v4]
    omega
  have lm : ∀ a b : Nat, b < 4 → (4 * a + b) % 4 = b := fun a b hb => by omega
  have e2 : (Int32.ofInt (v4 [q0, q1, q2, q3, q4, q5, q6, q7, q8, q9, q10, q11, q12, q13, q14, q15] : Nat) &&& Int32.ofInt 858993459) + (zsh (Int32.ofInt (v4 [q0, q1, q2, q3, q4, q5, q6, q7, q8, q9, q10, q11, q12, q13, q14, q15] : Nat)) (Int32.ofInt 2) &&& Int32.ofInt 858993459) = Int32.ofInt (v16 [q0 + q1, q2 + q3, q4 + q5, q6 + q7, q8 + q9, q10 + q11, q12 + q13, q14 + q15] : Nat) := by
    rw [show Int32.ofInt 2 = Int32.ofInt ((2 : Nat) : Int) from rfl, zshN _ _ y3 (by omega), y2, y1, show Int32.ofInt 858993459 = Int32.ofInt ((m16 8 : Nat) : Int) from rfl, zand, zand]
    have l1 := v16_land [4 * q1 + q0, 4 * q3 + q2, 4 * q5 + q4, 4 * q7 + q6, 4 * q9 + q8, 4 * q11 + q10, 4 * q13 + q12, 4 * q15 + q14] (by
      intro d hd
      simp only [List.mem_cons, List.not_mem_nil, or_false] at hd
      omega)
    have l2 := v16_land [4 * q2 + q1, 4 * q4 + q3, 4 * q6 + q5, 4 * q8 + q7, 4 * q10 + q9, 4 * q12 + q11, 4 * q14 + q13, q15] (by
      intro d hd
      simp only [List.mem_cons, List.not_mem_nil, or_false] at hd
      omega)
    simp only [List.length_cons, List.length_nil, Nat.zero_add, Nat.reduceAdd] at l1 l2
    rw [l1, l2, zaddN]
    simp only [List.map_cons, List.map_nil]
    rw [lm q1 q0 (by omega), lm q3 q2 (by omega), lm q5 q4 (by omega), lm q7 q6 (by omega), lm q9 q8 (by omega), lm q11 q10 (by omega), lm q13 q12 (by omega), lm q15 q14 (by omega), lm q2 q1 (by omega), lm q4 q3 (by omega), lm q6 q5 (by omega), lm q8 q7 (by omega), lm q10 q9 (by omega), lm q12 q11 (by omega), lm q14 q13 (by omega), Nat.mod_eq_of_lt (show q15 < 4 by omega)]
    congr 2
    simp only [v16]
    omega
  dsimp only
  rw [e2]
  have es : [q0, q1, q2, q3, q4, q5, q6, q7, q8, q9, q10, q11, q12, q13, q14, q15].sum = (q0 + q1) + (q2 + q3) + ((q4 + q5) + (q6 + q7)) + ((q8 + q9) + (q10 + q11)) + ((q12 + q13) + (q14 + q15)) := by
    simp only [List.sum_cons, List.sum_nil]
    omega
  rw [es]
  clear e2 y1 y2 y3 es
  have c0 : q0 + q1 ≤ 4 := by omega
  have c1 : q2 + q3 ≤ 4 := by omega
  have c2 : q4 + q5 ≤ 4 := by omega
  have c3 : q6 + q7 ≤ 4 := by omega
  have c4 : q8 + q9 ≤ 4 := by omega
  have c5 : q10 + q11 ≤ 4 := by omega
  have c6 : q12 + q13 ≤ 4 := by omega
  have c7 : q14 + q15 ≤ 4 := by omega
  generalize q0 + q1 = r0 at *
  generalize q2 + q3 = r1 at *
  generalize q4 + q5 = r2 at *
  generalize q6 + q7 = r3 at *
  generalize q8 + q9 = r4 at *
  generalize q10 + q11 = r5 at *
  generalize q12 + q13 = r6 at *
  generalize q14 + q15 = r7 at *
  clear b0 b1 b2 b3 b4 b5 b6 b7 b8 b9 b10 b11 b12 b13 b14 b15 lm
  have z1 : v16 [r0, r1, r2, r3, r4, r5, r6, r7] + v16 [r0, r1, r2, r3, r4, r5, r6, r7] / 2 ^ 4 = v256 [16 * (r1 + r2) + (r0 + r1), 16 * (r3 + r4) + (r2 + r3), 16 * (r5 + r6) + (r4 + r5), 16 * r7 + (r6 + r7)] := by
    simp only [v16, v256]
    omega
  have z3 : v16 [r0, r1, r2, r3, r4, r5, r6, r7] < 4294967296 := by
    simp only [v16]
    omega
  have lm : ∀ a b : Nat, b < 16 → (16 * a + b) % 16 = b := fun a b hb => by omega
  have e3 : (Int32.ofInt (v16 [r0, r1, r2, r3, r4, r5, r6, r7] : Nat) + zsh (Int32.ofInt (v16 [r0, r1, r2, r3, r4, r5, r6, r7] : Nat)) (Int32.ofInt 4)) &&& Int32.ofInt 252645135 = Int32.ofInt (v256 [r0 + r1, r2 + r3, r4 + r5, r6 + r7] : Nat) := by
    rw [show Int32.ofInt 4 = Int32.ofInt ((4 : Nat) : Int) from rfl, zshN _ _ z3 (by omega), zaddN, z1, show Int32.ofInt 252645135 = Int32.ofInt ((m256 4 : Nat) : Int) from rfl, zand]
    have l1 := v256_land [16 * (r1 + r2) + (r0 + r1), 16 * (r3 + r4) + (r2 + r3), 16 * (r5 + r6) + (r4 + r5), 16 * r7 + (r6 + r7)] (by
      intro d hd
      simp only [List.mem_cons, List.not_mem_nil, or_false] at hd
      omega)
    simp only [List.length_cons, List.length_nil, Nat.zero_add, Nat.reduceAdd] at l1
    rw [l1]
    simp only [List.map_cons, List.map_nil]
    rw [lm _ (r0 + r1) (by omega), lm _ (r2 + r3) (by omega), lm _ (r4 + r5) (by omega), lm _ (r6 + r7) (by omega)]
  rw [e3]
  have d0 : r0 + r1 ≤ 8 := by omega
  have d1 : r2 + r3 ≤ 8 := by omega
  have d2 : r4 + r5 ≤ 8 := by omega
  have d3 : r6 + r7 ≤ 8 := by omega
  clear e3 z1 z3 lm
  generalize r0 + r1 = s0 at *
  generalize r2 + r3 = s1 at *
  generalize r4 + r5 = s2 at *
  generalize r6 + r7 = s3 at *
  clear c0 c1 c2 c3 c4 c5 c6 c7
  have w3 : v256 [s0, s1, s2, s3] < 4294967296 := by
    simp only [v256]
    omega
  have w1 : v256 [s0, s1, s2, s3] + v256 [s0, s1, s2, s3] / 2 ^ 8 = v256 [s0 + s1, s1 + s2, s2 + s3, s3] := by
    simp only [v256]
    omega
  have w4 : v256 [s0 + s1, s1 + s2, s2 + s3, s3] < 4294967296 := by
    simp only [v256]
    omega
  rw [show Int32.ofInt 8 = Int32.ofInt ((8 : Nat) : Int) from rfl, zshN _ _ w3 (by omega), zaddN, w1, show Int32.ofInt 16 = Int32.ofInt ((16 : Nat) : Int) from rfl, zshN _ _ w4 (by omega), zaddN, show Int32.ofInt 63 = Int32.ofInt ((2 ^ 6 - 1 : Nat) : Int) from rfl, zand, Nat.and_two_pow_sub_one_eq_mod]
  have w5 : v256 [s0 + s1, s1 + s2, s2 + s3, s3] / 2 ^ 16 = 256 * s3 + (s2 + s3) := by
    simp only [v256]
    omega
  rw [w5]
  congr 2
  have w6 : v256 [s0 + s1, s1 + s2, s2 + s3, s3] = 64 * (4 * (256 * (256 * s3 + (s2 + s3)) + (s1 + s2))) + (s0 + s1) := by
    simp only [v256]
    omega
  rw [w6]
  omega
/-- a row of bits as a number, and how many there are -/
def bN (b : Bool) : Nat := if b = true then 1 else 0
def bval (b : Nat → Bool) : Nat → Nat
  | 0 => 0
  | m + 1 => bval b m + 2 ^ m * bN (b m)
def bcnt (b : Nat → Bool) : Nat → Nat
  | 0 => 0
  | m + 1 => bcnt b m + bN (b m)
theorem bN_le (b : Bool) : bN b ≤ 1 := by cases b <;> decide
set_option maxHeartbeats 2000000 in
theorem bitCount26 (b : Nat → Bool) : c_bitCount_183 (Int32.ofInt (bval b 26 : Nat)) = Int32.ofInt (bcnt b 26 : Nat) := by
  have hv : bval b 26 = v4 [bN (b 0) + 2 * bN (b 1), bN (b 2) + 2 * bN (b 3), bN (b 4) + 2 * bN (b 5), bN (b 6) + 2 * bN (b 7), bN (b 8) + 2 * bN (b 9), bN (b 10) + 2 * bN (b 11), bN (b 12) + 2 * bN (b 13), bN (b 14) + 2 * bN (b 15), bN (b 16) + 2 * bN (b 17), bN (b 18) + 2 * bN (b 19), bN (b 20) + 2 * bN (b 21), bN (b 22) + 2 * bN (b 23), bN (b 24) + 2 * bN (b 25), 0, 0, 0] := by
    simp only [bval, v4]
    omega
  have hp : ∀ i, bN (b i) + 2 * bN (b (i + 1)) - (bN (b i) + 2 * bN (b (i + 1))) / 2 = bN (b i) + bN (b (i + 1)) := by
    intro i
    have := bN_le (b i)
    have := bN_le (b (i + 1))
    omega
  have hl : ∀ i, bN (b i) + 2 * bN (b (i + 1)) < 4 := by
    intro i
    have := bN_le (b i)
    have := bN_le (b (i + 1))
    omega
  rw [hv, bitCount16]
  · congr 2
    simp only [List.map_cons, List.map_nil, List.sum_cons, List.sum_nil, bcnt]
    have h0 := hp 0
    have h2 := hp 2
    have h4 := hp 4
    have h6 := hp 6
    have h8 := hp 8
    have h10 := hp 10
    have h12 := hp 12
    have h14 := hp 14
    have h16 := hp 16
    have h18 := hp 18
    have h20 := hp 20
    have h22 := hp 22
    have h24 := hp 24
    simp only [Nat.reduceAdd] at h0 h2 h4 h6 h8 h10 h12 h14 h16 h18 h20 h22 h24
    rw [h0, h2, h4, h6, h8, h10, h12, h14, h16, h18, h20, h22, h24]
    omega
  · intro d hd
    simp only [List.mem_cons, List.not_mem_nil, or_false] at hd
    rcases hd with rfl | rfl | rfl | rfl | rfl | rfl | rfl | rfl | rfl | rfl | rfl | rfl | rfl | rfl | rfl | rfl
    · exact hl 0
    · exact hl 2
    · exact hl 4
    · exact hl 6
    · exact hl 8
    · exact hl 10
    · exact hl 12
    · exact hl 14
    · exact hl 16
    · exact hl 18
    · exact hl 20
    · exact hl 22
    · exact hl 24
    · omega
    · omega
    · omega
theorem bval_lt (b : Nat → Bool) : ∀ m, bval b m < 2 ^ m
  | 0 => by show 0 < 1; omega
  | m + 1 => by
    have h1 := bval_lt b m
    have h2 := bN_le (b m)
    have h3 : 2 ^ m * bN (b m) ≤ 2 ^ m * 1 := Nat.mul_le_mul_left _ h2
    show bval b m + 2 ^ m * bN (b m) < 2 ^ (m + 1)
    rw [Nat.pow_succ]
    omega
theorem bval_bit (b : Nat → Bool) (j : Nat) : ∀ m, (bval b m).testBit j = (decide (j < m) && b j)
  | 0 => by simp [bval]
  | m + 1 => by
    have ih := bval_bit b j m
    have hlt := bval_lt b m
    show (bval b m + 2 ^ m * bN (b m)).testBit j = _
    cases hb : b m with
    | false =>
      rw [show bN false = 0 from rfl, Nat.mul_zero, Nat.add_zero, ih]
      by_cases h1 : j < m
      · simp [h1, show j < m + 1 by omega]
      · by_cases h2 : j = m
        · subst h2
          simp [hb]
        · simp [h1, show ¬ j < m + 1 by omega]
    | true =>
      rw [show bN true = 1 from rfl, Nat.mul_one, Nat.add_comm]
      by_cases h1 : j < m
      · rw [Nat.testBit_two_pow_add_gt h1, ih]
        simp [h1, show j < m + 1 by omega]
      · by_cases h2 : j = m
        · subst h2
          rw [Nat.testBit_two_pow_add_eq, ih]
          simp [hb]
        · have : 2 ^ m + bval b m < 2 ^ j := by
            have h3 : 2 ^ (m + 1) ≤ 2 ^ j := Nat.pow_le_pow_right (by omega) (by omega)
            rw [Nat.pow_succ] at h3
            omega
          rw [Nat.testBit_lt_two_pow this]
          simp [show ¬ j < m + 1 by omega]
theorem bval_or (b : Nat → Bool) {c : Nat} (hc : c < 26) : bval b 26 ||| 2 ^ c = bval (fun j => b j || decide (j = c)) 26 := by
  apply Nat.eq_of_testBit_eq
  intro j
  rw [Nat.testBit_or, bval_bit, bval_bit, Nat.testBit_two_pow]
  by_cases h : j = c
  · subst h
    simp [hc]
  · simp [h, Ne.symm h]
theorem bval_and (b : Nat → Bool) {c : Nat} (hc : c ≤ 26) : bval b 26 &&& (2 ^ c - 1) = bval (fun j => decide (j < c) && b j) 26 := by
  apply Nat.eq_of_testBit_eq
  intro j
  rw [Nat.testBit_and, bval_bit, bval_bit, Nat.testBit_two_pow_sub_one]
  by_cases h : j < c
  · simp [h]
  · simp [h]
theorem bval_ext {b b' : Nat → Bool} : ∀ {m : Nat}, (∀ j, j < m → b j = b' j) → bval b m = bval b' m
  | 0, _ => rfl
  | m + 1, h => by
    show bval b m + _ = bval b' m + _
    rw [bval_ext (fun j hj => h j (by omega)), h m (by omega)]
theorem bcnt_low (b : Nat → Bool) {c : Nat} : ∀ m, bcnt (fun j => decide (j < c) && b j) m = bcnt b (min m c)
  | 0 => by simp [bcnt]
  | m + 1 => by
    show bcnt _ m + bN (decide (m < c) && b m) = _
    rw [bcnt_low b m]
    by_cases h : m < c
    · rw [show min m c = m by omega, show min (m + 1) c = m + 1 by omega]
      simp [h, bcnt]
    · rw [show min m c = c by omega, show min (m + 1) c = c by omega]
      simp [h, bN]
theorem rnk_cnt {tx : Nat → Int} {n : Nat} : ∀ m, rnk tx n m = bcnt (fun j => occ tx n (65 + (j : Int))) m
  | 0 => rfl
  | m + 1 => by
    show rnk tx n m + _ = bcnt _ m + _
    rw [rnk_cnt m]
    rfl
theorem zshl : ∀ c : Fin 26, Int32.ofInt 1 <<< (Int32.ofInt (c.1 : Int) &&& 31) = Int32.ofInt ((2 ^ c.1 : Nat) : Int) := by decide
