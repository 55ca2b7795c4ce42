/-! D71: the class counts; who sleeps -/
def aCount (i : Int) (A : As) : Int32 :=
  if i = 0 then Int32.ofInt A.pl else if i = 1 then Int32.ofInt A.n else if i = 2 then Int32.ofInt A.cls.length else
  if 3 ≤ i ∧ i ≤ 6 then (match A.q with
    | none => Int32.ofInt 0
    | some (_, m, a) => if i = 3 then a else if i = 4 then Int32.ofInt m.2.2.2.2.length else if i = 5 then Int32.ofInt m.2.2.1.2.2.2.2.length else Int32.ofInt m.2.1)
  else Int32.ofInt (-1)
theorem apart_count {σ : qC} {na : Nat} {wa : Nat → Int} {L R : Nat → Tr} (hn : σ.1 4002 = Int32.ofInt na) (hna : na ≤ 20000) (hw : ∀ a, a < na → σ.2 40 (4 * a + 2) = Int32.ofInt (wa a)) (h01 : ∀ a, wa a = 0 ∨ wa a = 1) : ∀ (k i c fuel : Nat), i + k = na → k < fuel → c ≤ i → c_apartsWaiting_16_l4 fuel (Int32.ofInt c) (Int32.ofInt i) σ = some (Int32.ofInt (c + (apF wa L R k i).length : Nat)) := by
  intro k
  induction k with
  | zero =>
    intro i c fuel hi hf hc
    obtain ⟨fuel, rfl⟩ : ∃ m, fuel = m + 1 := ⟨fuel - 1, by omega⟩
    unfold c_apartsWaiting_16_l4
    rw [hn, if_pos (zleP (by omega) (by omega) (by omega) (by omega) (by omega))]
    rfl
  | succ k ih =>
    intro i c fuel hi hf hc
    obtain ⟨fuel, rfl⟩ : ∃ m, fuel = m + 1 := ⟨fuel - 1, by omega⟩
    unfold c_apartsWaiting_16_l4 c_isWaiting_17
    rw [hn, if_neg (zleN (by omega) (by omega) (by omega) (by omega) (by omega)), tatI (i := 4 * i + 2) (by omega) (by omega), hw i (by omega), zadd, zadd, zadd]
    unfold apF
    rcases h01 i with e | e
    · rw [if_neg (show ¬ wa i = 1 by omega), e, if_pos (by decide), show (c : Int) + 0 = ((c : Nat) : Int) by omega, show (i : Int) + 1 = ((i + 1 : Nat) : Int) by omega, ih (i + 1) c fuel (by omega) (by omega) (by omega)]
    · rw [if_pos e, e, if_neg (by decide), show (c : Int) + 1 = ((c + 1 : Nat) : Int) by omega, show (i : Int) + 1 = ((i + 1 : Nat) : Int) by omega, ih (i + 1) (c + 1) fuel (by omega) (by omega) (by omega), List.length_cons, show c + 1 + (apF wa L R k (i + 1)).length = c + ((apF wa L R k (i + 1)).length + 1) by omega]
theorem count_c {σ : qC} {A : As} {i : Int} (hi : -2147483648 ≤ i ∧ i < 2147483648) (h : CJ σ A) : c_count_11 (Int32.ofInt i) σ = some (aCount i A) := by
  obtain ⟨h1, h2, h3, h4, pg, h5, h6, h7⟩ := h
  unfold c_count_11 aCount c_length_12 c_size_13
  rw [h2, h1.1, h5.1]
  by_cases e0 : i = 0
  · rw [if_pos (by rw [e0]), if_pos e0]
  rw [if_neg (zeqN e0 (by omega) (by omega) (by omega) (by omega)), if_neg e0]
  by_cases e1 : i = 1
  · rw [if_pos (by rw [e1]), if_pos e1]
  rw [if_neg (zeqN e1 (by omega) (by omega) (by omega) (by omega)), if_neg e1]
  by_cases e2 : i = 2
  · rw [if_pos (by rw [e2]), if_pos e2]
  rw [if_neg (zeqN e2 (by omega) (by omega) (by omega) (by omega)), if_neg e2]
  cases hq : A.q with
  | none =>
    have h24 := h6 hq
    rw [h24, if_pos (show Int32.ofInt 0 = 0 from rfl), if_pos (show Int32.ofInt 0 = 0 from rfl), if_pos (show Int32.ofInt 0 = 0 from rfl), if_pos (show Int32.ofInt 0 = 0 from rfl)]
    by_cases e3 : i = 3
    · rw [if_pos (by rw [e3]), if_pos (by omega)]
    rw [if_neg (zeqN e3 (by omega) (by omega) (by omega) (by omega))]
    by_cases e4 : i = 4
    · rw [if_pos (by rw [e4]), if_pos (by omega)]
    rw [if_neg (zeqN e4 (by omega) (by omega) (by omega) (by omega))]
    by_cases e5 : i = 5
    · rw [if_pos (by rw [e5]), if_pos (by omega)]
    rw [if_neg (zeqN e5 (by omega) (by omega) (by omega) (by omega))]
    by_cases e6 : i = 6
    · rw [if_pos (by rw [e6]), if_pos (by omega)]
    rw [if_neg (zeqN e6 (by omega) (by omega) (by omega) (by omega)), if_neg (by omega)]
  | some x =>
    obtain ⟨q, m, a⟩ := x
    obtain ⟨b1, b2, b3, b4, b5⟩ := h7 q m a hq
    obtain ⟨W, t, na, nc, a1, a2, a3, a4, ⟨k1, k2, k3, k4, k5, -⟩, -⟩ := b3
    rw [b1, if_neg (show ¬ Int32.ofInt 1 = 0 by decide), if_neg (show ¬ Int32.ofInt 1 = 0 by decide), if_neg (show ¬ Int32.ofInt 1 = 0 by decide), if_neg (show ¬ Int32.ofInt 1 = 0 by decide), b2]
    dsimp only
    by_cases e3 : i = 3
    · rw [if_pos (by rw [e3]), if_pos (by omega), if_pos e3]
    rw [if_neg (zeqN e3 (by omega) (by omega) (by omega) (by omega))]
    by_cases e4 : i = 4
    · rw [if_pos (by rw [e4]), if_pos (by omega), if_neg e3, if_pos e4]
      unfold c_choicesLeft_14
      rw [k5]
    rw [if_neg (zeqN e4 (by omega) (by omega) (by omega) (by omega))]
    by_cases e5 : i = 5
    · rw [if_pos (by rw [e5]), if_pos (by omega), if_neg e3, if_neg e4, if_pos e5]
      unfold c_apartsWaiting_16
      obtain ⟨-, -, -, -, -, a01, -, -, L, R, -, aap⟩ := a3
      have := apart_count (L := L) (R := R) a2.2.2.2.1.2.2.1 a2.2.2.2.2.2.2.2.1 a2.2.2.1 a01 na 0 0 qF (by omega) (by have := a2.2.2.2.2.2.2.2.1; unfold qF; omega) (by omega)
      rw [show Int32.ofInt ((0 : Nat) : Int) = Int32.ofInt 0 from rfl] at this
      rw [this, Option.bind_some, Nat.zero_add, aap]
    rw [if_neg (zeqN e5 (by omega) (by omega) (by omega) (by omega))]
    by_cases e6 : i = 6
    · rw [if_pos (by rw [e6]), if_pos (by omega), if_neg e3, if_neg e4, if_neg e5]
      unfold c_variablesMade_19
      rw [k2]
    rw [if_neg (zeqN e6 (by omega) (by omega) (by omega) (by omega)), if_neg (by omega)]
/-- the node of a letter in the question -/
theorem nodeL_c {σ : qC} {n : Nat} {tx : Nat → Int} {c : Int} (hS : SGc (σ.2 28) 0 tx n) (hr : ∀ p, 0 ≤ tx p ∧ tx p ≤ 126) (h0 : ∀ p, n ≤ p → tx p = 0) (hc : isCa c) : ∀ (m j fuel : Nat), j + m = 48 → m < fuel →
    (∃ x, j ≤ x ∧ x < 48 ∧ x < n ∧ tx x = c ∧ c_nodeWithSign_117_l2 fuel (Int32.ofInt 0) (Int32.ofInt c) (Int32.ofInt j) σ = some (Int32.ofInt x)) ∨ ((∀ x, j ≤ x → x < 48 → x < n → tx x ≠ c) ∧ c_nodeWithSign_117_l2 fuel (Int32.ofInt 0) (Int32.ofInt c) (Int32.ofInt j) σ = some (Int32.ofInt (-1))) := by
  intro m
  induction m with
  | zero =>
    intro j fuel hj hf
    obtain ⟨fuel, rfl⟩ : ∃ m, fuel = m + 1 := ⟨fuel - 1, by omega⟩
    unfold c_nodeWithSign_117_l2
    rw [if_pos (zleP (by omega) (by omega) (by omega) (by omega) (by omega))]
    exact Or.inr ⟨fun x _ _ => by omega, rfl⟩
  | succ m ih =>
    intro j fuel hj hf
    obtain ⟨fuel, rfl⟩ : ∃ m, fuel = m + 1 := ⟨fuel - 1, by omega⟩
    have e1 : c_nodeWithSign_117_l2 (fuel + 1) (Int32.ofInt 0) (Int32.ofInt c) (Int32.ofInt j) σ = if σ.2 28 (9 * j) = Int32.ofInt c then some (Int32.ofInt j) else c_nodeWithSign_117_l2 fuel (Int32.ofInt 0) (Int32.ofInt c) (Int32.ofInt (j + 1 : Nat)) σ := by
      conv => lhs; unfold c_nodeWithSign_117_l2 c_firstNode_31
      rw [if_neg (zleN (by omega) (by omega) (by omega) (by omega) (by omega)), zmul, zadd, zadd, show (0 : Int) * 48 + (j : Int) = (j : Int) by omega, rd_sign (by omega), show ((j : Int) + 1) = ((j + 1 : Nat) : Int) by omega]
    rw [e1]
    obtain ⟨s, s1, s2⟩ := hS j (by omega)
    rw [show 48 * 0 + j = j by omega] at s1
    have hrj := hr j
    by_cases e : s = c
    · rw [if_pos (by rw [s1, e])]
      refine Or.inl ⟨j, Nat.le_refl _, by omega, ?_, ?_, rfl⟩
      · rcases s2 with ⟨a, -⟩ | ⟨a, b, -⟩
        · omega
        · exact b
      · rcases s2 with ⟨a, -⟩ | ⟨a, b, -⟩
        · omega
        · omega
    · rw [if_neg (by rw [s1]; exact zeqN e (by omega) (by omega) (by omega) (by omega))]
      rcases ih (j + 1) fuel (by omega) (by omega) with ⟨x, x1, x2⟩ | ⟨x1, x2⟩
      · exact Or.inl ⟨x, by omega, x2⟩
      · refine Or.inr ⟨fun x y1 y2 y3 => ?_, x2⟩
        by_cases ex : x = j
        · subst ex
          rcases s2 with ⟨a, b | b⟩ | ⟨a, b, -⟩
          · omega
          · intro z
            exact b (by rw [z]; exact hc)
          · omega
        · exact x1 x (by omega) y2 y3
theorem occ_iff2 {tx : Nat → Int} {n : Nat} {c : Int} : occ tx n c = true ↔ ∃ x, x < n ∧ tx x = c := by
  unfold occ
  rw [List.any_eq_true]
  constructor
  · rintro ⟨x, h1, h2⟩
    exact ⟨x, List.mem_range.mp h1, by simpa using h2⟩
  · rintro ⟨x, h1, h2⟩
    exact ⟨x, List.mem_range.mpr h1, by simpa using h2⟩
theorem qnode_c {σ : qC} {q : Cl} {i : Int} (h1 : σ.1 2410 = Int32.ofInt 1) (hQ : QVr (σ.2 28) q) (hS : SGc (σ.2 28) 0 q.1 q.2.1) (hq : QCl q) (hi : 0 ≤ i ∧ i < 26) :
    (occ q.1 q.2.1 (65 + i) = true ∧ ∃ x : Nat, c_questionNode_116 (Int32.ofInt i) σ = some (Int32.ofInt x) ∧ @CTx (pgOf 0) (σ.2 28) (clNv q) x 0 (trVar (rnk q.1 q.2.1 i.toNat))) ∨ (occ q.1 q.2.1 (65 + i) = false ∧ c_questionNode_116 (Int32.ofInt i) σ = some (Int32.ofInt (-1))) := by
  have hr : ∀ p, 0 ≤ q.1 p ∧ q.1 p ≤ 126 := fun p => by
    by_cases e : p < q.2.1
    · have := hq.2.2.1 p e
      omega
    · have := hq.2.1 p (by omega)
      omega
  unfold c_questionNode_116 c_nodeWithSign_117
  rw [h1, if_neg (by decide), zadd]
  have hN := nodeL_c hS hr hq.2.1 (show isCa (65 + i) by omega) 48 0 qF (by omega) (by unfold qF; omega)
  rw [show Int32.ofInt ((0 : Nat) : Int) = Int32.ofInt 0 from rfl] at hN
  rcases hN with ⟨x, -, x2, x3, x4, x5⟩ | ⟨x1, x2⟩
  · refine Or.inl ⟨occ_iff2.mpr ⟨x, x3, x4⟩, x, by rw [x5]; rfl, ?_⟩
    have := (hQ x x3 (by rw [x4]; omega)).2
    rw [x4, show (65 + i - 65).toNat = i.toNat by omega] at this
    exact this
  · refine Or.inr ⟨?_, by rw [x2]; rfl⟩
    cases ho : occ q.1 q.2.1 (65 + i) with
    | false => rfl
    | true =>
      obtain ⟨x, y1, y2⟩ := occ_iff2.mp ho
      have := hq.1
      exact absurd y2 (x1 x (Nat.zero_le _) (by omega) y1)
def aSleeping (i : Int) (A : As) : Rs :=
  if 0 ≤ i ∧ i < 26 then (match A.q with
    | none => .inl (Int32.ofInt (-1))
    | some (q, m, _) => if occ q.1 q.2.1 (65 + i) = true then (if lab (fnd (m.2.2.1.1 + 1) m.2.2.1.2.1.1 (trVar (rnk q.1 q.2.1 i.toNat))) < 0 then .inl (Int32.ofInt (m.2.2.1.2.1.2.2.2.2.1 (vnum (fnd (m.2.2.1.1 + 1) m.2.2.1.2.1.1 (trVar (rnk q.1 q.2.1 i.toNat))))).length) else .inl (Int32.ofInt 0)) else .inl (Int32.ofInt (-1)))
  else .inr 12
theorem varname_c {i : Int} (hi : -2147483648 ≤ i ∧ i < 2147483648) : c_isVariableName_115 (Int32.ofInt i) = if 0 ≤ i ∧ i < 26 then Int32.ofInt 1 else Int32.ofInt 0 := by
  unfold c_isVariableName_115
  by_cases h1 : i < 0
  · rw [z0, if_pos (zltP h1 (by omega) (by omega) (by omega) (by omega)), if_neg (by omega)]
  · rw [z0, if_neg (zltN (by omega) (by omega) (by omega) (by omega) (by omega))]
    by_cases h2 : 26 ≤ i
    · rw [if_pos (zleP h2 (by omega) (by omega) (by omega) (by omega)), if_neg (by omega)]
    · rw [if_neg (zleN (by omega) (by omega) (by omega) (by omega) (by omega)), if_pos (by omega)]
theorem sleepers_len {nx : Nat → Int} {σ : qC} {ns : Nat} (hn : σ.1 3802 = Int32.ofInt ns) (hns : ns ≤ 20000) (hx : ∀ s, s < ns → σ.2 38 (4 * s + 2) = Int32.ofInt (nx s)) : ∀ (l : List Nat) (f : Int) (c fuel : Nat), chn nx f l → (∀ e, e ∈ l → e < ns) → c + l.length ≤ ns → l.length < fuel → c_sleepersOn_125_l11 fuel (Int32.ofInt c) (Int32.ofInt f) (Int32.ofInt c) σ = some (Int32.ofInt (c + l.length : Nat))
  | [], f, c, fuel, hc, hm, hl, hf => by
    obtain ⟨fuel, rfl⟩ : ∃ m, fuel = m + 1 := ⟨fuel - 1, by simp at hf; omega⟩
    have : f = -1 := hc
    subst this
    unfold c_sleepersOn_125_l11
    split
    · rfl
    · rw [if_pos rfl]
      rfl
  | e :: l, f, c, fuel, hc, hm, hl, hf => by
    rw [List.length_cons] at hf hl
    obtain ⟨fuel, rfl⟩ : ∃ m, fuel = m + 1 := ⟨fuel - 1, by omega⟩
    obtain ⟨h1, h2⟩ := hc
    subst h1
    have he := hm e List.mem_cons_self
    unfold c_sleepersOn_125_l11 c_sleeperBehind_96
    rw [hn, if_neg (zleN (by omega) (by omega) (by omega) (by omega) (by omega)), if_neg (zeqN (by omega) (by omega) (by omega) (by omega) (by omega)), tatI (i := 4 * e + 2) (by omega) (by omega), hx e he, zadd, show (c : Int) + 1 = ((c + 1 : Nat) : Int) by omega, sleepers_len hn hns hx l (nx e) (c + 1) fuel h2 (fun x hx' => hm x (List.mem_cons_of_mem _ hx')) (by omega) (by omega), List.length_cons, show c + 1 + l.length = c + (l.length + 1) by omega]
theorem PM.refl0 {k : Nat} {pg : Nat → Nat} {B : Nat → Int32} : PM (pgOf 0) (pgUse k pg) B B := PM.use0
/-- when other keys change -/
theorem CJ.keys {σ σ' : qC} {A : As} (h : CJ σ A) (h2 : ∀ a, a < 58 → σ'.2 a = σ.2 a) (h1 : ∀ j, j < 6000 → σ'.1 j = σ.1 j) (h60 : ∃ k : Nat, σ'.1 6002 = Int32.ofInt k ∧ k ≤ 20000) : CJ σ' A := by
  obtain ⟨a1, a2, a3, a4, pg, a5, a6, a7⟩ := h
  refine ⟨a1.congr (h1 _ (by omega)) (h2 _ (by omega)), by rw [h1 _ (by omega), a2], a3.congr (fun t ht => h1 _ (by omega)), h60, pg, a5.congr (h1 _ (by omega)) (fun a ha => h2 a (by omega)), fun z => by rw [h1 _ (by omega), a6 z], fun q m a z => ?_⟩
  obtain ⟨b1, b2, b3, b4, b5⟩ := a7 q m a z
  exact ⟨by rw [h1 _ (by omega), b1], by rw [h1 _ (by omega), b2], b3.congr2 (fun a ha => h2 a (by omega)) (fun j hj => h1 j (by omega)), by rw [h2 _ (by omega)]; exact b4, by rw [h2 _ (by omega)]; exact b5⟩
theorem sleeping_c {σ : qC} {A : As} {i : Int} (hi : -2147483648 ≤ i ∧ i < 2147483648) (h : CJ σ A) (hA : AW A) : ∃ σ', c_sleeping_124 (Int32.ofInt i) σ = some (aSleeping i A, σ') ∧ CJ σ' A := by
  have h' := h
  obtain ⟨h1, h2, h3, h4, pg, h5, h6, h7⟩ := h
  unfold c_sleeping_124 aSleeping
  rw [varname_c hi]
  by_cases hn : 0 ≤ i ∧ i < 26
  · rw [if_pos hn, if_pos hn, if_neg (by decide)]
    cases hq : A.q with
    | none =>
      unfold c_questionNode_116
      rw [h6 hq, if_pos (by decide), Option.bind_some, if_pos rfl]
      exact ⟨σ, rfl, h'⟩
    | some x =>
      obtain ⟨q, m, a⟩ := x
      obtain ⟨b1, b2, b3, b4, b5⟩ := h7 q m a hq
      obtain ⟨w1, w2, w3⟩ := hA.2.2.2.2 q m a hq
      dsimp only
      rcases qnode_c b1 b4 b5 w2 hn with ⟨o1, x, o2, o3⟩ | ⟨o1, o2⟩
      · have hx6 := (@CTx.cases (pgOf 0) _ _ _ _ _ o3).1
        rw [o2, Option.bind_some, if_neg (zeqN (by omega) (by omega) (by omega) (by omega) (by omega)), if_pos o1]
        obtain ⟨W, t, na, nc, a1, a2, a3, a4, -⟩ := b3
        have hT : @CTx (pgUse A.cls.length pg) (σ.2 28) m.2.2.1.1 x 0 (trVar (rnk q.1 q.2.1 i.toNat)) := @CTx.mono (pgUse A.cls.length pg) _ _ _ _ _ _ (CTx.map PM.use0 o3) w3.1
        obtain ⟨σ1, g1, g2, g3, X1, X2, g4, g5, g6, g7, g8⟩ := @findG_ok (pgUse A.cls.length pg) 6300 m.2.2.1.1 x 0 m.2.2.1.2.1.1 _ σ (by omega) a2.2.2.2.2.2.1 a3.2.2.1 (@WU.RV (pgUse A.cls.length pg) _ _ _ _ _ _ _ a3.1 a2) a2.2.2.2.1.1 hT (fun z => by have := @CTx.vlt (pgUse A.cls.length pg) _ _ _ _ _ hT z; omega)
        rw [f63, show Int32.ofInt 0 = Int32.ofInt ((0 : Nat) : Int) from rfl, g1, Option.bind_some, g6]
        have hJ : CJ σ1 A := h'.keys (fun a _ => by rw [g2]) (fun j hj => g3 j (by omega) (by omega) (by omega)) (by rw [g3 _ (by omega) (by omega) (by omega)]; exact h4)
        by_cases hl : lab (fnd (m.2.2.1.1 + 1) m.2.2.1.2.1.1 (trVar (rnk q.1 q.2.1 i.toNat))) < 0
        · obtain ⟨v1, v2⟩ := g8 hl
          rw [if_pos hl, show vnI (fnd (m.2.2.1.1 + 1) m.2.2.1.2.1.1 (trVar (rnk q.1 q.2.1 i.toNat))) = (vnum (fnd (m.2.2.1.1 + 1) m.2.2.1.2.1.1 (trVar (rnk q.1 q.2.1 i.toNat))) : Int) from if_pos hl]
          have hnv := a2.2.2.2.2.2.1
          rw [if_neg (zeqN (by omega) (by omega) (by omega) (by omega) (by omega))]
          unfold c_sleepersOn_125 c_firstSleeper_94
          rw [tatI (i := 4 * vnum (fnd (m.2.2.1.1 + 1) m.2.2.1.2.1.1 (trVar (rnk q.1 q.2.1 i.toNat))) + 2) (by omega) (by omega), g2, (a2.1 _ v1).2.1]
          have hu := a3.1
          have hS := a3.2.2.2.1
          have hns := a2.2.2.2.2.2.2.1
          rw [hu.2.1]
          have hch := (hS.1 _ v2).1
          have hmem := (hS.2.1 (vnum (fnd (m.2.2.1.1 + 1) m.2.2.1.2.1.1 (trVar (rnk q.1 q.2.1 i.toNat))))).2.1
          have hle := nodup_len _ (hS.2.1 (vnum (fnd (m.2.2.1.1 + 1) m.2.2.1.2.1.1 (trVar (rnk q.1 q.2.1 i.toNat))))).1 hmem
          have := sleepers_len (nx := m.2.2.1.2.1.2.2.2.1) (σ := σ1) (ns := m.2.2.1.2.2.1) (by rw [g3 _ (by omega) (by omega) (by omega)]; exact a2.2.2.2.1.2.1) (by omega) (fun s hs => by rw [g2, a2.2.1 s hs, hu.2.2.2]) _ _ 0 qF hch hmem (by omega) (by unfold qF; omega)
          rw [show Int32.ofInt ((0 : Nat) : Int) = Int32.ofInt 0 from rfl] at this
          rw [this, Option.bind_some, Nat.zero_add]
          exact ⟨σ1, rfl, hJ⟩
        · rw [if_neg hl, show vnI (fnd (m.2.2.1.1 + 1) m.2.2.1.2.1.1 (trVar (rnk q.1 q.2.1 i.toNat))) = -1 from if_neg hl, if_pos rfl]
          exact ⟨σ1, rfl, hJ⟩
      · rw [o2, Option.bind_some, if_pos rfl, if_neg (by rw [o1]; simp)]
        exact ⟨σ, rfl, h'⟩
  · rw [if_neg hn, if_neg hn, if_pos (by decide)]
    exact ⟨σ, rfl, h'⟩
