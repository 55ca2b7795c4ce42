/-! D72: writing a term: as it should be, and the class -/
abbrev It : Type := Int ⊕ Tr
def arI (R : Tr) : Nat → List It → List It
  | 0, r => r
  | j + 1, r => arI R j (.inl (if j = 0 then 40 else 44) :: .inr (trArg R j) :: r)
def wA (nv : Nat) (b : Bd) : Nat → List It → List Int
  | 0, _ => []
  | _ + 1, [] => []
  | n + 1, .inl c :: r => c :: wA nv b n r
  | n + 1, .inr T :: r => if lab (fnd (nv + 1) b T) < 0 then 95 :: wA nv b n r else lab (fnd (nv + 1) b T) :: wA nv b n (if ary (fnd (nv + 1) b T) = 0 then r else arI (fnd (nv + 1) b T) (ary (fnd (nv + 1) b T)) (.inl 41 :: r))
theorem wA_len {nv : Nat} {b : Bd} : ∀ (n : Nat) (l : List It), (wA nv b n l).length ≤ n
  | 0, _ => Nat.le_refl _
  | n + 1, [] => Nat.zero_le _
  | n + 1, .inl c :: r => by
    unfold wA
    rw [List.length_cons]
    have := wA_len (nv := nv) (b := b) n r
    omega
  | n + 1, .inr T :: r => by
    unfold wA
    split
    · rw [List.length_cons]
      have := wA_len (nv := nv) (b := b) n r
      omega
    · rw [List.length_cons]
      have := wA_len (nv := nv) (b := b) n (if ary (fnd (nv + 1) b T) = 0 then r else arI (fnd (nv + 1) b T) (ary (fnd (nv + 1) b T)) (.inl 41 :: r))
      omega
theorem arI_len {R : Tr} : ∀ (j : Nat) (r : List It), (arI R j r).length = r.length + 2 * j
  | 0, _ => rfl
  | j + 1, r => by
    unfold arI
    rw [arI_len j, List.length_cons, List.length_cons]
    omega
def aLetter (i j : Int) (A : As) : Rs :=
  if 0 ≤ i ∧ i < 26 then (match A.q with
    | none => .inr 15
    | some (q, m, _) => if occ q.1 q.2.1 (65 + i) = true then
        (if j = -1 then .inl (Int32.ofInt (wA m.2.2.1.1 m.2.2.1.2.1.1 80 [.inr (trVar (rnk q.1 q.2.1 i.toNat))]).length) else
         if 0 ≤ j ∧ j < (wA m.2.2.1.1 m.2.2.1.2.1.1 80 [.inr (trVar (rnk q.1 q.2.1 i.toNat))]).length then .inl (Int32.ofInt ((wA m.2.2.1.1 m.2.2.1.2.1.1 80 [.inr (trVar (rnk q.1 q.2.1 i.toNat))]).getD j.toNat 0)) else .inr 15)
      else .inr 15)
  else .inr 12
/-- the pile of what is still to write -/
def RW [Pg] (B X : Nat → Int32) (nv : Nat) : List It → Prop
  | [] => True
  | .inl c :: r => (X (4 * r.length) = Int32.ofInt c ∧ X (4 * r.length + 1) = Int32.ofInt (-1) ∧ 0 ≤ c ∧ c ≤ 126) ∧ RW B X nv r
  | .inr T :: r => (∃ n e : Nat, X (4 * r.length + 1) = Int32.ofInt n ∧ X (4 * r.length + 2) = Int32.ofInt e ∧ CTx B nv n e T) ∧ RW B X nv r
theorem RW.congr [Pg] {B X X' : Nat → Int32} {nv : Nat} : ∀ {l : List It}, RW B X nv l → (∀ i, i < 4 * l.length → X' i = X i) → RW B X' nv l
  | [], _, _ => trivial
  | .inl c :: r, h, hx => by
    rw [List.length_cons] at hx
    obtain ⟨⟨h1, h2, h3⟩, h4⟩ := h
    exact ⟨⟨by rw [hx _ (by omega), h1], by rw [hx _ (by omega), h2], h3⟩, h4.congr (fun i hi => hx i (by omega))⟩
  | .inr T :: r, h, hx => by
    rw [List.length_cons] at hx
    obtain ⟨⟨n, e, h1, h2, h3⟩, h4⟩ := h
    exact ⟨⟨n, e, by rw [hx _ (by omega), h1], by rw [hx _ (by omega), h2], h3⟩, h4.congr (fun i hi => hx i (by omega))⟩
/-- what writing changes -/
def FrL (σ σ' : qC) : Prop := (∀ j, j ≠ 6002 → j ≠ 6200 → j ≠ 6201 → j ≠ 6202 → σ'.1 j = σ.1 j) ∧ (∀ a, a ≠ 59 → a ≠ 60 → σ'.2 a = σ.2 a)
theorem FrL.trans {σ σ' σ'' : qC} (h : FrL σ σ') (g : FrL σ' σ'') : FrL σ σ'' := ⟨fun j a b c d => by rw [g.1 j a b c d, h.1 j a b c d], fun a x y => by rw [g.2 a x y, h.2 a x y]⟩
/-- pushing -/
def FrU (σ σ' : qC) : Prop := (∀ j, j ≠ 6002 → σ'.1 j = σ.1 j) ∧ (∀ a, a ≠ 60 → σ'.2 a = σ.2 a)
theorem FrU.trans {σ σ' σ'' : qC} (h : FrU σ σ') (g : FrU σ' σ'') : FrU σ σ'' := ⟨fun j a => by rw [g.1 j a, h.1 j a], fun a x => by rw [g.2 a x, h.2 a x]⟩
theorem FrU.l {σ σ' : qC} (h : FrU σ σ') : FrL σ σ' := ⟨fun j a _ _ _ => h.1 j a, fun a _ y => h.2 a y⟩
theorem pushS_c [Pg] {σ : qC} {nv : Nat} {l : List It} {c : Int} (hR : RW (σ.2 28) (σ.2 60) nv l) (hN : σ.1 6002 = Int32.ofInt l.length) (hl : l.length ≤ 20000) (hc : 0 ≤ c ∧ c ≤ 126) :
    ∃ σ', c_pushSign_122 (Int32.ofInt c) σ = some σ' ∧ RW (σ'.2 28) (σ'.2 60) nv (.inl c :: l) ∧ σ'.1 6002 = Int32.ofInt (l.length + 1 : Nat) ∧ FrU σ σ' := by
  unfold c_pushSign_122
  rw [tappI (n := l.length) hN (by omega) (by omega), Option.bind_some]
  refine ⟨_, rfl, ?_, by rw [upS_1, if_pos rfl]; rfl, fun j hj => by rw [upS_1, if_neg hj]; rfl, fun a ha => by rw [upS_2, tap4_2, if_neg ha]⟩
  rw [upS_2, tap4_2, if_neg (by omega), tap4_2, if_pos rfl]
  refine ⟨⟨?_, ?_, hc⟩, hR.congr (fun i hi => ?_)⟩
  · rw [fup_at, if_neg (by omega), fup_at, if_neg (by omega), fup_at, if_neg (by omega), fup_at, if_pos (by omega)]
  · rw [fup_at, if_neg (by omega), fup_at, if_neg (by omega), fup_at, if_pos (by omega)]
  · rw [fup_at, if_neg (by omega), fup_at, if_neg (by omega), fup_at, if_neg (by omega), fup_at, if_neg (by omega)]
theorem pushT_c [Pg] {σ : qC} {nv n e : Nat} {l : List It} {T : Tr} (hR : RW (σ.2 28) (σ.2 60) nv l) (hN : σ.1 6002 = Int32.ofInt l.length) (hl : l.length ≤ 20000) (hT : CTx (σ.2 28) nv n e T) :
    ∃ σ', c_pushTerm_119 (Int32.ofInt n) (Int32.ofInt e) σ = some σ' ∧ RW (σ'.2 28) (σ'.2 60) nv (.inr T :: l) ∧ σ'.1 6002 = Int32.ofInt (l.length + 1 : Nat) ∧ FrU σ σ' := by
  unfold c_pushTerm_119
  rw [tappI (n := l.length) hN (by omega) (by omega), Option.bind_some]
  refine ⟨_, rfl, ?_, by rw [upS_1, if_pos rfl]; rfl, fun j hj => by rw [upS_1, if_neg hj]; rfl, fun a ha => by rw [upS_2, tap4_2, if_neg ha]⟩
  rw [upS_2, tap4_2, if_neg (by omega), tap4_2, if_pos rfl]
  refine ⟨⟨n, e, ?_, ?_, hT⟩, hR.congr (fun i hi => ?_)⟩
  · rw [fup_at, if_neg (by omega), fup_at, if_neg (by omega), fup_at, if_pos (by omega)]
  · rw [fup_at, if_neg (by omega), fup_at, if_pos (by omega)]
  · rw [fup_at, if_neg (by omega), fup_at, if_neg (by omega), fup_at, if_neg (by omega), fup_at, if_neg (by omega)]
theorem pushA_c [Pg] {nv n e : Nat} {R : Tr} : ∀ (j fuel : Nat) (σ : qC) (l : List It), RW (σ.2 28) (σ.2 60) nv l → σ.1 6002 = Int32.ofInt l.length → l.length + 2 * j ≤ 20000 → j ≤ 3 → j < fuel → n < 624 → (∀ i, i < j → ∃ m : Nat, σ.2 28 (9 * n + (2 + i)) = Int32.ofInt m ∧ CTx (σ.2 28) nv m e (trArg R i)) →
    ∃ σ', c_pushArguments_121_l24 fuel (Int32.ofInt n) (Int32.ofInt e) (Int32.ofInt ((j : Int) - 1)) σ = some σ' ∧ RW (σ'.2 28) (σ'.2 60) nv (arI R j l) ∧ σ'.1 6002 = Int32.ofInt (arI R j l).length ∧ FrU σ σ' := by
  intro j
  induction j with
  | zero =>
    intro fuel σ l hR hN _ _ hf _ _
    obtain ⟨fuel, rfl⟩ : ∃ m, fuel = m + 1 := ⟨fuel - 1, by omega⟩
    unfold c_pushArguments_121_l24
    rw [z0, if_pos (zltP (by omega) (by omega) (by omega) (by omega) (by omega))]
    exact ⟨σ, rfl, hR, hN, fun _ _ => rfl, fun _ _ => rfl⟩
  | succ j ih =>
    intro fuel σ l hR hN hl hj hf hn hargs
    obtain ⟨fuel, rfl⟩ : ∃ m, fuel = m + 1 := ⟨fuel - 1, by omega⟩
    obtain ⟨m, m1, m2⟩ := hargs j (by omega)
    have hm6 := m2.cases.1
    conv => enter [1, σ', 1, 1]; unfold c_pushArguments_121_l24
    rw [z0, if_neg (zltN (by omega) (by omega) (by omega) (by omega) (by omega)), show ((j + 1 : Nat) : Int) - 1 = (j : Nat) by omega, rd_arg hn (by omega), m1, zadd, show ((j : Nat) : Int) + -1 = (j : Int) - 1 by omega]
    obtain ⟨σ1, a1, a2, a3, a4⟩ := pushT_c hR hN (by omega) m2
    rw [a1, Option.bind_some]
    have e28 : σ1.2 28 = σ.2 28 := a4.2 _ (by omega)
    have fin : ∀ (c : Int), (0 ≤ c ∧ c ≤ 126) → c = (if j = 0 then 40 else 44) → ∃ σ', ((c_pushSign_122 (Int32.ofInt c) σ1).bind fun p5 => c_pushArguments_121_l24 fuel (Int32.ofInt n) (Int32.ofInt e) (Int32.ofInt ((j : Int) - 1)) p5) = some σ' ∧ RW (σ'.2 28) (σ'.2 60) nv (arI R (j + 1) l) ∧ σ'.1 6002 = Int32.ofInt (arI R (j + 1) l).length ∧ FrU σ σ' := by
      intro c hc hcj
      obtain ⟨σ2, b1, b2, b3, b4⟩ := pushS_c (c := c) a2 a3 (by rw [List.length_cons]; omega) hc
      rw [b1, Option.bind_some]
      have e28' : σ2.2 28 = σ.2 28 := by rw [b4.2 _ (by omega), e28]
      obtain ⟨σ3, d1, d2, d3, d4⟩ := ih fuel σ2 (.inl c :: .inr (trArg R j) :: l) b2 b3 (by rw [List.length_cons, List.length_cons]; omega) (by omega) (by omega) hn (fun i hi => by rw [e28']; exact hargs i (by omega))
      have er : arI R (j + 1) l = arI R j (.inl c :: .inr (trArg R j) :: l) := by
        rw [hcj]
        rfl
      rw [er]
      exact ⟨σ3, d1, d2, d3, (a4.trans b4).trans d4⟩
    by_cases h0 : j = 0
    · rw [if_pos (by rw [h0]; rfl)]
      exact fin 40 (by omega) (by rw [if_pos h0])
    · rw [if_neg (zeqN (by omega) (by omega) (by omega) (by omega) (by omega))]
      exact fin 44 (by omega) (by rw [if_neg h0])
