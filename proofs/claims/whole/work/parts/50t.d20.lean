/-! D20: LESS, SLEEP, SAME, APART -/
theorem isDigit_ok {s : Int} (hs : 0 ≤ s ∧ s < 128) : c_isDigit_36 (Int32.ofInt s) = if isDi s then Int32.ofInt 1 else Int32.ofInt 0 := by
  unfold c_isDigit_36
  by_cases h1 : s < 48
  · rw [if_pos (zltP h1 (by omega) (by omega) (by omega) (by omega)), if_neg (by omega)]
  · rw [if_neg (zltN (by omega) (by omega) (by omega) (by omega) (by omega))]
    by_cases h2 : 57 < s
    · rw [if_pos (zltP h2 (by omega) (by omega) (by omega) (by omega)), if_neg (by omega)]
    · rw [if_neg (zltN (by omega) (by omega) (by omega) (by omega) (by omega)), if_pos (by omega)]
theorem CTx.sign [Pg] {B : Nat → Int32} {nv n env : Nat} {T : Tr} (h : CTx B nv n env T) : ∃ s : Int, (0 ≤ s ∧ s < 128) ∧ B (9 * n) = Int32.ofInt s ∧ (isDi s ↔ isDi (lab T)) ∧ (¬ lab T < 0 → s = lab T) := by
  obtain ⟨-, -, a, -, -, s, hs, sb, hk⟩ := h.cases
  refine ⟨s, hs, sb, ?_⟩
  rcases hk with ⟨r, -, -, e, hc⟩ | ⟨-, e, -⟩
  · rw [e, lab_var]
    constructor
    · constructor
      · intro z
        omega
      · intro z
        omega
    · intro z
      omega
  · rw [e]
    exact ⟨Iff.rfl, fun _ => rfl⟩
/-- only the finder's own cells were written -/
theorem CP1.find [Pg] {σ σ' : qC} {cls : List Cl} {s bn na nc : Nat} {st : Sto} {rest : List Go} {ch : List Ch} {W : Wc} {t : List Ec} (h : CP1 σ cls s bn st rest ch W t na nc) (e2 : σ'.2 = σ.2) (e1 : ∀ j, ¬ (5600 ≤ j ∧ j < 5800) → σ'.1 j = σ.1 j) : CP1 σ' cls s bn st rest ch W t na nc := by
  obtain ⟨a1, a2, a3, a4, ⟨k1, k2, k3, k4, k5, k6⟩, a6, a7, a8, a9⟩ := h
  refine ⟨a1.congr (by rw [e2]) (by rw [e2]) (by rw [e2]) (e1 _ (by omega)), a2.congr (by rw [e2]) (by rw [e2]) (by rw [e2]) (by rw [e2]) (e1 _ (by omega)) (e1 _ (by omega)) (e1 _ (by omega)) (e1 _ (by omega)), a3.congr (by rw [e2]) (fun k _ _ => by rw [e2]) (fun k _ _ => by rw [e2]), a4, ⟨by rw [e1 _ (by omega), k1], by rw [e1 _ (by omega), k2], by rw [e1 _ (by omega), k3], by rw [e1 _ (by omega), k4], by rw [e1 _ (by omega), k5], by rw [e1 _ (by omega)]; exact k6⟩, by rw [e1 _ (by omega), e2]; exact a6, ?_, a8, a9⟩
  exact a7.congr (by rw [e2]) (fun k _ _ => by rw [e2]) (fun k _ _ => by rw [e2]) (fun k _ => by rw [e2]) (fun k _ => by rw [e2])
theorem CP1.fnd [Pg] {σ : qC} {cls : List Cl} {s bn na nc K n e : Nat} {st : Sto} {rest : List Go} {ch : List Ch} {W : Wc} {t : List Ec} {T : Tr} (h : CP1 σ cls s bn st rest ch W t na nc) (hK : K = 5600 ∨ K = 5700) (hT : CTx (σ.2 28) st.1 n e T) :
    ∃ σ', findG K (Int32.ofInt n) (Int32.ofInt e) σ = some σ' ∧ CP1 σ' cls s bn st rest ch W t na nc ∧ σ'.2 = σ.2 ∧ (∀ j, ¬ (K ≤ j ∧ j < K + 3) → σ'.1 j = σ.1 j) ∧
      ∃ n' e' : Nat, σ'.1 K = Int32.ofInt n' ∧ σ'.1 (K + 1) = Int32.ofInt e' ∧ σ'.1 (K + 2) = Int32.ofInt (vnI (fnd (st.1 + 1) st.2.1.1 T)) ∧ CTx (σ.2 28) st.1 n' e' (fnd (st.1 + 1) st.2.1.1 T) ∧ (lab (fnd (st.1 + 1) st.2.1.1 T) < 0 → vnum (fnd (st.1 + 1) st.2.1.1 T) < st.1 ∧ st.2.1.1 (vnum (fnd (st.1 + 1) st.2.1.1 T)) = none) := by
  obtain ⟨σ', q1, q2, q3, q4⟩ := findG_ok (K := K) (by omega) h.2.1.2.2.2.2.2.1 h.2.2.1.2.2.1 (h.2.2.1.1.RV h.2.1) h.2.1.2.2.2.1.1 hT (fun z => by have := hT.vlt z; omega)
  exact ⟨σ', q1, h.find q2 (fun j hj => q3 j (by omega) (by omega) (by omega)), q2, fun j hj => q3 j (by omega) (by omega) (by omega), q4⟩
set_option maxHeartbeats 1000000 in
theorem less_ok [Pg] {σ : qC} {cls : List Cl} {s bn na nc n e m : Nat} {st : Sto} {rest : List Go} {ch : List Ch} {W : Wc} {t : List Ec} {X Y : Tr} (h : CP1 σ cls s bn st rest ch W t na nc) (hn : n < 624) (hX : CTx (σ.2 28) st.1 n e X) (hm : σ.2 28 (9 * n + 6) = Int32.ofInt m) (hY : CTx (σ.2 28) st.1 m e Y) :
    ∃ σ' o, c_doLess_71 (Int32.ofInt n) (Int32.ofInt e) σ = some (o, σ') ∧ CR σ' o cls (if isDi (lab (fnd (st.1 + 1) st.2.1.1 X)) ∧ isDi (lab (fnd (st.1 + 1) st.2.1.1 Y)) then (if lab (fnd (st.1 + 1) st.2.1.1 X) < lab (fnd (st.1 + 1) st.2.1.1 Y) then 0 else 1, (s, bn, st, rest, ch)) else (3, (s, bn, st, rest, ch))) := by
  unfold c_doLess_71
  rw [f56, f57]
  obtain ⟨σ1, q1, q2, q3, q4, n1, e1, q5, q6, q7, q8, q9⟩ := h.fnd (K := 5600) (Or.inl rfl) hX
  rw [q1, Option.bind_some, rd_right hn, q3, hm]
  obtain ⟨σ2, p1, p2, p3, p4, n2, e2, p5, p6, p7, p8, p9⟩ := q2.fnd (K := 5700) (Or.inr rfl) (by rw [q3]; exact hY)
  rw [p1, Option.bind_some, p4 5600 (by omega), q5, p5]
  rw [q3] at p8
  rw [rd_sign q8.cases.1, rd_sign p8.cases.1, p3, q3]
  obtain ⟨sa, ha, hsa, hda, hla⟩ := q8.sign
  obtain ⟨sb, hb, hsb, hdb, hlb⟩ := p8.sign
  rw [hsa, hsb, isDigit_ok ha, isDigit_ok hb]
  by_cases da : isDi sa
  · rw [if_pos da, if_neg (by decide)]
    by_cases db : isDi sb
    · have hc : isDi (lab (fnd (st.1 + 1) st.2.1.1 X)) ∧ isDi (lab (fnd (st.1 + 1) st.2.1.1 Y)) := ⟨hda.mp da, hdb.mp db⟩
      rw [if_pos db, if_neg (by decide), if_pos hc]
      have za := hda.mp da
      have zb := hdb.mp db
      have ea := hla (by omega)
      have eb := hlb (by omega)
      by_cases hlt : sb ≤ sa
      · rw [if_pos (zleP hlt (by omega) (by omega) (by omega) (by omega)), if_neg (by omega)]
        exact ⟨σ2, 7, rfl, Or.inr (Or.inl ⟨rfl, rfl, p2.fail⟩)⟩
      · rw [if_neg (zleN (by omega) (by omega) (by omega) (by omega) (by omega)), if_pos (by omega)]
        exact ⟨σ2, 1, rfl, Or.inl ⟨rfl, rfl, p2.done⟩⟩
    · rw [if_neg db, if_pos (by rfl), if_neg (fun z => db (hdb.mpr z.2))]
      exact ⟨σ2, 6, rfl, Or.inr (Or.inr (Or.inr ⟨rfl, rfl, p2.fail⟩))⟩
  · rw [if_neg da, if_pos (by rfl), if_neg (fun z => da (hda.mpr z.1))]
    exact ⟨σ2, 6, rfl, Or.inr (Or.inr (Or.inr ⟨rfl, rfl, p2.fail⟩))⟩
/-- SAME -/
theorem same_ok [Pg] {σ : qC} {cls : List Cl} {s bn na nc n e m : Nat} {st : Sto} {rest : List Go} {ch : List Ch} {W : Wc} {t : List Ec} {X Y : Tr} (h : CP1 σ cls s bn st rest ch W t na nc) (hX : CTx (σ.2 28) st.1 n e X) (hY : CTx (σ.2 28) st.1 m e Y) :
    ∃ σ1, c_pushPair_69 (Int32.ofInt n) (Int32.ofInt e) (Int32.ofInt m) (Int32.ofInt e) σ = some σ1 ∧ ∃ k σ' o', k ≤ 3 ∧ Reach σ1 4 k σ' o' ∧ CR σ' o' cls (aSame (s, bn, st, rest, ch) [(X, Y)] rest) := by
  obtain ⟨a1, a2, a3, ⟨⟨d1, d2, d3, d4, d5⟩, d6⟩, ⟨k1, k2, k3, k4, k5, k6⟩, ⟨x, x1, x2⟩, a7, a8, a9⟩ := h
  obtain ⟨σ1, q1, q2, q3, q4, q5⟩ := push_ok (σ := σ) (ps := []) (nv := st.1) trivial k3 (by simp) hX hY
  unfold c_pushPair_69
  rw [q1, Option.bind_some]
  have e28 := q4 28 (by omega)
  refine ⟨σ1, rfl, aSame_ok (W := W) (t := t) (na := na) (nc := nc) ⟨a1.congr e28 (q4 _ (by omega)) (q4 _ (by omega)) (q5 _ (by omega)), a2.congr (q4 _ (by omega)) (q4 _ (by omega)) (q4 _ (by omega)) (q4 _ (by omega)) (q5 _ (by omega)) (q5 _ (by omega)) (q5 _ (by omega)) (q5 _ (by omega)), a3.congr e28 (fun k _ _ => by rw [q4 38 (by omega)]) (fun k _ _ => by rw [q4 40 (by omega)]), ⟨by omega, by omega, by omega, by omega, by omega⟩, ⟨by rw [q5 _ (by omega), k1], by rw [q5 _ (by omega), k2], q3, by rw [q5 _ (by omega), k4], by rw [q5 _ (by omega), k5], by rw [q5 _ (by omega)]; exact k6⟩, q2, ⟨x, by rw [q5 _ (by omega), x1], by rw [e28, q4 52 (by omega)]; exact x2⟩, ?_, a8, by omega⟩ (by simp)⟩
  exact a7.congr e28 (fun k _ _ => by rw [q4 38 (by omega)]) (fun k _ _ => by rw [q4 40 (by omega)]) (fun k _ => by rw [q4 52 (by omega)]) (fun k _ => by rw [q4 54 (by omega)])
/-- APART -/
theorem apF_snoc {wa : Nat → Int} {L R L' R' : Nat → Tr} : ∀ {k i : Nat}, (∀ a, a < i + k → L' a = L a ∧ R' a = R a) → apF wa L' R' (k + 1) i = apF wa L R k i ++ (if wa (i + k) = 1 then [(L' (i + k), R' (i + k))] else [])
  | 0, i, _ => by
    unfold apF apF
    rw [Nat.add_zero]
    split <;> rfl
  | k + 1, i, h => by
    have := apF_snoc (wa := wa) (L := L) (R := R) (L' := L') (R' := R') (k := k) (i := i + 1) (fun a ha => h a (by omega))
    conv => lhs; unfold apF
    conv => rhs; unfold apF
    rw [this, show i + 1 + k = i + (k + 1) by omega, (h i (by omega)).1, (h i (by omega)).2]
    split <;> rfl
theorem apF_LR {wa : Nat → Int} {L R L' R' : Nat → Tr} : ∀ {k i : Nat}, (∀ a, i ≤ a → a < i + k → L' a = L a ∧ R' a = R a) → apF wa L' R' k i = apF wa L R k i
  | 0, _, _ => rfl
  | k + 1, i, h => by
    unfold apF
    rw [apF_LR (k := k) (i := i + 1) (fun a h1 h2 => h a (by omega) (by omega)), (h i (by omega) (by omega)).1, (h i (by omega) (by omega)).2]
