/-! D73: the class writes a term -/
def HW [Pg] (σ : qC) (nv : Nat) (b : Bd) : Prop := nv ≤ 20000 ∧ bOrd nv b ∧ RV (σ.2 28) (σ.2 36) nv b ∧ σ.1 3602 = Int32.ofInt nv
theorem HW.fr [Pg] {σ σ' : qC} {nv : Nat} {b : Bd} (h : HW σ nv b) (hf : FrL σ σ') : HW σ' nv b := by
  obtain ⟨h1, h2, h3, h4⟩ := h
  exact ⟨h1, h2, by rw [hf.2 28 (by omega) (by omega), hf.2 36 (by omega) (by omega)]; exact h3, by rw [hf.1 _ (by omega) (by omega) (by omega) (by omega), h4]⟩
theorem rd_sign' {σ σ' : qC} {n : Nat} (h : FrU σ σ') (g : σ.1 6200 = Int32.ofInt n) (hn : n < 624) : c_sign_48 (σ'.1 6200) σ' = σ.2 28 (9 * n) := by
  rw [h.1 _ (by omega), g, rd_sign hn, h.2 _ (by omega)]
set_option maxHeartbeats 1000000 in
theorem top_c [Pg] {σ : qC} {nv : Nat} {b : Bd} {l : List It} {it : It} (hH : HW σ nv b) (hR : RW (σ.2 28) (σ.2 60) nv (it :: l)) (hN : σ.1 6002 = Int32.ofInt (l.length + 1 : Nat)) (hl : l.length ≤ 10000) :
    ∃ (σ' : qC) (c : Int) (l' : List It), c_writeTop_120 σ = some (Int32.ofInt c, σ') ∧ (0 ≤ c ∧ c ≤ 127) ∧ (∀ n, wA nv b (n + 1) (it :: l) = c :: wA nv b n l') ∧ RW (σ'.2 28) (σ'.2 60) nv l' ∧ σ'.1 6002 = Int32.ofInt l'.length ∧ l'.length ≤ l.length + 7 ∧ FrL σ σ' ∧ σ'.2 59 = σ.2 59 := by
  unfold c_writeTop_120
  dsimp only [qlet]
  rw [hN, zsub, show ((l.length + 1 : Nat) : Int) - 1 = (l.length : Nat) by omega, tatI (i := 4 * l.length) (c := 0) (by omega) (by omega), tatI (i := 4 * l.length + 1) (c := 1) (by omega) (by omega), tatI (i := 4 * l.length + 2) (c := 2) (by omega) (by omega), tshrI (n := l.length + 1) (m := l.length) hN (by omega) rfl (by omega)]
  have f0 : FrU σ (upS σ (100 * 60 + 2) (Int32.ofInt l.length)) := ⟨fun j hj => by rw [upS_1, if_neg hj], fun _ _ => rfl⟩
  cases it with
  | inl c =>
    obtain ⟨⟨h1, h2, h3⟩, h4⟩ := hR
    rw [h1, h2, if_pos rfl]
    exact ⟨_, c, l, rfl, by omega, fun n => rfl, h4, by rw [upS_1, if_pos rfl], by omega, f0.l, rfl⟩
  | inr T =>
    obtain ⟨⟨n, e, h1, h2, h3⟩, h4⟩ := hR
    have hn6 := h3.cases.1
    rw [h1, h2, if_neg (zeqN (by omega) (by omega) (by omega) (by omega) (by omega)), f62]
    have hH1 := hH.fr f0.l
    obtain ⟨σ1, g1, g2, g3, n', e', g4, g5, g6, g7, g8⟩ := findG_ok (K := 6200) (σ := upS σ (100 * 60 + 2) (Int32.ofInt l.length)) (by omega) hH1.1 hH1.2.1 hH1.2.2.1 hH1.2.2.2 (T := T) (node := n) (env := e) h3 (fun z => by have := h3.vlt z; omega)
    rw [g1, Option.bind_some, g6]
    have f1 : FrL σ σ1 := ⟨fun j a b c d => by rw [g3 j b c d, upS_1, if_neg a], fun a x y => by rw [g2]; rfl⟩
    have e60 : σ1.1 6002 = Int32.ofInt l.length := by rw [g3 _ (by omega) (by omega) (by omega), upS_1, if_pos rfl]
    have e28 : σ1.2 28 = σ.2 28 := by rw [g2]; rfl
    have e60' : σ1.2 60 = σ.2 60 := by rw [g2]; rfl
    by_cases hv : lab (fnd (nv + 1) b T) < 0
    · rw [show vnI (fnd (nv + 1) b T) = (vnum (fnd (nv + 1) b T) : Int) from if_pos hv]
      have hvn := (g8 hv).1
      have hnv := hH.1
      rw [if_neg (zeqN (by omega) (by omega) (by omega) (by omega) (by omega))]
      refine ⟨σ1, 95, l, rfl, by omega, fun k => ?_, by rw [e28, e60']; exact h4, e60, by omega, f1, by rw [g2]; rfl⟩
      conv => lhs; unfold wA
      rw [if_pos hv]
    · rw [show vnI (fnd (nv + 1) b T) = -1 from if_neg hv, if_pos rfl, g4, g5]
      obtain ⟨hn', -, a, ha, hb, s, hs, hsb, hk⟩ := g7.cases
      rw [upS_2] at hsb
      rcases hk with ⟨r, -, -, hT, -⟩ | ⟨hr, h6, h7, hargs⟩
      · exfalso
        rw [hT, lab_var] at hv
        omega
      · unfold c_pushArguments_121
        have hb1 : σ1.2 28 (9 * n' + 1) = Int32.ofInt a := by rw [e28]; exact hb
        rw [rd_arity hn' ha hb1, zsub]
        have hR1 : RW (σ1.2 28) (σ1.2 60) nv l := by rw [e28, e60']; exact h4
        by_cases ha0 : a = 0
        · rw [z0, if_pos (zleP (by omega) (by omega) (by omega) (by omega) (by omega))]
          obtain ⟨σ2, b1, b2, b3, b4⟩ := pushA_c (n := n') (e := e') (R := fnd (nv + 1) b T) 0 qF σ1 l hR1 e60 (by omega) (by omega) (by unfold qF; omega) hn' (fun i hi => by omega)
          subst ha0
          rw [b1, Option.bind_some, rd_sign' b4 g4 hn', e28, hsb]
          refine ⟨σ2, s, l, rfl, by omega, fun k => ?_, b2, b3, by omega, f1.trans b4.l, by rw [b4.2 _ (by omega), g2]; rfl⟩
          conv => lhs; unfold wA
          rw [if_neg hv, if_pos h7, h6]
        · rw [z0, if_neg (zleN (by omega) (by omega) (by omega) (by omega) (by omega))]
          obtain ⟨σ2, b1, b2, b3, b4⟩ := pushS_c (c := 41) hR1 e60 (by omega) (by omega)
          rw [b1, Option.bind_some]
          have e28' : σ2.2 28 = σ.2 28 := by rw [b4.2 _ (by omega), e28]
          obtain ⟨σ3, d1, d2, d3, d4⟩ := pushA_c (n := n') (e := e') (R := fnd (nv + 1) b T) a qF σ2 (.inl 41 :: l) b2 b3 (by rw [List.length_cons]; omega) ha (by unfold qF; omega) hn' (fun i hi => by rw [e28']; exact hargs i hi)
          rw [d1, Option.bind_some, rd_sign' (b4.trans d4) g4 hn', e28, hsb]
          have hlen := arI_len (R := fnd (nv + 1) b T) a (.inl 41 :: l)
          rw [List.length_cons] at hlen
          refine ⟨σ3, s, _, rfl, by omega, fun k => ?_, d2, d3, by omega, f1.trans (b4.trans d4).l, by rw [d4.2 _ (by omega), b4.2 _ (by omega), g2]; rfl⟩
          conv => lhs; unfold wA
          rw [if_neg hv, h7, if_neg ha0, h6]
theorem writeL_c [Pg] {nv : Nat} {b : Bd} : ∀ (n k fuel : Nat) (l : List It) (σ : qC), k + n = 80 → n < fuel → HW σ nv b → RW (σ.2 28) (σ.2 60) nv l → σ.1 6002 = Int32.ofInt l.length → l.length + 7 * n ≤ 1000 →
    ∃ σ', c_write_118_l16 fuel (Int32.ofInt k) σ = some (Int32.ofInt (k + (wA nv b n l).length : Nat), σ') ∧ (∀ t, t < k → σ'.2 59 t = σ.2 59 t) ∧ (∀ t, t < (wA nv b n l).length → σ'.2 59 (k + t) = Int32.ofInt ((wA nv b n l).getD t 0)) ∧ FrL σ σ' ∧ (∃ z : Nat, σ'.1 6002 = Int32.ofInt z ∧ z ≤ 20000) := by
  intro n
  induction n with
  | zero =>
    intro k fuel l σ hk hf hH hR hN hl
    obtain ⟨fuel, rfl⟩ : ∃ m, fuel = m + 1 := ⟨fuel - 1, by omega⟩
    unfold c_write_118_l16
    rw [znat, if_pos (zleP (by omega) (by omega) (by omega) (by omega) (by omega))]
    exact ⟨σ, rfl, fun _ _ => rfl, fun t ht => absurd ht (by show ¬ t < 0; omega), ⟨fun _ _ _ _ _ => rfl, fun _ _ _ => rfl⟩, _, hN, by omega⟩
  | succ n ih =>
    intro k fuel l σ hk hf hH hR hN hl
    obtain ⟨fuel, rfl⟩ : ∃ m, fuel = m + 1 := ⟨fuel - 1, by omega⟩
    conv => enter [1, σ', 1, 1]; unfold c_write_118_l16
    rw [znat, if_neg (zleN (by omega) (by omega) (by omega) (by omega) (by omega)), hN]
    cases l with
    | nil =>
      rw [if_pos (by decide)]
      exact ⟨σ, rfl, fun _ _ => rfl, fun t ht => absurd ht (by show ¬ t < 0; omega), ⟨fun _ _ _ _ _ => rfl, fun _ _ _ => rfl⟩, _, hN, by omega⟩
    | cons it l =>
      rw [List.length_cons] at hN hl ⊢
      rw [z0, if_neg (zleN (by omega) (by omega) (by omega) (by omega) (by omega))]
      obtain ⟨σ1, c, l', a1, a2, a3, a4, a5, a6, a7, a8⟩ := top_c hH hR hN (by omega)
      rw [a1, Option.bind_some]
      dsimp only
      rw [show c = (((⟨c.toNat, by omega⟩ : Fin 256).1 : Nat) : Int) by show c = ((c.toNat : Nat) : Int); omega, chr_ok, aputI (i := k) rfl (by omega) (by omega), Option.bind_some, zadd, show (k : Int) + 1 = ((k + 1 : Nat) : Int) by omega]
      have hcc : (((⟨c.toNat, by omega⟩ : Fin 256).1 : Nat) : Int) = c := by show ((c.toNat : Nat) : Int) = c; omega
      rw [hcc]
      have f2 : FrL σ1 (upA σ1 59 k (Int32.ofInt c)) := ⟨fun _ _ _ _ _ => rfl, fun a x y => by rw [upA_ne x]⟩
      obtain ⟨σ', b1, b2, b3, b4, b5⟩ := ih (k + 1) fuel l' (upA σ1 59 k (Int32.ofInt c)) (by omega) (by omega) ((hH.fr a7).fr f2) (by rw [upA_ne (by omega), upA_ne (by omega)]; exact a4) a5 (by omega)
      rw [a3 n, List.length_cons]
      refine ⟨σ', by rw [b1, show k + 1 + (wA nv b n l').length = k + ((wA nv b n l').length + 1) by omega], fun t ht => by rw [b2 t (by omega), upA_eq, fup_at, if_neg (by omega), a8], fun t ht => ?_, (a7.trans f2).trans b4, b5⟩
      cases t with
      | zero => rw [Nat.add_zero, b2 k (by omega), upA_eq, fup_at, if_pos rfl]; rfl
      | succ t =>
        rw [show k + (t + 1) = k + 1 + t by omega, b3 t (by omega)]
        rfl
theorem write_c [Pg] {σ : qC} {nv n : Nat} {b : Bd} {T : Tr} (hH : HW σ nv b) (h60 : ∃ k : Nat, σ.1 6002 = Int32.ofInt k ∧ k ≤ 20000) (hT : CTx (σ.2 28) nv n 0 T) :
    ∃ σ', c_write_118 (Int32.ofInt n) σ = some (Int32.ofInt (wA nv b 80 [.inr T]).length, σ') ∧ (∀ t, t < (wA nv b 80 [.inr T]).length → σ'.2 59 t = Int32.ofInt ((wA nv b 80 [.inr T]).getD t 0)) ∧ FrL σ σ' ∧ (∃ z : Nat, σ'.1 6002 = Int32.ofInt z ∧ z ≤ 20000) := by
  unfold c_write_118
  dsimp only [qlet]
  rw [tshr0 h60]
  have f0 : FrU σ (upS σ (100 * 60 + 2) (Int32.ofInt 0)) := ⟨fun j hj => by rw [upS_1, if_neg hj], fun _ _ => rfl⟩
  obtain ⟨σ1, a1, a2, a3, a4⟩ := pushT_c (σ := upS σ (100 * 60 + 2) (Int32.ofInt 0)) (nv := nv) (n := n) (e := 0) (l := []) (T := T) trivial (by rw [upS_1, if_pos rfl]; rfl) (by simp) hT
  rw [show Int32.ofInt ((0 : Nat) : Int) = Int32.ofInt 0 from rfl] at a1
  rw [a1, Option.bind_some]
  have fr := f0.l.trans a4.l
  obtain ⟨σ', b1, b2, b3, b4, b5⟩ := writeL_c 80 0 qF [.inr T] σ1 (by omega) (by unfold qF; omega) (hH.fr fr) a2 a3 (by simp)
  rw [show Int32.ofInt ((0 : Nat) : Int) = Int32.ofInt 0 from rfl, Nat.zero_add] at b1
  exact ⟨σ', b1, fun t ht => by rw [← b3 t ht, Nat.zero_add], fr.trans b4, b5⟩
