/-! D5: the class's sleepers: joining, waking; going back -/
def wJoin (W : Wc) (v : Nat) (a z : Int) : Wc :=
  if a < 0 then W else
  if W.2.2.1 v < 0 then (W.1, gup W.2.1 v a, gup W.2.2.1 v z, W.2.2.2.1, W.2.2.2.2)
  else (W.1, W.2.1, gup W.2.2.1 v z, gup W.2.2.2.1 (W.2.2.1 v).toNat a, W.2.2.2.2)
theorem join_ok {v : Nat} {a z : Int} {σ : qC} {W : Wc} {t : List Ec} {nv ns na : Nat} (h : CW σ W t nv ns na) (hv : v < nv) (ha : -1 ≤ a ∧ a < 20000) (hz : -1 ≤ z ∧ z < 20000)
    (hbf : (W.2.2.1 v = -1 ∧ W.2.1 v = -1) ∨ (0 ≤ W.2.2.1 v ∧ W.2.2.1 v < ns ∧ W.2.2.2.1 (W.2.2.1 v).toNat = -1)) (ht : t.length < 20000) :
    ∃ σ' t', c_join_77 (Int32.ofInt v) (Int32.ofInt a) (Int32.ofInt z) σ = some σ' ∧ CW σ' (wJoin W v a z) t' nv ns na ∧ (∀ k, k ≠ 42 → k ≠ 36 → k ≠ 38 → σ'.2 k = σ.2 k) ∧ (∀ k, k % 4 ≠ 2 → σ'.2 38 k = σ.2 38 k) ∧ (∀ j, j ≠ 4202 → σ'.1 j = σ.1 j) ∧ Und W t (wJoin W v a z) t' ∧ (t' = t ∨ t' = (1, v, W.2.2.1 v) :: t) := by
  unfold c_join_77 wJoin
  by_cases ha0 : a = -1
  · rw [if_pos (by rw [ha0]), if_pos (by omega)]
    exact ⟨σ, t, rfl, h, fun _ _ _ _ => rfl, fun _ _ => rfl, fun _ _ => rfl, Und.refl, Or.inl rfl⟩
  rw [if_neg (zeqN ha0 (by omega) (by omega) (by omega) (by omega)), if_neg (by omega : ¬ a < 0)]
  obtain ⟨h1, h2, h3, h4, h5, h6⟩ := h
  have q := h1 v hv
  have e3 : c_lastSleeper_78 (Int32.ofInt v) σ = Int32.ofInt (W.2.2.1 v) := by
    unfold c_lastSleeper_78
    rw [tatI (i := 4 * v + 3) (by omega) (by omega), q.2.2]
  rw [e3]
  rcases hbf with ⟨hb1, hb2⟩ | ⟨hb1, hb2, hb3⟩
  · rw [hb1, if_pos rfl, if_pos (by omega)]
    have hC : CW (upA (upA σ 36 (4 * v + 2) (Int32.ofInt a)) 36 (4 * v + 3) (Int32.ofInt z)) (W.1, gup W.2.1 v a, gup W.2.2.1 v z, W.2.2.2.1, W.2.2.2.2) t nv ns na := by
      refine ⟨fun w hw => ?_, ?_, ?_, h4, ?_, h6⟩
      · rw [upA_eq, upA_eq]
        have q := h1 w hw
        refine ⟨?_, ?_, ?_⟩
        · dsimp only
          rw [fup_at, if_neg (by omega), fup_at, if_neg (by omega), fup_at, if_neg (by omega), fup_at, if_neg (by omega)]
          exact q.1
        · dsimp only
          rw [fup_at, if_neg (by omega), fup_at, gup_at]
          by_cases hwv : w = v
          · rw [if_pos (by omega), if_pos hwv]
          · rw [if_neg (by omega), if_neg hwv]
            exact q.2.1
        · dsimp only
          rw [fup_at, gup_at]
          by_cases hwv : w = v
          · rw [if_pos (by omega), if_pos hwv]
          · rw [if_neg (by omega), if_neg hwv, fup_at, if_neg (by omega)]
            exact q.2.2
      · rw [upA_ne (by omega), upA_ne (by omega)]
        exact h2
      · rw [upA_ne (by omega), upA_ne (by omega)]
        exact h3
      · rw [upA_ne (by omega), upA_ne (by omega)]
        exact h5
    obtain ⟨σ', q1, q2, q3, q4⟩ := noteC (W' := W) (c := 1) (w := v) (b := -1) hC (by omega) (by omega) (by omega) ht
    refine ⟨σ', _, ?_, q2, fun k k1 k2 k3 => by rw [q3 k k1, upA_ne k2, upA_ne k2], fun k _ => by rw [q3 38 (by omega), upA_ne (by omega), upA_ne (by omega)], fun j hj => q4 j hj, ?_, Or.inr rfl⟩
    · rw [tputI (i := 4 * v + 2) (by omega) (by omega), Option.bind_some, tputI (i := 4 * v + 3) (by omega) (by omega), Option.bind_some]
      have q1' := q1
      rw [show ((1 : Nat) : Int) = 1 from rfl] at q1'
      rw [q1']
      rfl
    · refine Und.one ?_
      unfold un1
      rw [if_neg (by dsimp only; omega), if_neg (by dsimp only; omega), if_pos rfl]
      dsimp only
      rw [gup_gup, gup_self hb2, gup_gup, gup_self hb1]
  · rw [if_neg (zeqN (by omega) (by omega) (by omega) (by omega) (by omega)), if_neg (by omega : ¬ W.2.2.1 v < 0)]
    obtain ⟨bf, hbf⟩ : ∃ bf : Nat, W.2.2.1 v = bf := ⟨(W.2.2.1 v).toNat, by omega⟩
    rw [hbf] at hb2 hb3 ⊢
    rw [Int.toNat_natCast] at hb3 ⊢
    have hC : CW (upA (upA σ 38 (4 * bf + 2) (Int32.ofInt a)) 36 (4 * v + 3) (Int32.ofInt z)) (W.1, W.2.1, gup W.2.2.1 v z, gup W.2.2.2.1 bf a, W.2.2.2.2) t nv ns na := by
      refine ⟨fun w hw => ?_, ?_, ?_, h4, ?_, h6⟩
      · rw [upA_eq, upA_ne (by omega)]
        have q := h1 w hw
        refine ⟨?_, ?_, ?_⟩
        · dsimp only
          rw [fup_at, if_neg (by omega), fup_at, if_neg (by omega)]
          exact q.1
        · dsimp only
          rw [fup_at, if_neg (by omega)]
          exact q.2.1
        · dsimp only
          rw [fup_at, gup_at]
          by_cases hwv : w = v
          · rw [if_pos (by omega), if_pos hwv]
          · rw [if_neg (by omega), if_neg hwv]
            exact q.2.2
      · intro s hs
        rw [upA_ne (by omega), upA_eq, fup_at]
        dsimp only
        rw [gup_at]
        by_cases hsb : s = bf
        · rw [if_pos (by omega), if_pos hsb]
        · rw [if_neg (by omega), if_neg hsb]
          exact h2 s hs
      · rw [upA_ne (by omega), upA_ne (by omega)]
        exact h3
      · rw [upA_ne (by omega), upA_ne (by omega)]
        exact h5
    obtain ⟨σ', q1, q2, q3, q4⟩ := noteC (W' := W) (c := 1) (w := v) (b := bf) hC (by omega) (by omega) (by omega) ht
    refine ⟨σ', _, ?_, q2, fun k k1 k2 k3 => by rw [q3 k k1, upA_ne k2, upA_ne k3], fun k hk => ?_, fun j hj => q4 j hj, ?_, Or.inr rfl⟩
    · rw [tputI (i := 4 * bf + 2) (by omega) (by omega), Option.bind_some, tputI (i := 4 * v + 3) (by omega) (by omega), Option.bind_some]
      have q1' := q1
      rw [show ((1 : Nat) : Int) = 1 from rfl] at q1'
      rw [q1']
      rfl
    · rw [q3 38 (by omega), upA_ne (by omega), upA_eq, fup_at, if_neg (by omega)]
    · refine Und.one ?_
      unfold un1
      rw [if_neg (by dsimp only; omega), if_neg (by dsimp only; omega), if_neg (by dsimp only; omega)]
      dsimp only
      rw [gup_gup, gup_self hbf, Int.toNat_natCast, gup_gup, gup_self hb3]
/-- one change is undone -/
theorem undo_ok {σ : qC} {W : Wc} {t : List Ec} {e : Ec} {nv ns na : Nat} {x : Int32} (h : CW (upS σ 4202 x) W (e :: t) nv ns na) (he : (e.1 = 0 → e.2.1 < nv) ∧ (e.1 = 1 → e.2.1 < nv ∧ (e.2.2 = -1 ∨ 0 ≤ e.2.2 ∧ e.2.2 < ns)) ∧ (e.1 = 2 → e.2.1 < na)) :
    ∃ σ', c_undo_102 (Int32.ofInt t.length) σ = some σ' ∧ CW (upS σ' 4202 (Int32.ofInt t.length)) (un1 e W) t nv ns na ∧ (∀ k, k ≠ 36 → k ≠ 38 → k ≠ 40 → σ'.2 k = σ.2 k) ∧ (∀ k, k % 4 ≠ 2 → σ'.2 38 k = σ.2 38 k ∧ σ'.2 40 k = σ.2 40 k) ∧ σ'.1 = σ.1 := by
  unfold CW at h
  rw [upS_2, upS_1, upS_1, upS_1, upS_1, if_neg (by omega), if_neg (by omega), if_neg (by omega)] at h
  obtain ⟨h1, h2, h3, ⟨k1, k2, k3, k4⟩, ⟨t1, t2, t3, ⟨c1, c2, c3, c4⟩, t5⟩, h6⟩ := h
  obtain ⟨ec, ew, eb⟩ := e
  dsimp only at t1 t2 t3 c1 c2 c3 c4 he
  rw [List.length_cons] at h6
  have r0 : tat σ 42 4 (Int32.ofInt t.length) (Int32.ofInt 0) = Int32.ofInt ec := by rw [tatI (i := 4 * t.length) (by omega) (by omega), t1]
  have r1 : tat σ 42 4 (Int32.ofInt t.length) (Int32.ofInt 1) = Int32.ofInt ew := by rw [tatI (i := 4 * t.length + 1) (by omega) (by omega), t2]
  have r2 : tat σ 42 4 (Int32.ofInt t.length) (Int32.ofInt 2) = Int32.ofInt eb := by rw [tatI (i := 4 * t.length + 2) (by omega) (by omega), t3]
  unfold c_undo_102 un1
  rw [r0, r1, r2]
  dsimp only
  have hsc : ∀ σ1 : qC, σ1.1 = σ.1 → ((upS σ1 4202 (Int32.ofInt t.length)).1 3602 = Int32.ofInt nv ∧ (upS σ1 4202 (Int32.ofInt t.length)).1 3802 = Int32.ofInt ns ∧ (upS σ1 4202 (Int32.ofInt t.length)).1 4002 = Int32.ofInt na ∧ (upS σ1 4202 (Int32.ofInt t.length)).1 4202 = Int32.ofInt t.length) := by
    intro σ1 hσ
    refine ⟨?_, ?_, ?_, ?_⟩
    · rw [upS_1, if_neg (by omega), hσ]; exact k1
    · rw [upS_1, if_neg (by omega), hσ]; exact k2
    · rw [upS_1, if_neg (by omega), hσ]; exact k3
    · rw [upS_1, if_pos rfl]
  rcases (by omega : ec = 0 ∨ ec = 2 ∨ ec = 1) with rfl | rfl | rfl
  · have hw := he.1 rfl
    rw [if_pos (show Int32.ofInt ((0 : Nat) : Int) = 0 from rfl), if_pos rfl, tputI (i := 4 * ew) (by omega) (by omega), Option.bind_some]
    refine ⟨_, rfl, ⟨fun w hw => ?_, ?_, ?_, hsc _ rfl, ?_, by omega⟩, fun k a1 a2 a3 => by rw [upA_ne a1], fun k hk => ⟨by rw [upA_ne (by omega)], by rw [upA_ne (by omega)]⟩, rfl⟩
    · rw [upS_2, upA_eq]
      have q := h1 w hw
      dsimp only
      refine ⟨?_, ?_, ?_⟩
      · rw [gup_at]
        by_cases hwv : w = ew
        · rw [if_pos hwv, fup_at, if_pos (by omega)]
        · rw [if_neg hwv, fup_at, if_neg (by omega), fup_at, if_neg (by omega)]
          exact q.1
      · rw [fup_at, if_neg (by omega)]
        exact q.2.1
      · rw [fup_at, if_neg (by omega)]
        exact q.2.2
    · rw [upS_2, upA_ne (by omega)]; exact h2
    · rw [upS_2, upA_ne (by omega)]; exact h3
    · rw [upS_2, upA_ne (by omega)]; exact t5
  · have hw := he.2.2 rfl
    rw [if_neg (show ¬ Int32.ofInt ((2 : Nat) : Int) = 0 by decide), if_pos (show Int32.ofInt ((2 : Nat) : Int) = Int32.ofInt 2 from rfl), if_neg (by omega), if_pos rfl, tputI (i := 4 * ew + 2) (by omega) (by omega), Option.bind_some]
    refine ⟨_, rfl, ⟨fun w hw => ?_, ?_, ?_, hsc _ rfl, ?_, by omega⟩, fun k a1 a2 a3 => by rw [upA_ne a3], fun k hk => ⟨by rw [upA_ne (by omega)], by rw [upA_eq, fup_at, if_neg (by omega)]⟩, rfl⟩
    · rw [upS_2, upA_ne (by omega)]; exact h1 w hw
    · rw [upS_2, upA_ne (by omega)]; exact h2
    · intro a ha
      rw [upS_2, upA_eq, fup_at]
      dsimp only
      rw [gup_at]
      by_cases hwv : a = ew
      · rw [if_pos (by omega), if_pos hwv]
      · rw [if_neg (by omega), if_neg hwv]
        exact h3 a ha
    · rw [upS_2, upA_ne (by omega)]; exact t5
  · have hw := he.2.1 rfl
    rw [if_neg (show ¬ Int32.ofInt ((1 : Nat) : Int) = 0 by decide), if_neg (show ¬ Int32.ofInt ((1 : Nat) : Int) = Int32.ofInt 2 by decide), if_neg (by omega), if_neg (by omega), tputI (i := 4 * ew + 3) (by omega) (by omega), Option.bind_some]
    by_cases hb : eb = -1
    · subst hb
      rw [if_pos rfl, if_pos rfl, tputI (i := 4 * ew + 2) (by omega) (by omega), Option.bind_some]
      refine ⟨_, rfl, ⟨fun w hw => ?_, ?_, ?_, hsc _ rfl, ?_, by omega⟩, fun k a1 a2 a3 => by rw [upA_ne a1, upA_ne a1], fun k hk => ⟨by rw [upA_ne (by omega), upA_ne (by omega)], by rw [upA_ne (by omega), upA_ne (by omega)]⟩, rfl⟩
      · rw [upS_2, upA_eq, upA_eq]
        have q := h1 w hw
        dsimp only
        refine ⟨?_, ?_, ?_⟩
        · rw [fup_at, if_neg (by omega), fup_at, if_neg (by omega), fup_at, if_neg (by omega), fup_at, if_neg (by omega)]
          exact q.1
        · rw [fup_at, gup_at]
          by_cases hwv : w = ew
          · rw [if_pos (by omega), if_pos hwv]
          · rw [if_neg (by omega), if_neg hwv, fup_at, if_neg (by omega)]
            exact q.2.1
        · rw [fup_at, if_neg (by omega), fup_at, gup_at]
          by_cases hwv : w = ew
          · rw [if_pos (by omega), if_pos hwv]
          · rw [if_neg (by omega), if_neg hwv]
            exact q.2.2
      · rw [upS_2, upA_ne (by omega), upA_ne (by omega)]; exact h2
      · rw [upS_2, upA_ne (by omega), upA_ne (by omega)]; exact h3
      · rw [upS_2, upA_ne (by omega), upA_ne (by omega)]; exact t5
    · obtain ⟨bf, rfl⟩ : ∃ bf : Nat, eb = bf := ⟨eb.toNat, by omega⟩
      rw [if_neg (zeqN (by omega) (by omega) (by omega) (by omega) (by omega)), if_neg (by omega), tputI (i := 4 * bf + 2) (by omega) (by omega), Option.bind_some, Int.toNat_natCast]
      refine ⟨_, rfl, ⟨fun w hw => ?_, ?_, ?_, hsc _ rfl, ?_, by omega⟩, fun k a1 a2 a3 => by rw [upA_ne a2, upA_ne a1], fun k hk => ⟨by rw [upA_eq, fup_at, if_neg (by omega), upA_ne (by omega)], by rw [upA_ne (by omega), upA_ne (by omega)]⟩, rfl⟩
      · rw [upS_2, upA_ne (by omega), upA_eq]
        have q := h1 w hw
        dsimp only
        refine ⟨?_, ?_, ?_⟩
        · rw [fup_at, if_neg (by omega), fup_at, if_neg (by omega)]
          exact q.1
        · rw [fup_at, if_neg (by omega)]
          exact q.2.1
        · rw [fup_at, gup_at]
          by_cases hwv : w = ew
          · rw [if_pos (by omega), if_pos hwv]
          · rw [if_neg (by omega), if_neg hwv]
            exact q.2.2
      · intro s hs
        rw [upS_2, upA_eq, fup_at, upA_ne (by omega)]
        dsimp only
        rw [gup_at]
        by_cases hsb : s = bf
        · rw [if_pos (by omega), if_pos hsb]
        · rw [if_neg (by omega), if_neg hsb]
          exact h2 s hs
      · rw [upS_2, upA_ne (by omega), upA_ne (by omega)]; exact h3
      · rw [upS_2, upA_ne (by omega), upA_ne (by omega)]; exact t5
