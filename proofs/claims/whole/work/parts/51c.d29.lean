/-! D29: the reference's terms and what they stand for -/
/-- cell t is the tree T -/
def MT (G C A : Nat → Int32) (nv nc : Nat) : Nat → Int → Tr → Prop
  | 0, _, _ => False
  | k + 1, t, T => (t < 0 ∧ -1 - t < nv ∧ T = trVar (-1 - t).toNat) ∨ (0 ≤ t ∧ t < nc ∧ ∃ a : Nat, a ≤ 3 ∧ C t.toNat = Int32.ofInt a ∧ ∃ s : Int, (0 ≤ s ∧ s < 128) ∧ G t.toNat = Int32.ofInt s ∧ T [] = (s, a) ∧ ∀ i, i < a → ∃ m : Int, A (3 * t.toNat + i) = Int32.ofInt m ∧ MT G C A nv nc k m (trArg T i))
def MTx (G C A : Nat → Int32) (nv nc : Nat) (t : Int) (T : Tr) : Prop := ∃ k, MT G C A nv nc k t T
theorem MT.mono {G C A G' C' A' : Nat → Int32} {nv nc nv' nc' : Nat} (h1 : nv ≤ nv') (h2 : nc ≤ nc') (hG : ∀ i, i < nc → G' i = G i) (hC : ∀ i, i < nc → C' i = C i) (hA : ∀ i, i < 3 * nc → A' i = A i) : ∀ {k : Nat} {t : Int} {T : Tr}, MT G C A nv nc k t T → MT G' C' A' nv' nc' k t T
  | 0, _, _, h => h
  | k + 1, t, T, h => by
    rcases h with ⟨a, b, c⟩ | ⟨a, b, n, c, d, s, e, f, g, i⟩
    · exact Or.inl ⟨a, by omega, c⟩
    · refine Or.inr ⟨a, by omega, n, c, by rw [hC _ (by omega), d], s, e, by rw [hG _ (by omega), f], g, fun j hj => ?_⟩
      obtain ⟨m, m1, m2⟩ := i j hj
      exact ⟨m, by rw [hA _ (by omega), m1], m2.mono h1 h2 hG hC hA⟩
theorem MTx.mono {G C A G' C' A' : Nat → Int32} {nv nc nv' nc' : Nat} {t : Int} {T : Tr} (h : MTx G C A nv nc t T) (h1 : nv ≤ nv') (h2 : nc ≤ nc') (hG : ∀ i, i < nc → G' i = G i) (hC : ∀ i, i < nc → C' i = C i) (hA : ∀ i, i < 3 * nc → A' i = A i) : MTx G' C' A' nv' nc' t T := by
  obtain ⟨k, h⟩ := h
  exact ⟨k, h.mono h1 h2 hG hC hA⟩
theorem MTx.cases {G C A : Nat → Int32} {nv nc : Nat} {t : Int} {T : Tr} (h : MTx G C A nv nc t T) : (t < 0 ∧ -1 - t < nv ∧ T = trVar (-1 - t).toNat) ∨ (0 ≤ t ∧ t < nc ∧ ∃ a : Nat, a ≤ 3 ∧ C t.toNat = Int32.ofInt a ∧ ∃ s : Int, (0 ≤ s ∧ s < 128) ∧ G t.toNat = Int32.ofInt s ∧ lab T = s ∧ ary T = a ∧ ∀ i, i < a → ∃ m : Int, A (3 * t.toNat + i) = Int32.ofInt m ∧ MTx G C A nv nc m (trArg T i)) := by
  obtain ⟨k, h⟩ := h
  cases k with
  | zero => exact h.elim
  | succ k =>
    rcases h with z | ⟨a, b, n, c, d, s, e, f, g, i⟩
    · exact Or.inl z
    · refine Or.inr ⟨a, b, n, c, d, s, e, f, by unfold lab; rw [g], by unfold ary; rw [g], fun j hj => ?_⟩
      obtain ⟨m, m1, m2⟩ := i j hj
      exact ⟨m, m1, k, m2⟩
theorem MTx.rng {G C A : Nat → Int32} {nv nc : Nat} {t : Int} {T : Tr} (h : MTx G C A nv nc t T) : -1 - (nv : Int) ≤ t ∧ t < nc ∧ (t < 0 ↔ lab T < 0) ∧ (t < 0 → t = -1 - (vnum T : Int) ∧ vnum T < nv) := by
  rcases h.cases with ⟨a, b, c⟩ | ⟨a, b, n, c, d, s, e, f, g, i⟩
  · rw [c, lab_var, vnum_var]
    omega
  · rw [g]
    omega
/-- what is free -/
def FREE : Int := 2147483647
/-- bindings -/
def RVm (G C A X : Nat → Int32) (nv nc : Nat) (b : Bd) (bi : Nat → Int) : Prop := ∀ v, v < nv → X v = Int32.ofInt (bi v) ∧ match b v with
  | none => bi v = 2147483647
  | some T => MTx G C A nv nc (bi v) T
theorem valueL_ok {nv nc : Nat} {b : Bd} {bi : Nat → Int} {σ : qC} (hnv : nv ≤ 13000) (hnc : nc ≤ 24000) (ho : bOrd nv b) (hV : RVm (σ.2 72) (σ.2 73) (σ.2 74) (σ.2 75) nv nc b bi) : ∀ (m n : Nat) (t : Int) (T : Tr), MTx (σ.2 72) (σ.2 73) (σ.2 74) nv nc t T → (lab T < 0 → vnum T < m) → m < n →
    ∃ t' : Int, m_value_158_l2 n (Int32.ofInt t) σ = some (Int32.ofInt t') ∧ MTx (σ.2 72) (σ.2 73) (σ.2 74) nv nc t' (fnd m b T) ∧ (lab (fnd m b T) < 0 → b (vnum (fnd m b T)) = none) := by
  intro m
  induction m with
  | zero =>
    intro n t T hT hl hn
    have r := hT.rng
    have hT0 : ¬ lab T < 0 := fun h => by have := hl h; omega
    cases n with
    | zero => omega
    | succ n =>
      unfold m_value_158_l2
      rw [z0, if_pos (zleP (by omega) (by omega) (by omega) (by omega) (by omega))]
      exact ⟨t, rfl, hT, fun h => absurd h hT0⟩
  | succ m ih =>
    intro n t T hT hl hn
    have r := hT.rng
    cases n with
    | zero => omega
    | succ n =>
      unfold m_value_158_l2
      by_cases ht : t < 0
      · have hlT := r.2.2.1.mp ht
        obtain ⟨r1, r2⟩ := r.2.2.2 ht
        have hv := hl hlT
        rw [z0, if_neg (zleN (by omega) (by omega) (by omega) (by omega) (by omega)), zsub, agetI (i := vnum T) (by omega) (by omega) (by omega), Option.bind_some]
        obtain ⟨h1, h2⟩ := hV (vnum T) r2
        rw [h1]
        cases hb : b (vnum T) with
        | none =>
          rw [hb] at h2
          have h2 : bi (vnum T) = 2147483647 := h2
          rw [h2, if_pos rfl, fnd_none hlT hb]
          exact ⟨t, rfl, hT, fun _ => hb⟩
        | some U =>
          rw [hb] at h2
          have h2 : MTx (σ.2 72) (σ.2 73) (σ.2 74) nv nc (bi (vnum T)) U := h2
          have r3 := h2.rng
          rw [if_neg (zeqN (by omega) (by omega) (by omega) (by omega) (by omega)), Option.bind_some, fnd_some hlT hb]
          exact ih n (bi (vnum T)) U h2 (fun h => by have := ho (vnum T) r2 U hb h; omega) (by omega)
      · have hT0 : ¬ lab T < 0 := fun z => ht (r.2.2.1.mpr z)
        rw [z0, if_pos (zleP (by omega) (by omega) (by omega) (by omega) (by omega)), fnd_non hT0]
        exact ⟨t, rfl, hT, fun h => absurd h hT0⟩
theorem value_ok {nv nc : Nat} {b : Bd} {bi : Nat → Int} {σ : qC} {t : Int} {T : Tr} (hnv : nv ≤ 13000) (hnc : nc ≤ 24000) (ho : bOrd nv b) (hV : RVm (σ.2 72) (σ.2 73) (σ.2 74) (σ.2 75) nv nc b bi) (hT : MTx (σ.2 72) (σ.2 73) (σ.2 74) nv nc t T) :
    ∃ t' : Int, m_value_158 (Int32.ofInt t) σ = some (Int32.ofInt t') ∧ MTx (σ.2 72) (σ.2 73) (σ.2 74) nv nc t' (fnd (nv + 1) b T) ∧ (lab (fnd (nv + 1) b T) < 0 → b (vnum (fnd (nv + 1) b T)) = none) := by
  unfold m_value_158
  refine valueL_ok hnv hnc ho hV (nv + 1) qF t T hT (fun h => ?_) (by unfold qF; omega)
  have := (hT.rng).2.2.2 ((hT.rng).2.2.1.mpr h)
  omega
/-! the reference's store as functions -/
/-- bindings; first, last of a variable; next sleeper; aparts gone -/
abbrev Wm : Type := (Nat → Int) × (Nat → Int) × (Nat → Int) × (Nat → Int) × (Nat → Int)
abbrev Em : Type := Nat × Int
def unm1 (e : Em) (W : Wm) : Wm :=
  if e.1 % 5 = 0 then (gup W.1 (e.1 / 5) e.2, W.2) else
  if e.1 % 5 = 1 then (W.1, gup W.2.1 (e.1 / 5) e.2, W.2.2) else
  if e.1 % 5 = 2 then (W.1, W.2.1, gup W.2.2.1 (e.1 / 5) e.2, W.2.2.2) else
  if e.1 % 5 = 3 then (W.1, W.2.1, W.2.2.1, gup W.2.2.2.1 (e.1 / 5) e.2, W.2.2.2.2)
  else (W.1, W.2.1, W.2.2.1, W.2.2.2.1, gup W.2.2.2.2 (e.1 / 5) e.2)
def unmL : List Em → Wm → Wm
  | [], W => W
  | e :: r, W => unmL r (unm1 e W)
theorem unmL_app (a b : List Em) (W : Wm) : unmL (a ++ b) W = unmL b (unmL a W) := by
  induction a generalizing W with
  | nil => rfl
  | cons e a ih => exact ih _
def Undm (W : Wm) (t : List Em) (W' : Wm) (t' : List Em) : Prop := ∃ es, t' = es ++ t ∧ unmL es W' = W
theorem Undm.refl {W : Wm} {t : List Em} : Undm W t W t := ⟨[], rfl, rfl⟩
theorem Undm.trans {W W' W'' : Wm} {t t' t'' : List Em} (h : Undm W t W' t') (h2 : Undm W' t' W'' t'') : Undm W t W'' t'' := by
  obtain ⟨es, e1, e2⟩ := h
  obtain ⟨fs, f1, f2⟩ := h2
  refine ⟨fs ++ es, ?_, ?_⟩
  · rw [f1, e1, List.append_assoc]
  · rw [unmL_app, f2, e2]
theorem Undm.one {W W' : Wm} {t : List Em} {e : Em} (h : unm1 e W' = W) : Undm W t W' (e :: t) := ⟨[e], rfl, h⟩
def RTm (X Y : Nat → Int32) : List Em → Prop
  | [] => True
  | e :: r => X r.length = Int32.ofInt e.1 ∧ Y r.length = Int32.ofInt e.2 ∧ e.1 < 100000 ∧ RTm X Y r
theorem RTm.congr {X Y X' Y' : Nat → Int32} : ∀ {t : List Em}, RTm X Y t → (∀ i, i < t.length → X' i = X i ∧ Y' i = Y i) → RTm X' Y' t
  | [], _, _ => trivial
  | e :: r, h, hx => by
    obtain ⟨h1, h2, h3, h4⟩ := h
    rw [List.length_cons] at hx
    exact ⟨by rw [(hx _ (by omega)).1, h1], by rw [(hx _ (by omega)).2, h2], h3, RTm.congr h4 (fun i hi => hx i (by omega))⟩
/-- the reference's arrays are W -/
def MW (σ : qC) (W : Wm) (t : List Em) (nv ns na : Nat) : Prop :=
  (∀ v, v < nv → σ.2 75 v = Int32.ofInt (W.1 v) ∧ σ.2 76 v = Int32.ofInt (W.2.1 v) ∧ σ.2 77 v = Int32.ofInt (W.2.2.1 v)) ∧ (∀ s, s < ns → σ.2 86 s = Int32.ofInt (W.2.2.2.1 s)) ∧ (∀ a, a < na → σ.2 89 a = Int32.ofInt (W.2.2.2.2 a)) ∧
  (σ.1 6426 = Int32.ofInt nv ∧ σ.1 6434 = Int32.ofInt ns ∧ σ.1 6435 = Int32.ofInt na ∧ σ.1 6432 = Int32.ofInt t.length) ∧ RTm (σ.2 83) (σ.2 84) t ∧ (nv ≤ 13000 ∧ ns ≤ 600 ∧ na ≤ 600 ∧ t.length ≤ 5000)
theorem MW.congr {σ σ' : qC} {W : Wm} {t : List Em} {nv ns na : Nat} (h : MW σ W t nv ns na) (h2 : ∀ k, k = 75 ∨ k = 76 ∨ k = 77 ∨ k = 86 ∨ k = 89 ∨ k = 83 ∨ k = 84 → σ'.2 k = σ.2 k) (h1 : ∀ j, j = 6426 ∨ j = 6434 ∨ j = 6435 ∨ j = 6432 → σ'.1 j = σ.1 j) : MW σ' W t nv ns na := by
  unfold MW
  rw [h2 75 (by omega), h2 76 (by omega), h2 77 (by omega), h2 86 (by omega), h2 89 (by omega), h2 83 (by omega), h2 84 (by omega), h1 6426 (by omega), h1 6434 (by omega), h1 6435 (by omega), h1 6432 (by omega)]
  exact h
theorem change_ok {σ : qC} {W : Wm} {t : List Em} {nv ns na w : Nat} {a o : Int} (h : MW σ W t nv ns na) (ha : a = w) (hw : w < 100000) (ht : t.length < 5000) :
    ∃ σ', m_change_160 (Int32.ofInt a) (Int32.ofInt o) σ = some σ' ∧ MW σ' W ((w, o) :: t) nv ns na ∧ (∀ k, k ≠ 83 → k ≠ 84 → σ'.2 k = σ.2 k) ∧ (∀ j, j ≠ 6432 → σ'.1 j = σ.1 j) := by
  obtain ⟨h1, h2, h3, ⟨k1, k2, k3, k4⟩, h5, h6⟩ := h
  subst ha
  unfold m_change_160
  rw [k4, aputI (i := t.length) rfl (by omega) (by omega), Option.bind_some, show (upA σ 83 t.length (Int32.ofInt (w : Int))).1 = σ.1 from rfl, k4, aputI (i := t.length) rfl (by omega) (by omega), Option.bind_some]
  dsimp only [qlet]
  rw [show (upA (upA σ 83 t.length (Int32.ofInt (w : Int))) 84 t.length (Int32.ofInt o)).1 = σ.1 from rfl, k4, zadd]
  refine ⟨_, rfl, ⟨?_, ?_, ?_, ⟨?_, ?_, ?_, ?_⟩, ?_, ?_⟩, fun k a b => by rw [upS_2, upA_ne b, upA_ne a], fun j hj => by rw [upS_1, if_neg hj]; rfl⟩
  · rw [upS_2, upA_ne (by omega), upA_ne (by omega), upA_ne (by omega), upA_ne (by omega), upA_ne (by omega), upA_ne (by omega)]
    exact h1
  · rw [upS_2, upA_ne (by omega), upA_ne (by omega)]
    exact h2
  · rw [upS_2, upA_ne (by omega), upA_ne (by omega)]
    exact h3
  · rw [upS_1, if_neg (by omega)]; exact k1
  · rw [upS_1, if_neg (by omega)]; exact k2
  · rw [upS_1, if_neg (by omega)]; exact k3
  · rw [upS_1, if_pos rfl]; rfl
  · rw [upS_2, upA_ne (by omega), upA_eq, upA_eq, upA_ne (by omega)]
    refine ⟨by rw [fup_at, if_pos rfl], by rw [fup_at, if_pos rfl], hw, h5.congr (fun i hi => ⟨by rw [fup_at, if_neg (by omega)], by rw [fup_at, if_neg (by omega)]⟩)⟩
  · rw [List.length_cons]
    omega
