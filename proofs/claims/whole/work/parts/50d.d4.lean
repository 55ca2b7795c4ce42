/-! D4: the class's store as functions, and its trail -/
/-- bindings (node, env); first, last sleeper of a variable; sleeper behind; aparts that wait -/
abbrev Wc : Type := (Nat → Option (Nat × Nat)) × (Nat → Int) × (Nat → Int) × (Nat → Int) × (Nat → Int)
/-- a change: what, where, before -/
abbrev Ec : Type := Nat × Nat × Int
def un1 (e : Ec) (W : Wc) : Wc :=
  if e.1 = 0 then (gup W.1 e.2.1 none, W.2) else
  if e.1 = 2 then (W.1, W.2.1, W.2.2.1, W.2.2.2.1, gup W.2.2.2.2 e.2.1 1) else
  if e.2.2 = -1 then (W.1, gup W.2.1 e.2.1 (-1), gup W.2.2.1 e.2.1 (-1), W.2.2.2.1, W.2.2.2.2)
  else (W.1, W.2.1, gup W.2.2.1 e.2.1 e.2.2, gup W.2.2.2.1 e.2.2.toNat (-1), W.2.2.2.2)
def unL : List Ec → Wc → Wc
  | [], W => W
  | e :: r, W => unL r (un1 e W)
theorem unL_app (a b : List Ec) (W : Wc) : unL (a ++ b) W = unL b (unL a W) := by
  induction a generalizing W with
  | nil => rfl
  | cons e a ih => exact ih _
/-- from (W, t) on changes were noted, and can be undone -/
def Und (W : Wc) (t : List Ec) (W' : Wc) (t' : List Ec) : Prop := ∃ es, t' = es ++ t ∧ unL es W' = W
theorem Und.refl {W : Wc} {t : List Ec} : Und W t W t := ⟨[], rfl, rfl⟩
theorem Und.trans {W W' W'' : Wc} {t t' t'' : List Ec} (h : Und W t W' t') (h2 : Und W' t' W'' t'') : Und W t W'' t'' := by
  obtain ⟨es, e1, e2⟩ := h
  obtain ⟨fs, f1, f2⟩ := h2
  refine ⟨fs ++ es, ?_, ?_⟩
  · rw [f1, e1, List.append_assoc]
  · rw [unL_app, f2, e2]
theorem Und.one {W W' : Wc} {t : List Ec} {e : Ec} (h : un1 e W' = W) : Und W t W' (e :: t) := ⟨[e], rfl, h⟩
theorem gup_at {α : Type} {f : Nat → α} {i j : Nat} {v : α} : gup f i v j = if j = i then v else f j := rfl
theorem gup_gup {α : Type} {f : Nat → α} {i : Nat} {v w : α} : gup (gup f i v) i w = gup f i w := by
  funext j
  rw [gup_at, gup_at, gup_at]
  split <;> rfl
theorem gup_self {α : Type} {f : Nat → α} {i : Nat} {v : α} (h : f i = v) : gup f i v = f := by
  funext j
  rw [gup_at]
  split
  · rename_i e
    rw [e, h]
  · rfl
/-- the table of changes, the newest first -/
def RT (X : Nat → Int32) : List Ec → Prop
  | [] => True
  | e :: r => X (4 * r.length) = Int32.ofInt e.1 ∧ X (4 * r.length + 1) = Int32.ofInt e.2.1 ∧ X (4 * r.length + 2) = Int32.ofInt e.2.2 ∧ (e.1 < 3 ∧ e.2.1 < 20000 ∧ -1 ≤ e.2.2 ∧ e.2.2 < 20000) ∧ RT X r
theorem RT.congr {X X' : Nat → Int32} : ∀ {t : List Ec}, RT X t → (∀ i, i < 4 * t.length → X' i = X i) → RT X' t
  | [], _, _ => trivial
  | e :: r, h, hx => by
    obtain ⟨h1, h2, h3, h4, h5⟩ := h
    rw [List.length_cons] at hx
    exact ⟨by rw [hx _ (by omega), h1], by rw [hx _ (by omega), h2], by rw [hx _ (by omega), h3], h4, RT.congr h5 (fun i hi => hx i (by omega))⟩
/-- the store's tables are W -/
def CW (σ : qC) (W : Wc) (t : List Ec) (nv ns na : Nat) : Prop :=
  (∀ v, v < nv → (match W.1 v with
    | none => σ.2 36 (4 * v) = Int32.ofInt (-1)
    | some (n, e) => σ.2 36 (4 * v) = Int32.ofInt n ∧ σ.2 36 (4 * v + 1) = Int32.ofInt e) ∧ σ.2 36 (4 * v + 2) = Int32.ofInt (W.2.1 v) ∧ σ.2 36 (4 * v + 3) = Int32.ofInt (W.2.2.1 v)) ∧
  (∀ s, s < ns → σ.2 38 (4 * s + 2) = Int32.ofInt (W.2.2.2.1 s)) ∧
  (∀ a, a < na → σ.2 40 (4 * a + 2) = Int32.ofInt (W.2.2.2.2 a)) ∧
  (σ.1 3602 = Int32.ofInt nv ∧ σ.1 3802 = Int32.ofInt ns ∧ σ.1 4002 = Int32.ofInt na ∧ σ.1 4202 = Int32.ofInt t.length) ∧
  RT (σ.2 42) t ∧ (nv ≤ 20000 ∧ ns ≤ 20000 ∧ na ≤ 20000 ∧ t.length ≤ 20000)
/-- only the store's parts were looked at -/
theorem CW.congr {σ σ' : qC} {W : Wc} {t : List Ec} {nv ns na : Nat} (h : CW σ W t nv ns na) (h36 : σ'.2 36 = σ.2 36) (h38 : σ'.2 38 = σ.2 38) (h40 : σ'.2 40 = σ.2 40) (h42 : σ'.2 42 = σ.2 42) (k1 : σ'.1 3602 = σ.1 3602) (k2 : σ'.1 3802 = σ.1 3802) (k3 : σ'.1 4002 = σ.1 4002) (k4 : σ'.1 4202 = σ.1 4202) : CW σ' W t nv ns na := by
  unfold CW
  rw [h36, h38, h40, h42, k1, k2, k3, k4]
  exact h
theorem tap4_2 {σ : qC} {t i b : Nat} {a1 a2 a3 a4 : Int32} : (tap4 σ t i a1 a2 a3 a4).2 b = if b = t then fup (fup (fup (fup (σ.2 t) i a1) (i + 1) a2) (i + 2) a3) (i + 3) a4 else σ.2 b := by
  unfold tap4
  by_cases h : b = t
  · subst h
    rw [upA_eq, upA_eq, upA_eq, upA_eq, if_pos rfl]
  · rw [upA_ne h, upA_ne h, upA_ne h, upA_ne h, if_neg h]
theorem tap4_1 {σ : qC} {t i : Nat} {a1 a2 a3 a4 : Int32} : (tap4 σ t i a1 a2 a3 a4).1 = σ.1 := rfl
/-- a change is noted -/
theorem noteC {σ : qC} {W W' : Wc} {t : List Ec} {nv ns na : Nat} {c w : Nat} {b : Int} (h : CW σ W t nv ns na) (hc : c < 3) (hw : w < 20000) (hb : -1 ≤ b ∧ b < 20000) (ht : t.length < 20000) :
    ∃ σ', tappO σ 42 4 (Int32.ofInt c) (Int32.ofInt w) (Int32.ofInt b) (Int32.ofInt (-1)) = some σ' ∧ CW σ' W ((c, w, b) :: t) nv ns na ∧ (∀ a, a ≠ 42 → σ'.2 a = σ.2 a) ∧ (∀ j, j ≠ 4202 → σ'.1 j = σ.1 j) := by
  obtain ⟨h1, h2, h3, ⟨k1, k2, k3, k4⟩, h5, h6⟩ := h
  refine ⟨_, tappI (n := t.length) k4 (by omega) (by omega), ⟨?_, ?_, ?_, ⟨?_, ?_, ?_, ?_⟩, ?_, ?_⟩, ?_, ?_⟩
  · rw [upS_2, tap4_2, if_neg (by omega)]
    exact h1
  · rw [upS_2, tap4_2, if_neg (by omega)]
    exact h2
  · rw [upS_2, tap4_2, if_neg (by omega)]
    exact h3
  · rw [upS_1, if_neg (by omega)]
    exact k1
  · rw [upS_1, if_neg (by omega)]
    exact k2
  · rw [upS_1, if_neg (by omega)]
    exact k3
  · rw [upS_1, if_pos (by omega)]
    rfl
  · rw [upS_2, tap4_2, if_pos rfl]
    refine ⟨?_, ?_, ?_, ⟨hc, hw, hb⟩, ?_⟩
    · rw [fup_at, if_neg (by omega), fup_at, if_neg (by omega), fup_at, if_neg (by omega), fup_at, if_pos (by omega)]
    · rw [fup_at, if_neg (by omega), fup_at, if_neg (by omega), fup_at, if_pos (by omega)]
    · rw [fup_at, if_neg (by omega), fup_at, if_pos (by omega)]
    · refine h5.congr (fun i hi => ?_)
      rw [fup_at, if_neg (by omega), fup_at, if_neg (by omega), fup_at, if_neg (by omega), fup_at, if_neg (by omega)]
  · rw [List.length_cons]
    omega
  · intro a ha
    rw [upS_2, tap4_2, if_neg ha]
  · intro j hj
    rw [upS_1, if_neg (by omega)]
    rfl
/-- the class binds a variable (K: where the kept value stands) -/
def bindG (K : Nat) (i1 : Int32) (σ : qC) : Option qC := (tputO σ 36 4 i1 (Int32.ofInt 0) (σ.1 K)).bind (fun σ1 => (tputO σ1 36 4 i1 (Int32.ofInt 1) (σ1.1 (K + 1))).bind (fun σ3 => (tappO σ3 42 4 (Int32.ofInt 0) i1 (Int32.ofInt (-1)) (Int32.ofInt (-1))).bind (fun σ5 => some σ5)))
theorem b49 : c_bind_93_49 = bindG 4900 := rfl
theorem b50 : c_bind_93_50 = bindG 5000 := rfl
theorem bindG_ok {K v n e : Nat} {σ : qC} {W : Wc} {t : List Ec} {nv ns na : Nat} (h : CW σ W t nv ns na) (hK : K ≠ 4202 ∧ K + 1 ≠ 4202) (hv : v < nv) (hW : W.1 v = none) (e1 : σ.1 K = Int32.ofInt n) (e2 : σ.1 (K + 1) = Int32.ofInt e) (ht : t.length < 20000) :
    ∃ σ', bindG K (Int32.ofInt v) σ = some σ' ∧ CW σ' (gup W.1 v (some (n, e)), W.2) ((0, v, -1) :: t) nv ns na ∧ (∀ a, a ≠ 42 → a ≠ 36 → σ'.2 a = σ.2 a) ∧ (∀ j, j ≠ 4202 → σ'.1 j = σ.1 j) ∧ Und W t (gup W.1 v (some (n, e)), W.2) ((0, v, -1) :: t) := by
  obtain ⟨h1, h2, h3, h4, h5, h6⟩ := h
  have hu : Und W t (gup W.1 v (some (n, e)), W.2) ((0, v, -1) :: t) := by
    refine Und.one ?_
    unfold un1
    rw [if_pos rfl]
    dsimp only
    rw [gup_gup, gup_self hW]
  have hC : CW (upA (upA σ 36 (4 * v) (Int32.ofInt n)) 36 (4 * v + 1) (Int32.ofInt e)) (gup W.1 v (some (n, e)), W.2) t nv ns na := by
    refine ⟨fun w hw => ?_, ?_, ?_, h4, ?_, h6⟩
    · rw [upA_eq, upA_eq]
      have q := h1 w hw
      refine ⟨?_, ?_, ?_⟩
      · dsimp only
        rw [gup_at]
        by_cases hwv : w = v
        · subst hwv
          rw [if_pos rfl]
          dsimp only
          rw [fup_at, if_neg (by omega), fup_at, if_pos rfl, fup_at, if_pos rfl]
          exact ⟨rfl, rfl⟩
        · rw [if_neg hwv]
          rw [fup_at, if_neg (by omega), fup_at, if_neg (by omega), fup_at, if_neg (by omega), fup_at, if_neg (by omega)]
          exact q.1
      · rw [fup_at, if_neg (by omega), fup_at, if_neg (by omega)]
        exact q.2.1
      · rw [fup_at, if_neg (by omega), fup_at, if_neg (by omega)]
        exact q.2.2
    · rw [upA_ne (by omega), upA_ne (by omega)]
      exact h2
    · rw [upA_ne (by omega), upA_ne (by omega)]
      exact h3
    · rw [upA_ne (by omega), upA_ne (by omega)]
      exact h5
  obtain ⟨σ', q1, q2, q3, q4⟩ := noteC (W' := W) (c := 0) (w := v) (b := -1) hC (by omega) (by omega) (by omega) ht
  refine ⟨σ', ?_, q2, fun a ha hb => ?_, fun j hj => q4 j hj, hu⟩
  · unfold bindG
    rw [tputI (i := 4 * v) (by omega) (by omega), Option.bind_some, tputI (i := 4 * v + 1) (by omega) (by omega), Option.bind_some]
    rw [show (upA σ 36 (4 * v) (σ.1 K)).1 = σ.1 from rfl, e1, e2]
    have q1' := q1
    rw [show ((0 : Nat) : Int) = 0 from rfl] at q1'
    rw [q1']
    rfl
  · rw [q3 a ha, upA_ne hb, upA_ne hb]
