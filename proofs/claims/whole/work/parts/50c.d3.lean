/-! D3: the class's terms, variables, and what a term stands for -/
/-- which nodes are in use: for terms, for goals -/
abbrev PgT : Type := (Nat → Prop) × (Nat → Prop)
abbrev Pg : Type := Inhabited PgT
abbrev pgu [U : Pg] (n : Nat) : Prop := U.default.1 n
abbrev pgv [U : Pg] (n : Nat) : Prop := U.default.2 n
/-- node n with variables from env on is the tree T (nvp variables on its page) -/
def CT [Pg] (B : Nat → Int32) (nvp : Nat) : Nat → Nat → Nat → Tr → Prop
  | 0, _, _, _ => False
  | k + 1, n, env, T => n < 624 ∧ ∃ a : Nat, a ≤ 3 ∧ B (9 * n + 1) = Int32.ofInt a ∧ ∃ s : Int, (0 ≤ s ∧ s < 128 ∧ pgu n) ∧ B (9 * n) = Int32.ofInt s ∧
    ((∃ r : Nat, r < nvp ∧ B (9 * n + 8) = Int32.ofInt r ∧ T = trVar (env + r) ∧ isCa s) ∨
     (B (9 * n + 8) = Int32.ofInt (-1) ∧ T [] = (s, a) ∧ ∀ i, i < a → ∃ m : Nat, B (9 * n + (2 + i)) = Int32.ofInt m ∧ CT B nvp k m env (trArg T i)))
def CTx [Pg] (B : Nat → Int32) (nv n env : Nat) (T : Tr) : Prop := ∃ nvp k, env + nvp ≤ nv ∧ CT B nvp k n env T
theorem CTx.mono [Pg] {B : Nat → Int32} {nv nv' n env : Nat} {T : Tr} (h : CTx B nv n env T) (hn : nv ≤ nv') : CTx B nv' n env T := by
  obtain ⟨nvp, k, h1, h2⟩ := h
  exact ⟨nvp, k, by omega, h2⟩
/-- the two kinds of a term -/
theorem CTx.cases [Pg] {B : Nat → Int32} {nv n env : Nat} {T : Tr} (h : CTx B nv n env T) : n < 624 ∧ env ≤ nv ∧ ∃ a : Nat, a ≤ 3 ∧ B (9 * n + 1) = Int32.ofInt a ∧ ∃ s : Int, (0 ≤ s ∧ s < 128) ∧ B (9 * n) = Int32.ofInt s ∧
    ((∃ r : Nat, env + r < nv ∧ B (9 * n + 8) = Int32.ofInt r ∧ T = trVar (env + r) ∧ isCa s) ∨
     (B (9 * n + 8) = Int32.ofInt (-1) ∧ lab T = s ∧ ary T = a ∧ ∀ i, i < a → ∃ m : Nat, B (9 * n + (2 + i)) = Int32.ofInt m ∧ CTx B nv m env (trArg T i))) := by
  obtain ⟨nvp, k, h1, h2⟩ := h
  cases k with
  | zero => exact h2.elim
  | succ k =>
    obtain ⟨hn, a, ha, hb, s, hs, hsb, h2⟩ := h2
    refine ⟨hn, by omega, a, ha, hb, s, ⟨hs.1, hs.2.1⟩, hsb, ?_⟩
    rcases h2 with ⟨r, hr, hr2, e, hc⟩ | ⟨hr, e, hargs⟩
    · exact Or.inl ⟨r, by omega, hr2, e, hc⟩
    · refine Or.inr ⟨hr, by unfold lab; rw [e], by unfold ary; rw [e], fun i hi => ?_⟩
      obtain ⟨m, hm, hc⟩ := hargs i hi
      exact ⟨m, hm, nvp, k, h1, hc⟩
theorem lab_var (v : Nat) : lab (trVar v) = -1 - (v : Int) := rfl
theorem vnum_var (v : Nat) : vnum (trVar v) = v := by
  unfold vnum
  rw [lab_var]
  omega
/-- the variables' table -/
def RV [Pg] (B X : Nat → Int32) (nv : Nat) (b : Bd) : Prop := ∀ v, v < nv → match b v with
  | none => X (4 * v) = Int32.ofInt (-1)
  | some T => ∃ n env : Nat, X (4 * v) = Int32.ofInt n ∧ X (4 * v + 1) = Int32.ofInt env ∧ CTx B nv n env T
def RI (X : Nat → Int32) (nv c : Nat) (f : Nat → Int) : Prop := ∀ v, v < nv → X (4 * v + c) = Int32.ofInt (f v)
/-- a variable is bound to an older one -/
def bOrd (nv : Nat) (b : Bd) : Prop := ∀ v, v < nv → ∀ T, b v = some T → lab T < 0 → vnum T < v
def findL (K : Nat) : Nat → Int32 → Int32 → qC → Option qC
  | 0, _, _, _ => none
  | n + 1, i4, i5, σ => if i5 < 0 then some σ else if i4 = Int32.ofInt (-1) then some σ else if tat σ 36 4 ((σ.1 (K + 1)) + i4) (Int32.ofInt 0) = Int32.ofInt (-1) then qlet (upS σ (K + 2) ((σ.1 (K + 1)) + i4)) (fun σ4 => some σ4) else qlet (upS σ K (tat σ 36 4 ((σ.1 (K + 1)) + i4) (Int32.ofInt 0))) (fun σ6 => qlet (upS σ6 (K + 1) (tat σ6 36 4 ((σ.1 (K + 1)) + i4) (Int32.ofInt 1))) (fun σ8 => qlet (c_rank_73 (tat σ 36 4 ((σ.1 (K + 1)) + i4) (Int32.ofInt 0)) σ8) (fun x10 => (findL K n) x10 (i5 + Int32.ofInt (-1)) σ8)))
def findG (K : Nat) (i1 : Int32) (i2 : Int32) (σ : qC) : Option qC := qlet (upS σ K i1) (fun σ1 => qlet (upS σ1 (K + 1) i2) (fun σ3 => qlet (upS σ3 (K + 2) (Int32.ofInt (-1))) (fun σ5 => findL K qF (c_rank_73 i1 σ5) (σ5.1 3602) σ5)))
theorem fl49 : c_find_72_49_l34 = findL 4900 := by
  funext n
  induction n with
  | zero => rfl
  | succ n ih => funext i4 i5 σ; unfold c_find_72_49_l34 findL; rw [ih]
theorem fl50 : c_find_72_50_l34 = findL 5000 := by
  funext n
  induction n with
  | zero => rfl
  | succ n ih => funext i4 i5 σ; unfold c_find_72_50_l34 findL; rw [ih]
theorem fl56 : c_find_72_56_l34 = findL 5600 := by
  funext n
  induction n with
  | zero => rfl
  | succ n ih => funext i4 i5 σ; unfold c_find_72_56_l34 findL; rw [ih]
theorem fl57 : c_find_72_57_l34 = findL 5700 := by
  funext n
  induction n with
  | zero => rfl
  | succ n ih => funext i4 i5 σ; unfold c_find_72_57_l34 findL; rw [ih]
theorem fl62 : c_find_72_62_l34 = findL 6200 := by
  funext n
  induction n with
  | zero => rfl
  | succ n ih => funext i4 i5 σ; unfold c_find_72_62_l34 findL; rw [ih]
theorem fl63 : c_find_72_63_l34 = findL 6300 := by
  funext n
  induction n with
  | zero => rfl
  | succ n ih => funext i4 i5 σ; unfold c_find_72_63_l34 findL; rw [ih]
theorem f49 : c_find_72_49 = findG 4900 := by funext a b σ; unfold c_find_72_49 findG; rw [fl49]
theorem f50 : c_find_72_50 = findG 5000 := by funext a b σ; unfold c_find_72_50 findG; rw [fl50]
theorem f56 : c_find_72_56 = findG 5600 := by funext a b σ; unfold c_find_72_56 findG; rw [fl56]
theorem f57 : c_find_72_57 = findG 5700 := by funext a b σ; unfold c_find_72_57 findG; rw [fl57]
theorem f62 : c_find_72_62 = findG 6200 := by funext a b σ; unfold c_find_72_62 findG; rw [fl62]
theorem f63 : c_find_72_63 = findG 6300 := by funext a b σ; unfold c_find_72_63 findG; rw [fl63]
/-- the reads of a node -/
theorem rd_sign {σ : qC} {n : Nat} (hn : n < 624) : c_sign_48 (Int32.ofInt n) σ = σ.2 28 (9 * n) := tatI (by omega) (by omega)
theorem rd_rank {σ : qC} {n : Nat} (hn : n < 624) : c_rank_73 (Int32.ofInt n) σ = σ.2 28 (9 * n + 8) := tatI (by omega) (by omega)
theorem rd_right {σ : qC} {n : Nat} (hn : n < 624) : c_right_68 (Int32.ofInt n) σ = σ.2 28 (9 * n + 6) := tatI (by omega) (by omega)
theorem rd_kind {σ : qC} {n : Nat} (hn : n < 624) : c_kind_67 (Int32.ofInt n) σ = σ.2 28 (9 * n + 5) := tatI (by omega) (by omega)
theorem rd_follower {σ : qC} {n : Nat} (hn : n < 624) : c_follower_66 (Int32.ofInt n) σ = σ.2 28 (9 * n + 7) := tatI (by omega) (by omega)
theorem rd_arg {σ : qC} {n i : Nat} (hn : n < 624) (hi : i < 3) : c_argument_90 (Int32.ofInt n) (Int32.ofInt i) σ = σ.2 28 (9 * n + (2 + i)) := by
  unfold c_argument_90
  rw [zadd]
  exact tatI (by omega) (by omega)
theorem rd_arity {σ : qC} {n a : Nat} (hn : n < 624) (ha : a ≤ 3) (h : σ.2 28 (9 * n + 1) = Int32.ofInt a) : c_arity_82 (Int32.ofInt n) σ = Int32.ofInt a := by
  unfold c_arity_82 c_min_182
  rw [tatI (i := 9 * n + 1) (by omega) (by omega), h]
  by_cases h3 : a = 3
  · subst h3
    rfl
  · rw [if_neg (zltN (by omega) (by omega) (by omega) (by omega) (by omega))]
theorem fnd_non {k : Nat} {b : Bd} {T : Tr} (h : ¬ lab T < 0) : fnd k b T = T := by
  cases k with
  | zero => rfl
  | succ k => unfold fnd; rw [if_neg h]
theorem fnd_none {k : Nat} {b : Bd} {T : Tr} (h : lab T < 0) (hb : b (vnum T) = none) : fnd (k + 1) b T = T := by
  unfold fnd
  rw [if_pos h, hb]
theorem fnd_some {k : Nat} {b : Bd} {T U : Tr} (h : lab T < 0) (hb : b (vnum T) = some U) : fnd (k + 1) b T = fnd k b U := by
  conv => lhs; unfold fnd
  rw [if_pos h, hb]
def vnI (R : Tr) : Int := if lab R < 0 then (vnum R : Int) else -1
theorem findL_ok [Pg] {K : Nat} {nv : Nat} {b : Bd} (hnv : nv ≤ 20000) (ho : bOrd nv b) : ∀ (m n node env : Nat) (T : Tr) (σ : qC), RV (σ.2 28) (σ.2 36) nv b → CTx (σ.2 28) nv node env T → (lab T < 0 → vnum T < m) → m ≤ 20001 → m < n →
    σ.1 K = Int32.ofInt node → σ.1 (K + 1) = Int32.ofInt env → σ.1 (K + 2) = Int32.ofInt (-1) →
    ∃ σ', findL K n (σ.2 28 (9 * node + 8)) (Int32.ofInt ((m : Int) - 1)) σ = some σ' ∧ σ'.2 = σ.2 ∧ (∀ j, j ≠ K → j ≠ K + 1 → j ≠ K + 2 → σ'.1 j = σ.1 j) ∧
      ∃ node' env' : Nat, σ'.1 K = Int32.ofInt node' ∧ σ'.1 (K + 1) = Int32.ofInt env' ∧ σ'.1 (K + 2) = Int32.ofInt (vnI (fnd m b T)) ∧ CTx (σ.2 28) nv node' env' (fnd m b T) ∧ (lab (fnd m b T) < 0 → vnum (fnd m b T) < nv ∧ b (vnum (fnd m b T)) = none) := by
  intro m
  induction m with
  | zero =>
    intro n node env T σ hV hT hl hm hn k1 k2 k3
    have hT0 : ¬ lab T < 0 := fun h => by have := hl h; omega
    cases n with
    | zero => omega
    | succ n =>
      unfold findL
      rw [z0, if_pos (zltP (by omega) (by omega) (by omega) (by omega) (by omega))]
      refine ⟨σ, rfl, rfl, fun _ _ _ _ => rfl, node, env, k1, k2, ?_, hT, fun h => absurd h hT0⟩
      rw [k3]
      unfold vnI fnd
      rw [if_neg hT0]
  | succ m ih =>
    intro n node env T σ hV hT hl hm hn k1 k2 k3
    cases n with
    | zero => omega
    | succ n =>
      unfold findL
      rw [z0, if_neg (zltN (by omega) (by omega) (by omega) (by omega) (by omega))]
      obtain ⟨hnode, henv, a, ha, hab, s, hs, hsb, hk⟩ := hT.cases
      rcases hk with ⟨r, hr, hrb, e, hc⟩ | ⟨hrb, e1, e2, hargs⟩
      · subst e
        have h1 := hl (by rw [lab_var]; omega)
        rw [vnum_var] at h1
        rw [hrb, if_neg (zeqN (by omega) (by omega) (by omega) (by omega) (by omega)), k2, zadd]
        rw [tatI (i := 4 * (env + r)) (by omega) (by omega)]
        have hv := hV (env + r) hr
        have hlv : lab (trVar (env + r)) < 0 := by rw [lab_var]; omega
        cases hb : b (env + r) with
        | none =>
          rw [hb] at hv
          dsimp only at hv
          have ef : fnd (m + 1) b (trVar (env + r)) = trVar (env + r) := fnd_none hlv (by rw [vnum_var]; exact hb)
          rw [hv, if_pos rfl, ef]
          refine ⟨_, rfl, rfl, fun j _ _ h3 => by rw [upS_1, if_neg h3], node, env, ?_, ?_, ?_, hT, fun _ => ?_⟩
          · rw [upS_1, if_neg (by omega), k1]
          · rw [upS_1, if_neg (by omega), k2]
          · rw [upS_1, if_pos rfl]
            unfold vnI
            rw [if_pos (by rw [lab_var]; omega), vnum_var]
            rfl
          · rw [vnum_var]
            exact ⟨hr, hb⟩
        | some U =>
          rw [hb] at hv
          dsimp only at hv
          have ef : fnd (m + 1) b (trVar (env + r)) = fnd m b U := fnd_some hlv (by rw [vnum_var]; exact hb)
          obtain ⟨n1, env1, x1, x2, x3⟩ := hv
          obtain ⟨hn1, henv1, -⟩ := x3.cases
          rw [x1, if_neg (zeqN (by omega) (by omega) (by omega) (by omega) (by omega)), ef]
          dsimp only [qlet]
          rw [rd_rank hn1]
          have e36 : tat (upS σ K (Int32.ofInt (n1 : Int))) 36 4 (Int32.ofInt ((env : Int) + (r : Int))) (Int32.ofInt 1) = Int32.ofInt env1 := by
            rw [tatI (i := 4 * (env + r) + 1) (by omega) (by omega)]
            exact x2
          rw [e36, zadd]
          obtain ⟨σ', q1, q2, q3, q4⟩ := ih n n1 env1 U (upS (upS σ K (Int32.ofInt n1)) (K + 1) (Int32.ofInt env1)) hV x3 (fun h => by have := ho (env + r) hr U hb h; omega) (by omega) (by omega) (by rw [upS_1, if_neg (by omega), upS_1, if_pos rfl]) (by rw [upS_1, if_pos rfl]) (by rw [upS_1, if_neg (by omega), upS_1, if_neg (by omega), k3])
          refine ⟨σ', ?_, q2, fun j h1 h2 h3 => ?_, q4⟩
          · rw [← q1]
            congr 2
            omega
          · rw [q3 j h1 h2 h3, upS_1, if_neg h2, upS_1, if_neg h1]
      · rw [hrb, if_pos rfl]
        have h0 : ¬ lab T < 0 := by omega
        refine ⟨σ, rfl, rfl, fun _ _ _ _ => rfl, node, env, k1, k2, ?_, ?_, ?_⟩
        · rw [k3]
          unfold vnI
          rw [fnd_non h0, if_neg h0]
        · rw [fnd_non h0]
          exact hT
        · rw [fnd_non h0]
          exact fun h => absurd h h0
theorem findG_ok [Pg] {K nv node env : Nat} {b : Bd} {T : Tr} {σ : qC} (hK : K + 2 < 3602 ∨ 3602 < K) (hnv : nv ≤ 20000) (ho : bOrd nv b) (hV : RV (σ.2 28) (σ.2 36) nv b) (hN : σ.1 3602 = Int32.ofInt nv) (hT : CTx (σ.2 28) nv node env T) (hl : lab T < 0 → vnum T < nv + 1) :
    ∃ σ', findG K (Int32.ofInt node) (Int32.ofInt env) σ = some σ' ∧ σ'.2 = σ.2 ∧ (∀ j, j ≠ K → j ≠ K + 1 → j ≠ K + 2 → σ'.1 j = σ.1 j) ∧
      ∃ node' env' : Nat, σ'.1 K = Int32.ofInt node' ∧ σ'.1 (K + 1) = Int32.ofInt env' ∧ σ'.1 (K + 2) = Int32.ofInt (vnI (fnd (nv + 1) b T)) ∧ CTx (σ.2 28) nv node' env' (fnd (nv + 1) b T) ∧ (lab (fnd (nv + 1) b T) < 0 → vnum (fnd (nv + 1) b T) < nv ∧ b (vnum (fnd (nv + 1) b T)) = none) := by
  obtain ⟨hn, henv, -⟩ := hT.cases
  unfold findG
  dsimp only [qlet]
  rw [rd_rank hn]
  have e1 : (upS (upS (upS σ K (Int32.ofInt node)) (K + 1) (Int32.ofInt env)) (K + 2) (Int32.ofInt (-1))).1 3602 = Int32.ofInt nv := by
    rw [upS_1, if_neg (by omega), upS_1, if_neg (by omega), upS_1, if_neg (by omega), hN]
  rw [e1]
  obtain ⟨σ', q1, q2, q3, q4⟩ := findL_ok (K := K) hnv ho (nv + 1) qF node env T (upS (upS (upS σ K (Int32.ofInt node)) (K + 1) (Int32.ofInt env)) (K + 2) (Int32.ofInt (-1))) hV hT hl (by omega) (by unfold qF; omega)
    (by rw [upS_1, if_neg (by omega), upS_1, if_neg (by omega), upS_1, if_pos rfl]) (by rw [upS_1, if_neg (by omega), upS_1, if_pos rfl]) (by rw [upS_1, if_pos rfl])
  refine ⟨σ', ?_, q2, fun j h1 h2 h3 => ?_, q4⟩
  · rw [← q1]
    congr 2
    omega
  · rw [q3 j h1 h2 h3, upS_1, if_neg h3, upS_1, if_neg h2, upS_1, if_neg h1]
theorem CTx.vlt [Pg] {B : Nat → Int32} {nv n env : Nat} {T : Tr} (h : CTx B nv n env T) (hl : lab T < 0) : vnum T < nv := by
  obtain ⟨-, -, a, -, -, s, hs, -, hk⟩ := h.cases
  rcases hk with ⟨r, hr, -, rfl, -⟩ | ⟨-, e, -⟩
  · rw [vnum_var]
    exact hr
  · omega
