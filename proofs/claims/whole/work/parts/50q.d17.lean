/-! D17: the class finds a clause, makes variables, takes a clause -/
theorem page_ok {σ : qC} {i : Nat} (hi : i < 12) : c_page_26 (Int32.ofInt i) σ = σ.2 34 i := by
  unfold c_page_26
  rw [z0, if_neg (zltN (by omega) (by omega) (by omega) (by omega) (by omega)), znat, if_neg (zleN (by omega) (by omega) (by omega) (by omega) (by omega)), zcl (by omega) (by omega), Int.toNat_natCast]
theorem firstNode_ok (p : Nat) : c_firstNode_31 (Int32.ofInt p) = Int32.ofInt ((48 * p : Nat) : Int) := by
  unfold c_firstNode_31
  rw [zmul]
  congr 1
  omega
theorem firstGoal_ok {σ : qC} {p : Nat} (hp : p < 13) : c_firstGoal_62 (Int32.ofInt p) σ = σ.2 30 (4 * p + 1) := by
  unfold c_firstGoal_62
  exact tatI (by omega) (by omega)
theorem varsOf_ok {σ : qC} {p : Nat} (hp : p < 13) : c_variablesOf_60 (Int32.ofInt p) σ = c_bitCount_183 (σ.2 30 (4 * p)) := by
  unfold c_variablesOf_60
  rw [tatI (i := 4 * p) (by omega) (by omega)]
theorem nfit_eq {cls : List Cl} {X : Tr} {i : Nat} (h : fitA X (cls.getD i clNil) = true) (hi : i < cls.length) : nfit cls X i = i := by
  unfold nfit
  rw [List.drop_eq_getElem_cons hi, List.findIdx_cons]
  rw [List.getD_eq_getElem?_getD, List.getElem?_eq_getElem hi] at h
  simp only [Option.getD_some] at h
  rw [h]
  rfl
theorem nfit_ne {cls : List Cl} {X : Tr} {i : Nat} (h : fitA X (cls.getD i clNil) = false) (hi : i < cls.length) : nfit cls X i = nfit cls X (i + 1) := by
  unfold nfit
  rw [List.drop_eq_getElem_cons hi, List.findIdx_cons]
  rw [List.getD_eq_getElem?_getD, List.getElem?_eq_getElem hi] at h
  simp only [Option.getD_some] at h
  rw [h]
  simp only [cond_false]
  omega
theorem nfit_end {cls : List Cl} {X : Tr} {i : Nat} (hi : cls.length ≤ i) : nfit cls X i = i := by
  unfold nfit
  rw [List.drop_eq_nil_of_le hi]
  rfl
theorem nfit_ge {cls : List Cl} {X : Tr} {i : Nat} : i ≤ nfit cls X i := Nat.le_add_right _ _
/-- the number of the clause, or -1 -/
def fitI (cls : List Cl) (k : Nat) : Int := if cls.length ≤ k then -1 else (k : Int)
theorem findC_ok [Pg] {cls : List Cl} {nv n env : Nat} {X : Tr} {σ : qC} (hS : CStat σ cls) (hX : CTx (σ.2 28) nv n env X) (hl : ¬ lab X < 0) : ∀ (d i m : Nat), i + d = cls.length → d < m → c_find_80_l6 m (Int32.ofInt n) (Int32.ofInt i) σ = some (Int32.ofInt (fitI cls (nfit cls X i))) := by
  intro d
  obtain ⟨k1, k2, pg, k3⟩ := hS
  induction d with
  | zero =>
    intro i m hi hm
    cases m with
    | zero => omega
    | succ m =>
      unfold c_find_80_l6
      rw [k1, if_pos (zleP (by omega) (by omega) (by omega) (by omega) (by omega)), nfit_end (by omega)]
      unfold fitI
      rw [if_pos (by omega)]
  | succ d ih =>
    intro i m hi hm
    cases m with
    | zero => omega
    | succ m =>
      obtain ⟨p1, p2, p3⟩ := k3 i (by omega)
      unfold c_find_80_l6
      rw [k1, if_neg (zleN (by omega) (by omega) (by omega) (by omega) (by omega)), page_ok (by omega), p1, firstNode_ok]
      obtain ⟨h1, h2⟩ := p3 0 (clNv (cls.getD i clNil)) (by omega)
      obtain ⟨a1, -, a, a2, a3, s, a4, a5, a6⟩ := h1.cases
      obtain ⟨b1, -, b, b2, b3, s', b4, b5, b6⟩ := hX.cases
      rcases a6 with ⟨r, -, -, e, -⟩ | ⟨-, a7, a8, -⟩
      · exact absurd (by rw [e, lab_var]; omega) h2
      rcases b6 with ⟨r, -, -, e, -⟩ | ⟨-, b7, b8, -⟩
      · exact absurd (by rw [e, lab_var]; omega) hl
      rw [alike_ok a1 b1 a2 b2 a4 b4 a5 b5 a3 b3]
      have hfit : fitA X (cls.getD i clNil) = decide (s = s' ∧ a = b) := by
        unfold fitA
        rw [a7, a8, b7, b8]
        by_cases c1 : s = s' <;> by_cases c2 : a = b <;> simp [c1, c2]
      by_cases c : s = s' ∧ a = b
      · rw [if_pos c, if_neg (by decide), nfit_eq (by rw [hfit]; simpa using c) (by omega)]
        unfold fitI
        rw [if_neg (by omega)]
      · rw [if_neg c, if_pos (by rfl), nfit_ne (by rw [hfit]; simpa using c) (by omega), zadd]
        exact ih (i + 1) m (by omega) (by omega)
theorem find_ok [Pg] {cls : List Cl} {nv n env : Nat} {X : Tr} {σ : qC} (hS : CStat σ cls) (hX : CTx (σ.2 28) nv n env X) (hl : ¬ lab X < 0) (i : Nat) (hi : i ≤ cls.length) : c_find_80 (Int32.ofInt i) (Int32.ofInt n) σ = some (Int32.ofInt (fitI cls (nfit cls X i))) := by
  unfold c_find_80 c_max_181
  have := hS.2.1
  rw [if_neg (zltN (by omega) (by omega) (by omega) (by omega) (by omega))]
  exact findC_ok hS hX hl (cls.length - i) i qF (by omega) (by unfold qF; omega)
/-- new variables -/
theorem makeVarsL_ok {W : Wc} {t : List Ec} {ns na k env : Nat} (hk : k ≤ 26) : ∀ (d i n nv : Nat) (σ : qC), i + d = k → d < n → CW σ W t nv ns na → (∀ v, nv ≤ v → W.1 v = none ∧ W.2.1 v = -1 ∧ W.2.2.1 v = -1) → nv + d ≤ 20000 → (∃ bn : Int, σ.1 3505 = Int32.ofInt bn) →
    ∃ σ', c_makeVariables_59_l20 n (Int32.ofInt env) (Int32.ofInt k) (Int32.ofInt i) σ = some (Int32.ofInt env, σ') ∧ CW σ' W t (nv + d) ns na ∧ σ'.1 3505 = σ.1 3505 + Int32.ofInt k ∧ (∀ j, j ≠ 36 → σ'.2 j = σ.2 j) ∧ (∀ j, j ≠ 3602 → j ≠ 3505 → σ'.1 j = σ.1 j) := by
  intro d
  induction d with
  | zero =>
    intro i n nv σ hi hn hC hc hb h3
    cases n with
    | zero => omega
    | succ n =>
      unfold c_makeVariables_59_l20
      rw [if_pos (zleP (by omega) (by omega) (by omega) (by omega) (by omega))]
      dsimp only [qlet]
      refine ⟨_, rfl, hC.congr rfl rfl rfl rfl ?_ ?_ ?_ ?_, by rw [upS_1, if_pos rfl], fun _ _ => rfl, fun j _ h => by rw [upS_1, if_neg h]⟩
      all_goals rw [upS_1, if_neg (by omega)]
  | succ d ih =>
    intro i n nv σ hi hn hC hc hb h3
    cases n with
    | zero => omega
    | succ n =>
      obtain ⟨h1, h2, h4, ⟨k1, k2, k3, k4⟩, h5, h6⟩ := hC
      unfold c_makeVariables_59_l20
      rw [if_neg (zleN (by omega) (by omega) (by omega) (by omega) (by omega)), tappI (n := nv) k1 (by omega) (by omega), Option.bind_some, zadd]
      obtain ⟨σ1, hσ1⟩ : ∃ σ1, σ1 = upS (tap4 σ 36 (nv * 4) (Int32.ofInt (-1)) (Int32.ofInt (-1)) (Int32.ofInt (-1)) (Int32.ofInt (-1))) (100 * 36 + 2) (Int32.ofInt ((nv : Int) + 1)) := ⟨_, rfl⟩
      rw [← hσ1]
      have e1 : ∀ j, j ≠ 3602 → σ1.1 j = σ.1 j := fun j hj => by rw [hσ1, upS_1, if_neg (by omega)]; rfl
      have e2 : ∀ j, j ≠ 36 → σ1.2 j = σ.2 j := fun j hj => by rw [hσ1, upS_2, tap4_2, if_neg hj]
      have e36 : σ1.2 36 = fup (fup (fup (fup (σ.2 36) (nv * 4) (Int32.ofInt (-1))) (nv * 4 + 1) (Int32.ofInt (-1))) (nv * 4 + 2) (Int32.ofInt (-1))) (nv * 4 + 3) (Int32.ofInt (-1)) := by rw [hσ1, upS_2, tap4_2, if_pos rfl]
      have hC1 : CW σ1 W t (nv + 1) ns na := by
        refine ⟨fun v hv => ?_, by rw [e2 _ (by omega)]; exact h2, by rw [e2 _ (by omega)]; exact h4, ⟨?_, by rw [e1 _ (by omega), k2], by rw [e1 _ (by omega), k3], by rw [e1 _ (by omega), k4]⟩, by rw [e2 _ (by omega)]; exact h5, by omega⟩
        · rw [e36]
          by_cases hvn : v < nv
          · have q := h1 v hvn
            rw [fup_at, if_neg (by omega), fup_at, if_neg (by omega), fup_at, if_neg (by omega), fup_at, if_neg (by omega)]
            rw [fup_at, if_neg (by omega), fup_at, if_neg (by omega), fup_at, if_neg (by omega), fup_at, if_neg (by omega)]
            rw [fup_at, if_neg (by omega), fup_at, if_neg (by omega), fup_at, if_neg (by omega), fup_at, if_neg (by omega)]
            rw [fup_at, if_neg (by omega), fup_at, if_neg (by omega), fup_at, if_neg (by omega), fup_at, if_neg (by omega)]
            exact q
          · have : v = nv := by omega
            subst this
            obtain ⟨c1, c2, c3⟩ := hc v (by omega)
            rw [c1, c2, c3]
            refine ⟨?_, ?_, ?_⟩
            · dsimp only
              rw [fup_at, if_neg (by omega), fup_at, if_neg (by omega), fup_at, if_neg (by omega), fup_at, if_pos (by omega)]
            · rw [fup_at, if_neg (by omega), fup_at, if_pos (by omega)]
            · rw [fup_at, if_pos (by omega)]
        · rw [hσ1, upS_1, if_pos (by omega)]
          rfl
      obtain ⟨σ', p1, p2, p3, p4, p5⟩ := ih (i + 1) n (nv + 1) σ1 (by omega) (by omega) hC1 (fun v hv => hc v (by omega)) (by omega) (by rw [e1 _ (by omega)]; exact h3)
      refine ⟨σ', p1, ?_, by rw [p3, e1 _ (by omega)], fun j hj => by rw [p4 j hj, e2 j hj], fun j a b => by rw [p5 j a b, e1 j a]⟩
      rw [show nv + (d + 1) = nv + 1 + d by omega]
      exact p2
/-- nothing stands beyond the variables -/
theorem WU.out [Pg] {B : Nat → Int32} {nv ns v : Nat} {W : Wc} {u : Us} (h : WU B nv W u) (hS : SlOK nv ns u) (hv : nv ≤ v) : (W.1 v = none ∧ W.2.1 v = -1 ∧ W.2.2.1 v = -1) ∧ u.1 v = none ∧ u.2.1 v = -1 ∧ u.2.2.1 v = -1 ∧ u.2.2.2.2.1 v = [] := by
  have h1 := h.1 v
  have hu : u.1 v = none := by
    cases hu : u.1 v with
    | none => rfl
    | some T =>
      rw [hu] at h1
      cases hw : W.1 v with
      | none => rw [hw] at h1; exact h1.elim
      | some q =>
        rw [hw] at h1
        have := h1.1
        omega
  have hs := (hS.2.1 v).2.2.1 hv
  obtain ⟨c1, c2⟩ := hS.1 v hu
  rw [hs] at c1 c2
  have c1 : u.2.1 v = -1 := c1
  have c2 : u.2.2.1 v = -1 := c2
  exact ⟨⟨h.nn hu, by rw [h.2.1, c1], by rw [h.2.2.1, c2]⟩, hu, c1, c2, hs⟩
theorem uNew_id [Pg] {B : Nat → Int32} {nv ns : Nat} {W : Wc} {u : Us} (h : WU B nv W u) (hS : SlOK nv ns u) : uNew u nv = u := by
  obtain ⟨b, hd, tl, nx, sl, wk⟩ := u
  unfold uNew
  dsimp only
  have e1 : (fun v => if nv ≤ v then none else b v) = b := by
    funext v
    split
    · rename_i hv
      exact (h.out hS hv).2.1.symm
    · rfl
  have e2 : (fun v => if nv ≤ v then -1 else hd v) = hd := by
    funext v
    split
    · rename_i hv
      exact (h.out hS hv).2.2.1.symm
    · rfl
  have e3 : (fun v => if nv ≤ v then -1 else tl v) = tl := by
    funext v
    split
    · rename_i hv
      exact (h.out hS hv).2.2.2.1.symm
    · rfl
  have e4 : (fun v => if nv ≤ v then [] else sl v) = sl := by
    funext v
    split
    · rename_i hv
      exact (h.out hS hv).2.2.2.2.symm
    · rfl
  rw [e1, e2, e3, e4]
theorem pot_ext {sl : Nat → List Nat} {nv : Nat} (h : ∀ v, nv ≤ v → sl v = []) : ∀ k, pot (nv + k) sl = pot nv sl
  | 0 => rfl
  | k + 1 => by
    have := pot_ext h k
    unfold pot at this ⊢
    show psum (fun v => (sl v).length) (nv + k) + (sl (nv + k)).length = _
    rw [this, h (nv + k) (by omega)]
    rfl
theorem SlOK.more {nv nv' ns : Nat} {u : Us} (h : SlOK nv ns u) (hn : nv ≤ nv') : SlOK nv' ns u := by
  obtain ⟨s1, s2, s3, s4⟩ := h
  exact ⟨s1, fun v => ⟨(s2 v).1, (s2 v).2.1, fun z => (s2 v).2.2.1 (by omega), (s2 v).2.2.2⟩, s3, s4⟩
theorem WU.more [Pg] {B : Nat → Int32} {nv nv' : Nat} {W : Wc} {u : Us} (h : WU B nv W u) (hn : nv ≤ nv') : WU B nv' W u := by
  refine ⟨fun v => ?_, h.2⟩
  have h1 := h.1 v
  cases hw : W.1 v with
  | none =>
    cases hu : u.1 v with
    | none => trivial
    | some T => rw [hw, hu] at h1; exact h1.elim
  | some q =>
    cases hu : u.1 v with
    | none => rw [hw, hu] at h1; exact h1.elim
    | some T =>
      rw [hw, hu] at h1
      exact ⟨by have := h1.1; omega, h1.2.mono hn⟩
theorem RP.more [Pg] {B X : Nat → Int32} {nv nv' : Nat} (hn : nv ≤ nv') : ∀ {ps : List (Tr × Tr)}, RP B X nv ps → RP B X nv' ps
  | [], _ => trivial
  | _ :: _, ⟨⟨n, e, m, f, h1, h2, h3, h4, h5, h6⟩, h7⟩ => ⟨⟨n, e, m, f, h1, h2, h3, h4, h5.mono hn, h6.mono hn⟩, RP.more hn h7⟩
/-- the body's goals stand in front -/
theorem RGl.goals [Pg] {B C : Nat → Int32} {p env nv nc lvl : Nat} {cl : Cl} {rest : List Go} {bh : Int} (hn : env + clNv cl ≤ nv) (hr : RTd B C nv nc rest bh) : ∀ {gs : List (Nat × Nat × Nat)} {x : Int32}, RGl B p cl gs x → gs ≠ [] → ∃ n : Nat, x = Int32.ofInt n ∧ n < 624 ∧ RG B C nv nc (gs.map (fun g => (g.1, clT cl env g.2.1, clT cl env g.2.2, lvl)) ++ rest) n env lvl bh
  | [], _, _, h => absurd rfl h
  | g :: r, x, ⟨h1, h2, h3⟩, _ => by
    have hg := h2 env nv lvl hn
    refine ⟨48 * p + g.2.1, h1, hg.1, hg, ?_⟩
    cases r with
    | nil =>
      refine Or.inl ⟨h3, ?_⟩
      rcases hr with z | ⟨c, n', env', lvl', bh', z⟩
      · exact Or.inl z
      · exact Or.inr ⟨c, n', env', lvl', bh', z⟩
    | cons g' r' =>
      obtain ⟨n', e1, -, e2⟩ := RGl.goals hn hr h3 (by simp)
      exact Or.inr ⟨n', e1, e2⟩
