/-! D13: the class's state in the search -/
/-- a sleeper's row -/
def RS1 [Pg] (σ : qC) (nv e : Nat) (T : Tr) : Prop := ∃ n env : Nat, (n < 624 ∧ pgv n) ∧ σ.2 38 (4 * e) = Int32.ofInt n ∧ σ.2 38 (4 * e + 1) = Int32.ofInt env ∧ CTx (σ.2 28) nv n env T ∧ σ.2 28 (9 * n + 5) = Int32.ofInt 40 ∧ σ.2 28 (9 * n + 7) = Int32.ofInt (-1)
theorem RS1.congr [Pg] {σ σ' : qC} {nv nv' e : Nat} {T : Tr} (h : RS1 σ nv e T) (hn : nv ≤ nv') (h28 : σ'.2 28 = σ.2 28) (h0 : σ'.2 38 (4 * e) = σ.2 38 (4 * e)) (h1 : σ'.2 38 (4 * e + 1) = σ.2 38 (4 * e + 1)) : RS1 σ' nv' e T := by
  obtain ⟨n, env, h2, h3, h4, h5, h6, h7⟩ := h
  exact ⟨n, env, h2, by rw [h0, h3], by rw [h1, h4], by rw [h28]; exact h5.mono hn, by rw [h28, h6], by rw [h28, h7]⟩
def kch (k : Nat) : Int := if k = 0 then 33 else if k = 1 then 40 else if k = 2 then 61 else if k = 3 then 126 else if k = 4 then 60 else 63
/-- a goal at its node -/
def RG1 [Pg] (B : Nat → Int32) (nv n env lvl : Nat) (g : Go) : Prop := n < 624 ∧ env ≤ nv ∧ (g.1 ≤ 5 ∧ pgv n) ∧ g.2.2.2 = lvl ∧ B (9 * n + 5) = Int32.ofInt (kch g.1) ∧ (g.1 ≠ 0 → CTx B nv n env g.2.1) ∧ (2 ≤ g.1 → ∃ m : Nat, B (9 * n + 6) = Int32.ofInt m ∧ CTx B nv m env g.2.2.1 ∧ (g.1 = 5 → B (9 * m + 5) = Int32.ofInt 40 ∧ B (9 * m + 7) = Int32.ofInt (-1) ∧ pgv m))
theorem RG1.mono [Pg] {B : Nat → Int32} {nv nv' n env lvl : Nat} {g : Go} (h : RG1 B nv n env lvl g) (hn : nv ≤ nv') : RG1 B nv' n env lvl g := by
  obtain ⟨h1, h2, h3, h4, h5, h6, h7⟩ := h
  refine ⟨h1, by omega, h3, h4, h5, fun z => (h6 z).mono hn, fun z => ?_⟩
  obtain ⟨m, a, b, c⟩ := h7 z
  exact ⟨m, a, b.mono hn, c⟩
/-- goals to do from a node on, then from a cell on -/
def RG [Pg] (B C : Nat → Int32) (nv nc : Nat) : List Go → Nat → Nat → Nat → Int → Prop
  | [], _, _, _, _ => False
  | g :: r, n, env, lvl, bh => RG1 B nv n env lvl g ∧ ((B (9 * n + 7) = Int32.ofInt (-1) ∧ ((r = [] ∧ bh = -1) ∨ ∃ c n' env' lvl' : Nat, ∃ bh' : Int, bh = (c : Int) ∧ c < nc ∧ C (4 * c) = Int32.ofInt n' ∧ C (4 * c + 1) = Int32.ofInt env' ∧ C (4 * c + 2) = Int32.ofInt lvl' ∧ C (4 * c + 3) = Int32.ofInt bh' ∧ (-1 ≤ bh' ∧ bh' < nc) ∧ lvl' ≤ 20000 ∧ RG B C nv nc r n' env' lvl' bh')) ∨ (∃ n' : Nat, B (9 * n + 7) = Int32.ofInt n' ∧ RG B C nv nc r n' env lvl bh))
def RTd [Pg] (B C : Nat → Int32) (nv nc : Nat) (l : List Go) (bh : Int) : Prop := (l = [] ∧ bh = -1) ∨ ∃ c n env lvl : Nat, ∃ bh' : Int, bh = (c : Int) ∧ c < nc ∧ C (4 * c) = Int32.ofInt n ∧ C (4 * c + 1) = Int32.ofInt env ∧ C (4 * c + 2) = Int32.ofInt lvl ∧ C (4 * c + 3) = Int32.ofInt bh' ∧ (-1 ≤ bh' ∧ bh' < nc) ∧ lvl ≤ 20000 ∧ RG B C nv nc l n env lvl bh'
theorem RG.mono [Pg] {B C C' : Nat → Int32} {nv nv' nc nc' : Nat} (hn : nv ≤ nv') (hc : nc ≤ nc') (hC : ∀ i, i < 4 * nc → C' i = C i) : ∀ {l : List Go} {n env lvl : Nat} {bh : Int}, RG B C nv nc l n env lvl bh → RG B C' nv' nc' l n env lvl bh
  | [], _, _, _, _, h => h
  | g :: r, n, env, lvl, bh, h => by
    obtain ⟨h1, h2⟩ := h
    refine ⟨h1.mono hn, ?_⟩
    rcases h2 with ⟨a, b⟩ | ⟨n', a, b⟩
    · refine Or.inl ⟨a, ?_⟩
      rcases b with b | ⟨c, n', env', lvl', bh', b1, b2, b3, b4, b5, b6, b7, b8, b9⟩
      · exact Or.inl b
      · exact Or.inr ⟨c, n', env', lvl', bh', b1, by omega, by rw [hC _ (by omega), b3], by rw [hC _ (by omega), b4], by rw [hC _ (by omega), b5], by rw [hC _ (by omega), b6], by omega, b8, RG.mono hn hc hC b9⟩
    · exact Or.inr ⟨n', a, RG.mono hn hc hC b⟩
theorem RTd.mono [Pg] {B C C' : Nat → Int32} {nv nv' nc nc' : Nat} {l : List Go} {bh : Int} (h : RTd B C nv nc l bh) (hn : nv ≤ nv') (hc : nc ≤ nc') (hC : ∀ i, i < 4 * nc → C' i = C i) : RTd B C' nv' nc' l bh := by
  rcases h with b | ⟨c, n', env', lvl', bh', b1, b2, b3, b4, b5, b6, b7, b8, b9⟩
  · exact Or.inl b
  · exact Or.inr ⟨c, n', env', lvl', bh', b1, by omega, by rw [hC _ (by omega), b3], by rw [hC _ (by omega), b4], by rw [hC _ (by omega), b5], by rw [hC _ (by omega), b6], by omega, b8, RG.mono hn hc hC b9⟩
theorem RTd.lt [Pg] {B C : Nat → Int32} {nv nc : Nat} {l : List Go} {bh : Int} (h : RTd B C nv nc l bh) : -1 ≤ bh ∧ bh < nc := by
  rcases h with ⟨-, b⟩ | ⟨c, n', env', lvl', bh', b1, b2, -⟩ <;> omega
/-- the store at W, t -/
def SR [Pg] (σ : qC) (W : Wc) (t : List Ec) (na : Nat) (st : Sto) : Prop :=
  WU (σ.2 28) st.1 W st.2.1 ∧ EV t st.1 st.2.2.1 na ∧ bOrd st.1 st.2.1.1 ∧ SlOK st.1 st.2.2.1 st.2.1 ∧ st.2.1.2.2.2.2.2 = [] ∧ wa01 W ∧ (∀ a, na ≤ a → W.2.2.2.2 a = 1) ∧
  (∀ e, e < st.2.2.1 → RS1 σ st.1 e (st.2.2.2.1 e)) ∧ (∃ L R : Nat → Tr, (∀ a, a < na → RA1 σ st.1 a (L a) (R a)) ∧ st.2.2.2.2 = apF W.2.2.2.2 L R na 0)
theorem SR.congr [Pg] {σ σ' : qC} {W : Wc} {t : List Ec} {na : Nat} {st : Sto} (h : SR σ W t na st) (h28 : σ'.2 28 = σ.2 28) (h38 : ∀ k, k < 4 * st.2.2.1 → k % 4 ≠ 2 → σ'.2 38 k = σ.2 38 k) (h40 : ∀ k, k < 4 * na → k % 4 ≠ 2 → σ'.2 40 k = σ.2 40 k) : SR σ' W t na st := by
  obtain ⟨a1, a2, a3, a4, a5, a6, a7, a8, L, R, a9, a10⟩ := h
  refine ⟨by rw [h28]; exact a1, a2, a3, a4, a5, a6, a7, fun e he => (a8 e he).congr (Nat.le_refl _) h28 (h38 _ (by omega) (by omega)) (h38 _ (by omega) (by omega)), L, R, fun a ha => (a9 a ha).congr (Nat.le_refl _) h28 (h40 _ (by omega) (by omega)) (h40 _ (by omega) (by omega)), a10⟩
/-- room: before a clause is taken -/
def Bd1 (s na nc : Nat) (t : List Ec) (st : Sto) : Prop := st.1 ≤ 26 * s ∧ nc + pot st.1 st.2.1.2.2.2.2.1 ≤ 4 * s + 1 ∧ st.2.2.1 ≤ s ∧ na ≤ s ∧ t.length ≤ 3 * s
def Bd0 (s na nc : Nat) (t : List Ec) (st : Sto) : Prop := st.1 ≤ 26 * (s + 1) ∧ nc + pot st.1 st.2.1.2.2.2.2.1 ≤ 4 * (s + 1) ∧ st.2.2.1 ≤ s ∧ na ≤ s ∧ t.length ≤ 3 * s
/-- the choices, the newest first; s: steps; then how much there is now -/
def SnC [Pg] (σ : qC) (s : Nat) : List Ch → Wc → List Ec → Nat → Nat → Nat → Nat → Prop
  | [], _, _, _, _, _, _ => True
  | (X, c, rest, st) :: ch, W, t, nv, ns, na, nc => ∃ (es r : List Ec) (n env na1 nc1 : Nat) (td : Int), t = es ++ r ∧ SR σ (unL es W) r na1 st ∧ Bd1 s na1 nc1 r st ∧ c < 12 ∧
      (σ.2 54 (9 * ch.length) = Int32.ofInt n ∧ σ.2 54 (9 * ch.length + 1) = Int32.ofInt env ∧ σ.2 54 (9 * ch.length + 2) = Int32.ofInt c ∧ σ.2 54 (9 * ch.length + 3) = Int32.ofInt td ∧ σ.2 54 (9 * ch.length + 4) = Int32.ofInt r.length ∧ σ.2 54 (9 * ch.length + 5) = Int32.ofInt st.1 ∧ σ.2 54 (9 * ch.length + 6) = Int32.ofInt st.2.2.1 ∧ σ.2 54 (9 * ch.length + 7) = Int32.ofInt na1 ∧ σ.2 54 (9 * ch.length + 8) = Int32.ofInt nc1) ∧
      CTx (σ.2 28) st.1 n env X ∧ ¬ lab X < 0 ∧ RTd (σ.2 28) (σ.2 52) st.1 nc1 rest td ∧ (st.1 ≤ nv ∧ st.2.2.1 ≤ ns ∧ na1 ≤ na ∧ nc1 ≤ nc) ∧ SnC σ s ch (unL es W) r st.1 st.2.2.1 na1 nc1
theorem SnC.und [Pg] {σ : qC} {s : Nat} {ch : List Ch} {W W' : Wc} {t t' : List Ec} {nv ns na nc : Nat} (h : SnC σ s ch W t nv ns na nc) (hu : Und W t W' t') : SnC σ s ch W' t' nv ns na nc := by
  cases ch with
  | nil => trivial
  | cons a ch =>
    obtain ⟨X, c, rest, st⟩ := a
    obtain ⟨es, r, n, env, na1, nc1, td, h1, h2⟩ := h
    obtain ⟨fs, f1, f2⟩ := hu
    refine ⟨fs ++ es, r, n, env, na1, nc1, td, by rw [f1, h1, List.append_assoc], ?_⟩
    rw [unL_app, f2]
    exact h2
theorem SnC.mono [Pg] {σ : qC} {s s' : Nat} : ∀ {ch : List Ch} {W : Wc} {t : List Ec} {nv ns na nc nv' ns' na' nc' : Nat}, SnC σ s ch W t nv ns na nc → s ≤ s' → nv ≤ nv' → ns ≤ ns' → na ≤ na' → nc ≤ nc' → SnC σ s' ch W t nv' ns' na' nc'
  | [], _, _, _, _, _, _, _, _, _, _, _, _, _, _, _, _ => trivial
  | (X, c, rest, st) :: ch, W, t, nv, ns, na, nc, nv', ns', na', nc', h, a1, a2, a3, a4, a5 => by
    obtain ⟨es, r, n, env, na1, nc1, td, h1, h2, h3, h4, h5, h6, h7, h8, h9, h10⟩ := h
    obtain ⟨b1, b2, b3, b4, b5⟩ := h3
    exact ⟨es, r, n, env, na1, nc1, td, h1, h2, ⟨by omega, by omega, by omega, by omega, by omega⟩, h4, h5, h6, h7, h8, by omega, SnC.mono h10 a1 (Nat.le_refl _) (Nat.le_refl _) (Nat.le_refl _) (Nat.le_refl _)⟩
theorem SnC.congr [Pg] {σ σ' : qC} {s : Nat} (h28 : σ'.2 28 = σ.2 28) : ∀ {ch : List Ch} {W : Wc} {t : List Ec} {nv ns na nc : Nat}, SnC σ s ch W t nv ns na nc → (∀ k, k < 4 * ns → k % 4 ≠ 2 → σ'.2 38 k = σ.2 38 k) → (∀ k, k < 4 * na → k % 4 ≠ 2 → σ'.2 40 k = σ.2 40 k) → (∀ k, k < 4 * nc → σ'.2 52 k = σ.2 52 k) → (∀ k, k < 9 * ch.length → σ'.2 54 k = σ.2 54 k) → SnC σ' s ch W t nv ns na nc
  | [], _, _, _, _, _, _, _, _, _, _, _ => trivial
  | (X, c, rest, st) :: ch, W, t, nv, ns, na, nc, h, g38, g40, g52, g54 => by
    obtain ⟨es, r, n, env, na1, nc1, td, h1, h2, h3, h4, ⟨r0, r1, r2, r3, r4, r5, r6, r7, r8⟩, h6, h7, h8, h9, h10⟩ := h
    rw [List.length_cons] at g54
    refine ⟨es, r, n, env, na1, nc1, td, h1, h2.congr h28 (fun k a b => g38 k (by omega) b) (fun k a b => g40 k (by omega) b), h3, h4, ⟨by rw [g54 _ (by omega), r0], by rw [g54 _ (by omega), r1], by rw [g54 _ (by omega), r2], by rw [g54 _ (by omega), r3], by rw [g54 _ (by omega), r4], by rw [g54 _ (by omega), r5], by rw [g54 _ (by omega), r6], by rw [g54 _ (by omega), r7], by rw [g54 _ (by omega), r8]⟩, by rw [h28]; exact h6, h7, ?_, h9, ?_⟩
    · rw [h28]
      exact h8.mono (Nat.le_refl _) (Nat.le_refl _) (fun i hi => g52 i (by omega))
    · exact SnC.congr h28 h10 (fun k a b => g38 k (by omega) b) (fun k a b => g40 k (by omega) b) (fun k a => g52 k (by omega)) (fun k a => g54 k (by omega))
/-- the goals of a text on its page -/
def RGl [Pg] (B : Nat → Int32) (p : Nat) (cl : Cl) : List (Nat × Nat × Nat) → Int32 → Prop
  | [], x => x = Int32.ofInt (-1)
  | g :: r, x => x = Int32.ofInt ((48 * p + g.2.1 : Nat) : Int) ∧ (∀ env nv lvl : Nat, env + clNv cl ≤ nv → RG1 B nv (48 * p + g.2.1) env lvl (g.1, clT cl env g.2.1, clT cl env g.2.2, lvl)) ∧ RGl B p cl r (B (9 * (48 * p + g.2.1) + 7))
def RCl [Pg] (B P : Nat → Int32) (p : Nat) (cl : Cl) : Prop := p < 13 ∧ clNv cl ≤ 26 ∧ c_bitCount_183 (P (4 * p)) = Int32.ofInt (clNv cl) ∧ RGl B p cl cl.2.2 (P (4 * p + 1))
def RHd [Pg] (B : Nat → Int32) (p : Nat) (cl : Cl) : Prop := ∀ env nv : Nat, env + clNv cl ≤ nv → CTx B nv (48 * p) env (clT cl env 0) ∧ ¬ lab (clT cl env 0) < 0
def CStat [Pg] (σ : qC) (cls : List Cl) : Prop := σ.1 3302 = Int32.ofInt cls.length ∧ cls.length ≤ 12 ∧ ∃ pg : Nat → Nat, ∀ i, i < cls.length → σ.2 34 i = Int32.ofInt (pg i) ∧ RCl (σ.2 28) (σ.2 30) (pg i) (cls.getD i clNil) ∧ RHd (σ.2 28) (pg i) (cls.getD i clNil)
theorem CStat.congr [Pg] {σ σ' : qC} {cls : List Cl} (h : CStat σ cls) (h28 : σ'.2 28 = σ.2 28) (h30 : σ'.2 30 = σ.2 30) (h34 : σ'.2 34 = σ.2 34) (h1 : σ'.1 3302 = σ.1 3302) : CStat σ' cls := by
  unfold CStat
  rw [h28, h30, h34, h1]
  exact h
/-- the class in the search: static; store; room; counts; pairs; to do; choices -/
def CB [Pg] (σ : qC) (cls : List Cl) (s bn : Nat) (st : Sto) (td : List Go) (ch : List Ch) (W : Wc) (t : List Ec) (na nc : Nat) (ps : List (Tr × Tr)) : Prop :=
  CStat σ cls ∧ CW σ W t st.1 st.2.2.1 na ∧ SR σ W t na st ∧ Bd0 s na nc t st ∧ (σ.1 4406 = Int32.ofInt s ∧ σ.1 3505 = Int32.ofInt bn ∧ σ.1 4502 = Int32.ofInt ps.length ∧ σ.1 5202 = Int32.ofInt nc ∧ σ.1 5402 = Int32.ofInt ch.length ∧ ∃ w : Nat, σ.1 4702 = Int32.ofInt w ∧ w ≤ 20000) ∧ RP (σ.2 28) (σ.2 45) st.1 ps ∧ (∃ x : Int, σ.1 5108 = Int32.ofInt x ∧ RTd (σ.2 28) (σ.2 52) st.1 nc td x) ∧ SnC σ s ch W t st.1 st.2.2.1 na nc ∧ s ≤ 500 ∧ ch.length ≤ s
def CS [Pg] (σ : qC) (cls : List Cl) (m : Ma) : Prop := ∃ W t na nc, CB σ cls m.1 m.2.1 m.2.2.1 m.2.2.2.1 m.2.2.2.2 W t na nc []
/-- it failed: what is left -/
def CFl [Pg] (σ : qC) (cls : List Cl) (s bn : Nat) (ch : List Ch) : Prop := ∃ (W : Wc) (t : List Ec) (nv ns na nc : Nat), CStat σ cls ∧ CW σ W t nv ns na ∧ EV t nv ns na ∧ (σ.1 4406 = Int32.ofInt s ∧ σ.1 3505 = Int32.ofInt bn ∧ σ.1 4502 = Int32.ofInt 0 ∧ σ.1 5202 = Int32.ofInt nc ∧ σ.1 5402 = Int32.ofInt ch.length ∧ ∃ w : Nat, σ.1 4702 = Int32.ofInt w ∧ w ≤ 20000) ∧ nc ≤ 20000 ∧ SnC σ s ch W t nv ns na nc ∧ s ≤ 500 ∧ ch.length ≤ s
theorem uni_bd {nv : Nat} {stir : Bool} : ∀ (f s : Nat) (u : Us) (bd : Bool) (ps : List (Tr × Tr)), (uni nv stir f s u bd ps).2.2.2 = false → bd = false ∧ (uni nv stir f s u bd ps).2.2.1 = u := by
  intro f
  induction f with
  | zero => intro s u bd ps h; exact ⟨h, rfl⟩
  | succ f ih =>
    intro s u bd ps h
    cases ps with
    | nil => exact ⟨h, rfl⟩
    | cons p r =>
      obtain ⟨x, y⟩ := p
      by_cases h5 : 500 ≤ s
      · have e : uni nv stir (f + 1) s u bd ((x, y) :: r) = (2, s, u, bd) := by
          unfold uni
          rw [if_pos h5]
        rw [e] at h ⊢
        exact ⟨h, rfl⟩
      · cases h1 : uni1 stir u bd (fnd (nv + 1) u.1 x) (fnd (nv + 1) u.1 y) with
        | none =>
          rw [uni_none h5 h1] at h ⊢
          exact ⟨h, rfl⟩
        | some q =>
          obtain ⟨u', bd', ps'⟩ := q
          rw [uni_some h5 h1] at h ⊢
          obtain ⟨e1, e2⟩ := ih _ _ _ _ h
          subst e1
          have e3 : u' = u ∧ bd = false := by
            unfold uni1 at h1
            repeat' split at h1
            all_goals first
              | (simp only [Option.some.injEq, Prod.mk.injEq] at h1; exact ⟨h1.1.symm, h1.2.1⟩)
              | (simp at h1; done)
          exact ⟨e3.2, by rw [e2, e3.1]⟩
