/-! D65: what changes outside the nodes in use does not matter -/
/-- from the nodes in use U, memory B, to U', B' -/
def PM (U U' : Pg) (B B' : Nat → Int32) : Prop := (∀ n, @pgu U n → @pgu U' n ∧ (∀ c, c ≤ 4 ∨ c = 8 → B' (9 * n + c) = B (9 * n + c))) ∧ (∀ n, @pgv U n → @pgv U' n ∧ (∀ c, 5 ≤ c ∧ c ≤ 7 → B' (9 * n + c) = B (9 * n + c)))
theorem CT.map {U U' : Pg} {B B' : Nat → Int32} (hm : PM U U' B B') {nvp : Nat} : ∀ {k n env : Nat} {T : Tr}, @CT U B nvp k n env T → @CT U' B' nvp k n env T
  | 0, _, _, _, h => h
  | k + 1, n, env, T, ⟨h1, a, h2, h3, s, ⟨h4, h4', h5⟩, h6, h7⟩ => by
    obtain ⟨m1, m2⟩ := hm.1 n h5
    have e0 := m2 0 (by omega)
    have e1 := m2 1 (by omega)
    have e8 := m2 8 (by omega)
    refine ⟨h1, a, h2, by rw [e1, h3], s, ⟨h4, h4', m1⟩, by rw [show 9 * n = 9 * n + 0 from rfl, e0]; exact h6, ?_⟩
    rcases h7 with ⟨r, r1, r2, r3⟩ | ⟨r1, r2, r3⟩
    · exact Or.inl ⟨r, r1, by rw [e8, r2], r3⟩
    · refine Or.inr ⟨by rw [e8, r1], r2, fun i hi => ?_⟩
      obtain ⟨m, x1, x2⟩ := r3 i hi
      exact ⟨m, by rw [m2 (2 + i) (by omega), x1], CT.map hm x2⟩
theorem CTx.map {U U' : Pg} {B B' : Nat → Int32} (hm : PM U U' B B') {nv n env : Nat} {T : Tr} (h : @CTx U B nv n env T) : @CTx U' B' nv n env T := by
  obtain ⟨nvp, k, h1, h2⟩ := h
  exact ⟨nvp, k, h1, CT.map hm h2⟩
theorem RG1.map {U U' : Pg} {B B' : Nat → Int32} (hm : PM U U' B B') {nv n env lvl : Nat} {g : Go} (h : @RG1 U B nv n env lvl g) : @RG1 U' B' nv n env lvl g := by
  obtain ⟨h1, h2, ⟨h3, h4⟩, h5, h6, h7, h8⟩ := h
  obtain ⟨m1, m2⟩ := hm.2 n h4
  refine ⟨h1, h2, ⟨h3, m1⟩, h5, by rw [m2 5 (by omega), h6], fun z => CTx.map hm (h7 z), fun z => ?_⟩
  obtain ⟨m, a, b, c⟩ := h8 z
  refine ⟨m, by rw [m2 6 (by omega), a], CTx.map hm b, fun w => ?_⟩
  obtain ⟨c1, c2, c3⟩ := c w
  obtain ⟨k1, k2⟩ := hm.2 m c3
  exact ⟨by rw [k2 5 (by omega), c1], by rw [k2 7 (by omega), c2], k1⟩
theorem RG.map {U U' : Pg} {B B' C : Nat → Int32} (hm : PM U U' B B') {nv nc : Nat} : ∀ {l : List Go} {n env lvl : Nat} {bh : Int}, @RG U B C nv nc l n env lvl bh → @RG U' B' C nv nc l n env lvl bh
  | [], _, _, _, _, h => h
  | g :: r, n, env, lvl, bh, ⟨h1, h2⟩ => by
    obtain ⟨-, m2⟩ := hm.2 n h1.2.2.1.2
    refine ⟨RG1.map hm h1, ?_⟩
    rcases h2 with ⟨a, b⟩ | ⟨n', a, b⟩
    · refine Or.inl ⟨by rw [m2 7 (by omega), a], ?_⟩
      rcases b with b | ⟨c, n', env', lvl', bh', b1, b2, b3, b4, b5, b6, b7, b8, b9⟩
      · exact Or.inl b
      · exact Or.inr ⟨c, n', env', lvl', bh', b1, b2, b3, b4, b5, b6, b7, b8, RG.map hm b9⟩
    · exact Or.inr ⟨n', by rw [m2 7 (by omega), a], RG.map hm b⟩
theorem RTd.map {U U' : Pg} {B B' C : Nat → Int32} (hm : PM U U' B B') {nv nc : Nat} {l : List Go} {bh : Int} (h : @RTd U B C nv nc l bh) : @RTd U' B' C nv nc l bh := by
  rcases h with b | ⟨c, n', env', lvl', bh', b1, b2, b3, b4, b5, b6, b7, b8, b9⟩
  · exact Or.inl b
  · exact Or.inr ⟨c, n', env', lvl', bh', b1, b2, b3, b4, b5, b6, b7, b8, RG.map hm b9⟩
theorem RS1.map {U U' : Pg} {σ σ' : qC} (hm : PM U U' (σ.2 28) (σ'.2 28)) (h38 : σ'.2 38 = σ.2 38) {nv e : Nat} {T : Tr} (h : @RS1 U σ nv e T) : @RS1 U' σ' nv e T := by
  obtain ⟨n, env, ⟨h1, h2⟩, h3, h4, h5, h6, h7⟩ := h
  obtain ⟨m1, m2⟩ := hm.2 n h2
  exact ⟨n, env, ⟨h1, m1⟩, by rw [h38, h3], by rw [h38, h4], CTx.map hm h5, by rw [m2 5 (by omega), h6], by rw [m2 7 (by omega), h7]⟩
theorem RA1.map {U U' : Pg} {σ σ' : qC} (hm : PM U U' (σ.2 28) (σ'.2 28)) (h40 : σ'.2 40 = σ.2 40) {nv a : Nat} {x y : Tr} (h : @RA1 U σ nv a x y) : @RA1 U' σ' nv a x y := by
  obtain ⟨n, e, m, ⟨h1, h2⟩, h3, h4, h5, h6, h7⟩ := h
  obtain ⟨m1, m2⟩ := hm.2 n h2
  exact ⟨n, e, m, ⟨h1, m1⟩, by rw [h40, h3], by rw [h40, h4], by rw [m2 6 (by omega), h5], CTx.map hm h6, CTx.map hm h7⟩
theorem WU.map {U U' : Pg} {B B' : Nat → Int32} (hm : PM U U' B B') {nv : Nat} {W : Wc} {u : Us} (h : @WU U B nv W u) : @WU U' B' nv W u := by
  refine ⟨fun v => ?_, h.2⟩
  have := h.1 v
  cases hw : W.1 v with
  | none =>
    rw [hw] at this
    cases hu : u.1 v with
    | none => trivial
    | some T =>
      rw [hu] at this
      exact this
  | some q =>
    rw [hw] at this
    cases hu : u.1 v with
    | none =>
      rw [hu] at this
      exact this
    | some T =>
      rw [hu] at this
      exact ⟨this.1, CTx.map hm this.2⟩
theorem SR.map {U U' : Pg} {σ σ' : qC} (hm : PM U U' (σ.2 28) (σ'.2 28)) (h38 : σ'.2 38 = σ.2 38) (h40 : σ'.2 40 = σ.2 40) {W : Wc} {t : List Ec} {na : Nat} {st : Sto} (h : @SR U σ W t na st) : @SR U' σ' W t na st := by
  obtain ⟨a1, a2, a3, a4, a5, a6, a7, a8, L, R, a9, a10⟩ := h
  exact ⟨WU.map hm a1, a2, a3, a4, a5, a6, a7, fun e he => RS1.map hm h38 (a8 e he), L, R, fun a ha => RA1.map hm h40 (a9 a ha), a10⟩
theorem SnC.map {U U' : Pg} {σ σ' : qC} (hm : PM U U' (σ.2 28) (σ'.2 28)) (h38 : σ'.2 38 = σ.2 38) (h40 : σ'.2 40 = σ.2 40) (h52 : σ'.2 52 = σ.2 52) (h54 : σ'.2 54 = σ.2 54) {s : Nat} : ∀ {ch : List Ch} {W : Wc} {t : List Ec} {nv ns na nc : Nat}, @SnC U σ s ch W t nv ns na nc → @SnC U' σ' s ch W t nv ns na nc
  | [], _, _, _, _, _, _, _ => trivial
  | (X, c, rest, st) :: ch, W, t, nv, ns, na, nc, h => by
    obtain ⟨es, r, n, env, na1, nc1, td, h1, h2, h3, h4, h5, h6, h7, h8, h9, h10⟩ := h
    refine ⟨es, r, n, env, na1, nc1, td, h1, SR.map hm h38 h40 h2, h3, h4, by rw [h54]; exact h5, CTx.map hm h6, h7, by rw [h52]; exact RTd.map hm h8, h9, SnC.map hm h38 h40 h52 h54 h10⟩
theorem RGl.map {U U' : Pg} {B B' : Nat → Int32} (hm : PM U U' B B') {p : Nat} {cl : Cl} : ∀ {l : List (Nat × Nat × Nat)} {x : Int32}, @RGl U B p cl l x → @RGl U' B' p cl l x
  | [], _, h => h
  | g :: r, x, ⟨h1, h2, h3⟩ => by
    have hv := (h2 0 (clNv cl) 0 (by omega)).2.2.1.2
    refine ⟨h1, fun env nv lvl hn => RG1.map hm (h2 env nv lvl hn), ?_⟩
    rw [(hm.2 _ hv).2 7 (by omega)]
    exact RGl.map hm h3
theorem RCl.map {U U' : Pg} {B B' P P' : Nat → Int32} (hm : PM U U' B B') {p : Nat} {cl : Cl} (h0 : P' (4 * p) = P (4 * p)) (h1 : P' (4 * p + 1) = P (4 * p + 1)) (h : @RCl U B P p cl) : @RCl U' B' P' p cl := by
  obtain ⟨a1, a2, a3, a4⟩ := h
  exact ⟨a1, a2, by rw [h0, a3], by rw [h1]; exact RGl.map hm a4⟩
theorem RHd.map {U U' : Pg} {B B' : Nat → Int32} (hm : PM U U' B B') {p : Nat} {cl : Cl} (h : @RHd U B p cl) : @RHd U' B' p cl := by
  intro env nv hn
  obtain ⟨a1, a2⟩ := h env nv hn
  exact ⟨CTx.map hm a1, a2⟩
/-- the clauses' pages: distinct, not the question's; the free ones too -/
def PgS (σ : qC) (cls : List Cl) (pg : Nat → Nat) : Prop := σ.1 3302 = Int32.ofInt cls.length ∧ cls.length ≤ 12 ∧ (∀ i, i < 12 → σ.2 34 i = Int32.ofInt (pg i) ∧ 1 ≤ pg i ∧ pg i < 13) ∧ (∀ i j, i < 12 → j < 12 → pg i = pg j → i = j) ∧ (∀ i, i < cls.length → PgC (σ.2 28) (σ.2 30) (pg i) (cls.getD i clNil) ∧ PgH (σ.2 28) (pg i) (cls.getD i clNil))
/-- the nodes in use -/
abbrev pgUse (k : Nat) (pg : Nat → Nat) : Pg := ⟨(fun m => @pgu (pgOf 0) m ∨ ∃ i, i < k ∧ @pgu (pgOf (pg i)) m, fun m => @pgv (pgOf 0) m ∨ ∃ i, i < k ∧ @pgv (pgOf (pg i)) m)⟩
theorem PM.use {k i : Nat} {pg : Nat → Nat} {B : Nat → Int32} (hi : i < k) : PM (pgOf (pg i)) (pgUse k pg) B B := ⟨fun _ h => ⟨Or.inr ⟨i, hi, h⟩, fun _ _ => rfl⟩, fun _ h => ⟨Or.inr ⟨i, hi, h⟩, fun _ _ => rfl⟩⟩
theorem PM.use0 {k : Nat} {pg : Nat → Nat} {B : Nat → Int32} : PM (pgOf 0) (pgUse k pg) B B := ⟨fun _ h => ⟨Or.inl h, fun _ _ => rfl⟩, fun _ h => ⟨Or.inl h, fun _ _ => rfl⟩⟩
theorem PgS.stat {σ : qC} {cls : List Cl} {pg : Nat → Nat} (h : PgS σ cls pg) : @CStat (pgUse cls.length pg) σ cls := by
  obtain ⟨h1, h2, h3, h4, h5⟩ := h
  refine ⟨h1, h2, pg, fun i hi => ⟨(h3 i (by omega)).1, RCl.map (PM.use hi) rfl rfl (h5 i hi).1, RHd.map (PM.use hi) (h5 i hi).2⟩⟩
/-- another page was read -/
theorem PM.frw {σ σ' : qC} {p q : Nat} (h : FrW σ σ' p) (hq : q ≠ p) : PM (pgOf q) (pgOf q) (σ.2 28) (σ'.2 28) := by
  refine ⟨fun n hn => ⟨hn, fun c hc => ?_⟩, fun n hn => ⟨hn, fun c hc => ?_⟩⟩
  · obtain ⟨j, j1, rfl⟩ := hn
    exact h.2.2.2 _ (by omega)
  · obtain ⟨j, j1, j2, rfl⟩ := hn
    exact h.2.2.2 _ (by omega)
theorem PM.frwU {σ σ' : qC} {p k : Nat} {pg : Nat → Nat} (h : FrW σ σ' p) (h0 : p ≠ 0) (hq : ∀ i, i < k → pg i ≠ p) : PM (pgUse k pg) (pgUse k pg) (σ.2 28) (σ'.2 28) := by
  refine ⟨fun n hn => ⟨hn, fun c hc => ?_⟩, fun n hn => ⟨hn, fun c hc => ?_⟩⟩
  · rcases hn with hn | ⟨i, hi, hn⟩
    · exact ((PM.frw h (Ne.symm h0)).1 n hn).2 c hc
    · exact ((PM.frw h (hq i hi)).1 n hn).2 c hc
  · rcases hn with hn | ⟨i, hi, hn⟩
    · exact ((PM.frw h (Ne.symm h0)).2 n hn).2 c hc
    · exact ((PM.frw h (hq i hi)).2 n hn).2 c hc
theorem CStat.map {U U' : Pg} {σ σ' : qC} {cls : List Cl} {p : Nat} (hm : PM U U' (σ.2 28) (σ'.2 28)) (h34 : σ'.2 34 = σ.2 34) (h1 : σ'.1 3302 = σ.1 3302) (h30 : ∀ k, k ≠ 4 * p → k ≠ 4 * p + 1 → σ'.2 30 k = σ.2 30 k) (hp : ∀ i q, i < cls.length → q < 13 → σ.2 34 i = Int32.ofInt (q : Nat) → q ≠ p) (h : @CStat U σ cls) : @CStat U' σ' cls := by
  obtain ⟨a1, a2, pg, a3⟩ := h
  refine ⟨by rw [h1, a1], a2, pg, fun i hi => ?_⟩
  obtain ⟨b1, b2, b3⟩ := a3 i hi
  have hne := hp i (pg i) hi b2.1 b1
  exact ⟨by rw [h34, b1], RCl.map hm (h30 _ (by omega) (by omega)) (h30 _ (by omega) (by omega)) b2, RHd.map hm b3⟩
theorem CS.map {U U' : Pg} {σ σ' : qC} {cls : List Cl} {m : Ma} (hm : PM U U' (σ.2 28) (σ'.2 28)) (hs : @CStat U' σ' cls) (ha : ∀ a, a = 36 ∨ a = 38 ∨ a = 40 ∨ a = 42 ∨ a = 45 ∨ a = 52 ∨ a = 54 → σ'.2 a = σ.2 a) (h1 : ∀ j, j = 3602 ∨ j = 3802 ∨ j = 4002 ∨ j = 4202 ∨ j = 4406 ∨ j = 3505 ∨ j = 4502 ∨ j = 5202 ∨ j = 5402 ∨ j = 4702 ∨ j = 5108 → σ'.1 j = σ.1 j) (h : @CS U σ cls m) : @CS U' σ' cls m := by
  obtain ⟨W, t, na, nc, a1, a2, a3, a4, ⟨a5, a6, a7, a8, a9, w, a10, a11⟩, -, ⟨x, b1, b2⟩, b3, b4, b5⟩ := h
  refine ⟨W, t, na, nc, hs, a2.congr (ha _ (by omega)) (ha _ (by omega)) (ha _ (by omega)) (ha _ (by omega)) (h1 _ (by omega)) (h1 _ (by omega)) (h1 _ (by omega)) (h1 _ (by omega)), SR.map hm (ha _ (by omega)) (ha _ (by omega)) a3, a4, ⟨by rw [h1 _ (by omega), a5], by rw [h1 _ (by omega), a6], by rw [h1 _ (by omega), a7], by rw [h1 _ (by omega), a8], by rw [h1 _ (by omega), a9], w, by rw [h1 _ (by omega), a10], a11⟩, trivial, ⟨x, by rw [h1 _ (by omega), b1], ?_⟩, SnC.map hm (ha _ (by omega)) (ha _ (by omega)) (ha _ (by omega)) (ha _ (by omega)) b3, b4, b5⟩
  rw [ha 52 (by omega)]
  exact RTd.map hm b2
