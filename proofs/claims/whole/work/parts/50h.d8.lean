/-! D8: the class's pairs and woken ones -/
/-- what making terms same leaves alone -/
def Fr (σ σ' : qC) : Prop := (∀ k, k ≠ 36 → k ≠ 38 → k ≠ 42 → k ≠ 45 → k ≠ 47 → σ'.2 k = σ.2 k) ∧ (∀ k, k % 4 ≠ 2 → σ'.2 38 k = σ.2 38 k) ∧
  (∀ j, j ≠ 4202 → j ≠ 4502 → j ≠ 4406 → j ≠ 4702 → j ≠ 4900 → j ≠ 4901 → j ≠ 4902 → j ≠ 5000 → j ≠ 5001 → j ≠ 5002 → σ'.1 j = σ.1 j)
theorem Fr.refl {σ : qC} : Fr σ σ := ⟨fun _ _ _ _ _ _ => rfl, fun _ _ => rfl, fun _ _ _ _ _ _ _ _ _ _ _ => rfl⟩
theorem Fr.trans {σ σ' σ'' : qC} (h : Fr σ σ') (g : Fr σ' σ'') : Fr σ σ'' :=
  ⟨fun k a b c d e => by rw [g.1 k a b c d e, h.1 k a b c d e], fun k hk => by rw [g.2.1 k hk, h.2.1 k hk], fun j a b c d e f i l m n => by rw [g.2.2 j a b c d e f i l m n, h.2.2 j a b c d e f i l m n]⟩
theorem Fr.book {σ σ' : qC} (h : Fr σ σ') : σ'.2 28 = σ.2 28 := h.1 28 (by omega) (by omega) (by omega) (by omega) (by omega)
/-- the pairs, the top first -/
def RP [Pg] (B X : Nat → Int32) (nv : Nat) : List (Tr × Tr) → Prop
  | [] => True
  | p :: r => (∃ n e m f : Nat, X (4 * r.length) = Int32.ofInt n ∧ X (4 * r.length + 1) = Int32.ofInt e ∧ X (4 * r.length + 2) = Int32.ofInt m ∧ X (4 * r.length + 3) = Int32.ofInt f ∧ CTx B nv n e p.1 ∧ CTx B nv m f p.2) ∧ RP B X nv r
theorem RP.congr [Pg] {B X X' : Nat → Int32} {nv : Nat} : ∀ {ps : List (Tr × Tr)}, RP B X nv ps → (∀ i, i < 4 * ps.length → X' i = X i) → RP B X' nv ps
  | [], _, _ => trivial
  | p :: r, h, hx => by
    obtain ⟨⟨n, e, m, f, h1, h2, h3, h4, h5⟩, h6⟩ := h
    rw [List.length_cons] at hx
    exact ⟨⟨n, e, m, f, by rw [hx _ (by omega), h1], by rw [hx _ (by omega), h2], by rw [hx _ (by omega), h3], by rw [hx _ (by omega), h4], h5⟩, h6.congr (fun i hi => hx i (by omega))⟩
def RWk (X : Nat → Int32) (wk : List Nat) : Prop := ∀ i (h : i < wk.length), X (4 * i) = Int32.ofInt (wk[i] : Nat)
/-- a pair is pushed -/
theorem push_ok [Pg] {σ : qC} {nv n e m f : Nat} {x y : Tr} {ps : List (Tr × Tr)} (hP : RP (σ.2 28) (σ.2 45) nv ps) (hN : σ.1 4502 = Int32.ofInt ps.length) (hl : ps.length ≤ 20000) (hx : CTx (σ.2 28) nv n e x) (hy : CTx (σ.2 28) nv m f y) :
    ∃ σ', tappO σ 45 4 (Int32.ofInt n) (Int32.ofInt e) (Int32.ofInt m) (Int32.ofInt f) = some σ' ∧ RP (σ'.2 28) (σ'.2 45) nv ((x, y) :: ps) ∧ σ'.1 4502 = Int32.ofInt ((x, y) :: ps).length ∧ (∀ k, k ≠ 45 → σ'.2 k = σ.2 k) ∧ (∀ j, j ≠ 4502 → σ'.1 j = σ.1 j) := by
  refine ⟨_, tappI (n := ps.length) hN (by omega) (by omega), ?_, ?_, fun k hk => by rw [upS_2, tap4_2, if_neg hk], fun j hj => by rw [upS_1, if_neg hj]; rfl⟩
  · rw [upS_2, tap4_2, if_neg (by omega), tap4_2, if_pos rfl]
    refine ⟨⟨n, e, m, f, ?_, ?_, ?_, ?_, hx, hy⟩, hP.congr (fun i hi => ?_)⟩
    · rw [fup_at, if_neg (by omega), fup_at, if_neg (by omega), fup_at, if_neg (by omega), fup_at, if_pos (by omega)]
    · rw [fup_at, if_neg (by omega), fup_at, if_neg (by omega), fup_at, if_pos (by omega)]
    · rw [fup_at, if_neg (by omega), fup_at, if_pos (by omega)]
    · rw [fup_at, if_pos (by omega)]
    · rw [fup_at, if_neg (by omega), fup_at, if_neg (by omega), fup_at, if_neg (by omega), fup_at, if_neg (by omega)]
  · rw [upS_1, if_pos (by omega), List.length_cons]
    rfl
theorem prs_succ (X Y : Tr) (k : Nat) : prs X Y (k + 1) = prs X Y k ++ [(trArg X k, trArg Y k)] := by
  unfold prs
  rw [List.range_succ, List.map_append]
  rfl
/-- the pairs of arguments are pushed -/
theorem pushL_ok [Pg] {nv node env other oenv : Nat} {X Y : Tr} (hn : node < 624) (ho : other < 624) : ∀ (k n : Nat) (σ : qC) (ps : List (Tr × Tr)), RP (σ.2 28) (σ.2 45) nv ps → σ.1 4502 = Int32.ofInt ps.length → ps.length + k ≤ 20000 → k ≤ 3 → k < n →
    (∀ i, i < k → ∃ m : Nat, (σ.2 28) (9 * node + (2 + i)) = Int32.ofInt m ∧ CTx (σ.2 28) nv m env (trArg X i)) → (∀ i, i < k → ∃ m : Nat, (σ.2 28) (9 * other + (2 + i)) = Int32.ofInt m ∧ CTx (σ.2 28) nv m oenv (trArg Y i)) →
    ∃ σ', c_pushArguments_89_l12 n (Int32.ofInt node) (Int32.ofInt env) (Int32.ofInt other) (Int32.ofInt oenv) (Int32.ofInt ((k : Int) - 1)) σ = some σ' ∧ RP (σ'.2 28) (σ'.2 45) nv (prs X Y k ++ ps) ∧ σ'.1 4502 = Int32.ofInt (prs X Y k ++ ps).length ∧ (∀ j, j ≠ 45 → σ'.2 j = σ.2 j) ∧ (∀ j, j ≠ 4502 → σ'.1 j = σ.1 j) := by
  intro k
  induction k with
  | zero =>
    intro n σ ps hP hN hl hk hn' hx hy
    cases n with
    | zero => omega
    | succ n =>
      unfold c_pushArguments_89_l12
      rw [z0, if_pos (zltP (by omega) (by omega) (by omega) (by omega) (by omega))]
      exact ⟨σ, rfl, hP, hN, fun _ _ => rfl, fun _ _ => rfl⟩
  | succ k ih =>
    intro n σ ps hP hN hl hk hn' hx hy
    cases n with
    | zero => omega
    | succ n =>
      unfold c_pushArguments_89_l12
      rw [z0, if_neg (zltN (by omega) (by omega) (by omega) (by omega) (by omega)), show ((k + 1 : Nat) : Int) - 1 = (k : Nat) by omega, rd_arg hn (by omega), rd_arg ho (by omega)]
      obtain ⟨m1, x1, x2⟩ := hx k (by omega)
      obtain ⟨m2, y1, y2⟩ := hy k (by omega)
      rw [x1, y1]
      obtain ⟨σ1, q1, q2, q3, q4, q5⟩ := push_ok hP hN (by omega) x2 y2
      rw [q1, Option.bind_some, zadd]
      have e28 : σ1.2 28 = σ.2 28 := q4 28 (by omega)
      obtain ⟨σ', p1, p2, p3, p4, p5⟩ := ih n σ1 _ q2 q3 (by rw [List.length_cons]; omega) (by omega) (by omega) (by rw [e28]; exact fun i hi => hx i (by omega)) (by rw [e28]; exact fun i hi => hy i (by omega))
      refine ⟨σ', ?_, ?_, ?_, fun j hj => by rw [p4 j hj, q4 j hj], fun j hj => by rw [p5 j hj, q5 j hj]⟩
      · rw [← p1]
        rfl
      · rw [prs_succ, List.append_assoc]
        exact p2
      · rw [prs_succ, List.append_assoc]
        exact p3
theorem pushArgs_ok [Pg] {nv node env other oenv a : Nat} {X Y : Tr} {σ : qC} {ps : List (Tr × Tr)} (hX : CTx (σ.2 28) nv node env X) (hY : CTx (σ.2 28) nv other oenv Y) (lX : ¬ lab X < 0) (lY : ¬ lab Y < 0) (aX : ary X = a) (aY : ary Y = a) (hP : RP (σ.2 28) (σ.2 45) nv ps) (hN : σ.1 4502 = Int32.ofInt ps.length) (hl : ps.length ≤ 19000) :
    a ≤ 3 ∧ ∃ σ', c_pushArguments_89 (Int32.ofInt node) (Int32.ofInt env) (Int32.ofInt other) (Int32.ofInt oenv) σ = some σ' ∧ RP (σ'.2 28) (σ'.2 45) nv (prs X Y a ++ ps) ∧ σ'.1 4502 = Int32.ofInt (prs X Y a ++ ps).length ∧ (∀ j, j ≠ 45 → σ'.2 j = σ.2 j) ∧ (∀ j, j ≠ 4502 → σ'.1 j = σ.1 j) := by
  obtain ⟨hn, -, a1, ha1, hb1, s1, hs1, hsb1, hk1⟩ := hX.cases
  obtain ⟨ho, -, a2, ha2, hb2, s2, hs2, hsb2, hk2⟩ := hY.cases
  rcases hk1 with ⟨r, -, -, e, -⟩ | ⟨-, e1, e2, hx⟩
  · exact absurd (by rw [e, lab_var]; omega) lX
  rcases hk2 with ⟨r, -, -, e, -⟩ | ⟨-, f1, f2, hy⟩
  · exact absurd (by rw [e, lab_var]; omega) lY
  have i1 : a1 = a := by omega
  have i2 : a2 = a := by omega
  subst i1
  subst i2
  refine ⟨ha1, ?_⟩
  unfold c_pushArguments_89
  rw [rd_arity hn ha1 hb1, zsub]
  exact pushL_ok hn ho a2 qF σ ps hP hN (by omega) ha1 (by unfold qF; omega) hx hy
/-- those that sleep on a variable wake -/
theorem wakeL_ok {nx : Nat → Int} {ns : Nat} : ∀ (l : List Nat) (e : Int) (n i : Nat) (wk : List Nat) (σ : qC), chn nx e l → (∀ k, k ∈ l → k < ns) → (∀ k, k < ns → σ.2 38 (4 * k + 2) = Int32.ofInt (nx k)) → σ.1 3802 = Int32.ofInt ns → ns ≤ 20000 → i + l.length ≤ ns → l.length < n → σ.1 4702 = Int32.ofInt wk.length → RWk (σ.2 47) wk → wk.length + l.length ≤ 20000 →
    ∃ σ', c_wake_95_l11 n (Int32.ofInt e) (Int32.ofInt i) σ = some σ' ∧ σ'.1 4702 = Int32.ofInt (wk ++ l).length ∧ RWk (σ'.2 47) (wk ++ l) ∧ (∀ j, j ≠ 47 → σ'.2 j = σ.2 j) ∧ (∀ j, j ≠ 4702 → σ'.1 j = σ.1 j) := by
  intro l
  induction l with
  | nil =>
    intro e n i wk σ hc hl h38 hns hb hi hn h47 hw hwl
    cases n with
    | zero => simp at hn
    | succ n =>
      unfold c_wake_95_l11 c_sleepers_86
      have he : e = -1 := hc
      rw [hns, he]
      refine ⟨σ, ?_, ?_, ?_, fun _ _ => rfl, fun _ _ => rfl⟩
      · split
        · rfl
        · rw [if_pos rfl]
      · rw [List.append_nil]
        exact h47
      · rw [List.append_nil]
        exact hw
  | cons k l ih =>
    intro e n i wk σ hc hl h38 hns hb hi hn h47 hw hwl
    cases n with
    | zero => simp at hn
    | succ n =>
      rw [List.length_cons] at hi hn hwl
      have he : e = (k : Int) := hc.1
      have hk := hl k List.mem_cons_self
      unfold c_wake_95_l11 c_sleepers_86
      rw [hns, he, if_neg (zleN (by omega) (by omega) (by omega) (by omega) (by omega)), if_neg (zeqN (by omega) (by omega) (by omega) (by omega) (by omega)), tappI (n := wk.length) h47 (by omega) (by omega), Option.bind_some, zadd]
      have e38 : c_sleeperBehind_96 (Int32.ofInt k) (upS (tap4 σ 47 (wk.length * 4) (Int32.ofInt k) (Int32.ofInt (-1)) (Int32.ofInt (-1)) (Int32.ofInt (-1))) (100 * 47 + 2) (Int32.ofInt ((wk.length : Int) + 1))) = Int32.ofInt (nx k) := by
        unfold c_sleeperBehind_96
        rw [tatI (i := 4 * k + 2) (by omega) (by omega), upS_2, tap4_2, if_neg (by omega), h38 k hk]
      rw [e38]
      obtain ⟨σ', p1, p2, p3, p4, p5⟩ := ih (nx k) n (i + 1) (wk ++ [k]) (upS (tap4 σ 47 (wk.length * 4) (Int32.ofInt k) (Int32.ofInt (-1)) (Int32.ofInt (-1)) (Int32.ofInt (-1))) (100 * 47 + 2) (Int32.ofInt ((wk.length : Int) + 1))) hc.2 (fun j hj => hl j (List.mem_cons_of_mem _ hj)) (by rw [upS_2, tap4_2, if_neg (by omega)]; exact h38) (by rw [upS_1, if_neg (by omega)]; exact hns) hb (by omega) (by omega) (by rw [upS_1, if_pos (by omega), List.length_append]; rfl) (by
          intro j hj
          rw [List.length_append, List.length_singleton] at hj
          rw [upS_2, tap4_2, if_pos rfl]
          by_cases hjk : j < wk.length
          · rw [List.getElem_append_left hjk, fup_at, if_neg (by omega), fup_at, if_neg (by omega), fup_at, if_neg (by omega), fup_at, if_neg (by omega)]
            exact hw j hjk
          · have : j = wk.length := by omega
            subst this
            rw [List.getElem_append_right (Nat.le_refl _)]
            rw [fup_at, if_neg (by omega), fup_at, if_neg (by omega), fup_at, if_neg (by omega), fup_at, if_pos (by omega)]
            simp) (by rw [List.length_append, List.length_singleton]; omega)
      refine ⟨σ', ?_, ?_, ?_, fun j hj => ?_, fun j hj => ?_⟩
      · rw [← p1]
        rfl
      · rw [p2, List.append_assoc]
        rfl
      · rw [List.append_assoc] at p3
        exact p3
      · rw [p4 j hj, upS_2, tap4_2, if_neg hj]
      · rw [p5 j hj, upS_1, if_neg (by omega)]
        rfl
