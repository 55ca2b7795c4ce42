/-! D9: the class makes terms same -/
/-- the class's store is the common one's -/
def bW [Pg] (B : Nat → Int32) (nv v : Nat) : Option (Nat × Nat) → Option Tr → Prop
  | none, none => True
  | some q, some T => v < nv ∧ CTx B nv q.1 q.2 T
  | _, _ => False
def WU [Pg] (B : Nat → Int32) (nv : Nat) (W : Wc) (u : Us) : Prop := (∀ v, bW B nv v (W.1 v) (u.1 v)) ∧ W.2.1 = u.2.1 ∧ W.2.2.1 = u.2.2.1 ∧ W.2.2.2.1 = u.2.2.2.1
theorem WU.nn [Pg] {B : Nat → Int32} {nv v : Nat} {W : Wc} {u : Us} (h : WU B nv W u) (hv : u.1 v = none) : W.1 v = none := by
  have := h.1 v
  rw [hv] at this
  cases hw : W.1 v with
  | none => rfl
  | some q =>
    rw [hw] at this
    exact this.elim
theorem WU.RV [Pg] {σ : qC} {nv ns na : Nat} {W : Wc} {t : List Ec} {u : Us} (h : WU (σ.2 28) nv W u) (hC : CW σ W t nv ns na) : RV (σ.2 28) (σ.2 36) nv u.1 := by
  intro v hv
  have h1 := h.1 v
  have h2 := (hC.1 v hv).1
  cases hu : u.1 v with
  | none =>
    rw [h.nn hu] at h2
    exact h2
  | some T =>
    cases hw : W.1 v with
    | none =>
      rw [hu, hw] at h1
      exact h1.elim
    | some q =>
      rw [hu, hw] at h1
      rw [hw] at h2
      obtain ⟨n, e⟩ := q
      exact ⟨n, e, h2.1, h2.2, h1.2⟩
theorem WU.bind [Pg] {B : Nat → Int32} {nv v n e : Nat} {W : Wc} {u : Us} {T : Tr} (h : WU B nv W u) (hv : v < nv) (hT : CTx B nv n e T) : WU B nv (gup W.1 v (some (n, e)), W.2) (uBind u v T) := by
  refine ⟨fun w => ?_, h.2⟩
  dsimp only [uBind]
  rw [gup_at, gup_at]
  by_cases e1 : w = v
  · rw [if_pos e1, if_pos e1, e1]
    exact ⟨hv, hT⟩
  · rw [if_neg e1, if_neg e1]
    exact h.1 w
theorem bOrd.bind {nv v : Nat} {u : Us} {T : Tr} (h : bOrd nv u.1) (hT : lab T < 0 → vnum T < v) : bOrd nv (uBind u v T).1 := by
  intro w hw U hU hl
  dsimp only [uBind] at hU
  rw [gup_at] at hU
  split at hU
  · rename_i e
    cases hU
    rw [e]
    exact hT hl
  · exact h w hw U hU hl
theorem uMove_b {u : Us} {hi lo : Nat} : (uMove u hi lo).1 = u.1 := by
  by_cases h1 : u.2.1 hi < 0
  · rw [uMove_0 h1]
  · by_cases h2 : u.2.2.1 lo < 0
    · rw [uMove_1 h1 h2]
    · rw [uMove_2 h1 h2]
theorem uMove_wk {u : Us} {hi lo : Nat} : (uMove u hi lo).2.2.2.2.2 = u.2.2.2.2.2 := by
  by_cases h1 : u.2.1 hi < 0
  · rw [uMove_0 h1]
  · by_cases h2 : u.2.2.1 lo < 0
    · rw [uMove_1 h1 h2]
    · rw [uMove_2 h1 h2]
/-- the state in the midst of it -/
def CU [Pg] (σ : qC) (nv ns na : Nat) (W : Wc) (t : List Ec) (u : Us) (s : Nat) : Prop :=
  CW σ W t nv ns na ∧ WU (σ.2 28) nv W u ∧ EV t nv ns na ∧ bOrd nv u.1 ∧ σ.1 4406 = Int32.ofInt s ∧ σ.1 4702 = Int32.ofInt u.2.2.2.2.2.length ∧ RWk (σ.2 47) u.2.2.2.2.2 ∧ u.2.2.2.2.2.length ≤ 20000
theorem CU.congr [Pg] {σ σ' : qC} {nv ns na s s' : Nat} {W : Wc} {t : List Ec} {u : Us} (h : CU σ nv ns na W t u s) (h2 : ∀ k, k ≠ 45 → σ'.2 k = σ.2 k) (h1 : ∀ j, j ≠ 4502 → j ≠ 4406 → j ≠ 4900 → j ≠ 4901 → j ≠ 4902 → j ≠ 5000 → j ≠ 5001 → j ≠ 5002 → σ'.1 j = σ.1 j) (hs : σ'.1 4406 = Int32.ofInt s') : CU σ' nv ns na W t u s' := by
  obtain ⟨c1, c2, c3, c4, c5, c6, c7, c8⟩ := h
  refine ⟨c1.congr (h2 36 (by omega)) (h2 38 (by omega)) (h2 40 (by omega)) (h2 42 (by omega)) (h1 _ (by omega) (by omega) (by omega) (by omega) (by omega) (by omega) (by omega) (by omega)) (h1 _ (by omega) (by omega) (by omega) (by omega) (by omega) (by omega) (by omega) (by omega)) (h1 _ (by omega) (by omega) (by omega) (by omega) (by omega) (by omega) (by omega) (by omega)) (h1 _ (by omega) (by omega) (by omega) (by omega) (by omega) (by omega) (by omega) (by omega)), ?_, c3, c4, hs, ?_, ?_, c8⟩
  · rw [h2 28 (by omega)]
    exact c2
  · rw [h1 _ (by omega) (by omega) (by omega) (by omega) (by omega) (by omega) (by omega) (by omega)]
    exact c6
  · rw [h2 47 (by omega)]
    exact c7
/-- a variable is bound to what stands in K; its sleepers go along, or wake -/
def uStir (stir : Bool) (u : Us) (v : Nat) (X : Tr) : Us := if stir = true then (if lab X < 0 then uMove (uBind u v X) v (vnum X) else uWake (uBind u v X) v) else uBind u v X
def bindS (K : Nat) (i1 v : Int32) (σ : qC) : Option qC := (bindG K v σ).bind (fun p => if i1 = 0 then some p else if p.1 (K + 2) = Int32.ofInt (-1) then c_wake_95 v p else c_join_77 (p.1 (K + 2)) (c_firstSleeper_94 v p) (c_lastSleeper_78 v p) p)
theorem bindS_ok [Pg] {K v n e nv ns na s : Nat} {stir : Bool} {σ : qC} {W : Wc} {t : List Ec} {u : Us} {X : Tr} (h : CU σ nv ns na W t u s) (hK : K = 4900 ∨ K = 5000) (hS : stir = true → SlOK nv ns u) (hv : v < nv) (hu : u.1 v = none) (hX : CTx (σ.2 28) nv n e X) (hlt : lab X < 0 → vnum X < v ∧ u.1 (vnum X) = none) (e1 : σ.1 K = Int32.ofInt n) (e2 : σ.1 (K + 1) = Int32.ofInt e) (e3 : σ.1 (K + 2) = Int32.ofInt (vnI X)) (ht : t.length + 2 ≤ 20000) :
    ∃ σ' W' t', bindS K (Int32.ofInt (if stir = true then 1 else 0)) (Int32.ofInt v) σ = some σ' ∧ CU σ' nv ns na W' t' (uStir stir u v X) s ∧ (stir = true → SlOK nv ns (uStir stir u v X)) ∧ Und W t W' t' ∧ t.length < t'.length ∧ t'.length ≤ t.length + 2 ∧ Fr σ σ' ∧ σ'.1 4502 = σ.1 4502 ∧ σ'.2 45 = σ.2 45 ∧ (stir = true → pot nv (uStir stir u v X).2.2.2.2.1 + (uStir stir u v X).2.2.2.2.2.length = pot nv u.2.2.2.2.1 + u.2.2.2.2.2.length) ∧ W'.2.2.2.2 = W.2.2.2.2 := by
  obtain ⟨c1, c2, c3, c4, c5, c6, c7, c8⟩ := h
  obtain ⟨σ1, q1, q2, q3, q4, q5⟩ := bindG_ok (K := K) c1 (by omega) hv (c2.nn hu) e1 e2 (by omega)
  have hb28 : σ1.2 28 = σ.2 28 := q3 28 (by omega) (by omega)
  have hWU : WU (σ1.2 28) nv (gup W.1 v (some (n, e)), W.2) (uBind u v X) := by
    rw [hb28]
    exact c2.bind hv hX
  have hEV : EV ((0, v, -1) :: t) nv ns na := by
    intro x hx
    rcases List.mem_cons.mp hx with rfl | hx
    · exact ⟨fun _ => hv, (fun z => by cases z), (fun z => by cases z)⟩
    · exact c3 x hx
  have hbo : bOrd nv (uBind u v X).1 := c4.bind (fun z => (hlt z).1)
  have hvn : v < 20000 := by
    have := c1.2.2.2.2.2
    omega
  have hFr : Fr σ σ1 := ⟨fun k a b c d e => q3 k c a, fun k _ => by rw [q3 38 (by omega) (by omega)], fun j a b c d e f g i l m => q4 j a⟩
  have hk2 : σ1.1 (K + 2) = Int32.ofInt (vnI X) := by rw [q4 _ (by omega), e3]
  unfold bindS
  rw [q1, Option.bind_some]
  cases stir with
  | false =>
    rw [if_pos (by rfl)]
    unfold uStir
    rw [if_neg (by simp)]
    refine ⟨σ1, _, _, rfl, ⟨q2, hWU, hEV, hbo, ?_, ?_, ?_, c8⟩, (fun z => by cases z), q5, by rw [List.length_cons]; omega, by rw [List.length_cons]; omega, hFr, q4 _ (by omega), q3 45 (by omega) (by omega), (fun z => by cases z), rfl⟩
    · rw [q4 _ (by omega), c5]
    · rw [q4 _ (by omega)]
      exact c6
    · rw [q3 47 (by omega) (by omega)]
      exact c7
  | true =>
    rw [if_neg (by decide), hk2]
    have hSl := hS rfl
    unfold uStir
    rw [if_pos rfl]
    have hvt := hSl.tail hu
    obtain ⟨b1, b2, b3, b4, b5, b6⟩ := q2
    have hrow := b1 v hv
    dsimp only at hrow
    rw [gup_at, if_pos rfl] at hrow
    have hf : c_firstSleeper_94 (Int32.ofInt v) σ1 = Int32.ofInt (u.2.1 v) := by
      unfold c_firstSleeper_94
      rw [tatI (i := 4 * v + 2) (by omega) (by omega), hrow.2.1, c2.2.1]
    have hl : c_lastSleeper_78 (Int32.ofInt v) σ1 = Int32.ofInt (u.2.2.1 v) := by
      unfold c_lastSleeper_78
      rw [tatI (i := 4 * v + 3) (by omega) (by omega), hrow.2.2, c2.2.2.1]
    by_cases hx : lab X < 0
    · obtain ⟨hlo, hlon⟩ := hlt hx
      unfold vnI
      rw [if_pos hx, if_pos hx, if_neg (zeqN (by omega) (by omega) (by omega) (by omega) (by omega)), hf, hl]
      have hlt := hSl.tail hlon
      obtain ⟨σ2, t2, p1, p2, p3, p4, p5, p6, p7⟩ := join_ok (v := vnum X) (a := u.2.1 v) (z := u.2.2.1 v) (⟨b1, b2, b3, b4, b5, b6⟩ : CW σ1 (gup W.1 v (some (n, e)), W.2) ((0, v, -1) :: t) nv ns na) (by omega) (by omega) (by omega) (by
        dsimp only
        rw [c2.2.1, c2.2.2.1, c2.2.2.2]
        rcases hlt with ⟨a1, a2, -⟩ | ⟨a1, a2, -, -, a3, -⟩
        · exact Or.inl ⟨a1, a2⟩
        · exact Or.inr ⟨a1, a2, a3⟩) (by rw [List.length_cons]; omega)
      have hw28 : σ2.2 28 = σ1.2 28 := p3 28 (by omega) (by omega) (by omega)
      have hWU2 : WU (σ2.2 28) nv (wJoin (gup W.1 v (some (n, e)), W.2) (vnum X) (u.2.1 v) (u.2.2.1 v)) (uMove (uBind u v X) v (vnum X)) := by
        obtain ⟨w1, w2, w3, w4⟩ := hWU
        dsimp only at w1 w2 w3 w4
        unfold wJoin
        dsimp only
        by_cases k1 : u.2.1 v < 0
        · rw [if_pos k1, uMove_0 (u := uBind u v X) k1, hw28]
          exact ⟨w1, w2, w3, w4⟩
        · rw [if_neg k1]
          by_cases k2 : u.2.2.1 (vnum X) < 0
          · rw [if_pos (by rw [c2.2.2.1]; exact k2), uMove_1 (u := uBind u v X) k1 k2, hw28]
            refine ⟨w1, ?_, ?_, w4⟩
            · dsimp only
              rw [w2]
              rfl
            · dsimp only
              rw [w3]
              rfl
          · rw [if_neg (by rw [c2.2.2.1]; exact k2), uMove_2 (u := uBind u v X) k1 k2, hw28]
            refine ⟨w1, w2, ?_, ?_⟩
            · dsimp only
              rw [w3]
              rfl
            · dsimp only
              rw [w3, w4]
              rfl
      have hEV2 : EV t2 nv ns na := by
        rcases p7 with e | e
        · rw [e]
          exact hEV
        · rw [e]
          intro x hx
          rcases List.mem_cons.mp hx with rfl | hx
          · refine ⟨(fun z => by cases z), (fun _ => ⟨by dsimp only; omega, ?_⟩), (fun z => by cases z)⟩
            dsimp only
            rw [c2.2.2.1]
            omega
          · exact hEV x hx
      refine ⟨σ2, _, t2, p1, ⟨p2, hWU2, hEV2, ?_, ?_, ?_, ?_, ?_⟩, fun _ => hSl.move hu hlon (by omega) (by omega), q5.trans p6, ?_, ?_, hFr.trans ⟨fun k a b c d e => p3 k c a b, p4, fun j a b c d e f g i l m => p5 j a⟩, ?_, ?_, fun _ => by rw [uMove_wk, pot_move hSl hu hlon hv (by omega) (by omega)]; rfl, ?_⟩
      · rw [uMove_b]
        exact hbo
      · rw [p5 _ (by omega), q4 _ (by omega), c5]
      · rw [p5 _ (by omega), q4 _ (by omega), uMove_wk]
        exact c6
      · rw [p3 47 (by omega) (by omega) (by omega), q3 47 (by omega) (by omega), uMove_wk]
        exact c7
      · rw [uMove_wk]
        exact c8
      · rcases p7 with e | e <;> rw [e] <;> simp only [List.length_cons] <;> omega
      · rcases p7 with e | e <;> rw [e] <;> simp only [List.length_cons] <;> omega
      · rw [p5 _ (by omega), q4 _ (by omega)]
      · rw [p3 45 (by omega) (by omega) (by omega), q3 45 (by omega) (by omega)]
      · unfold wJoin
        split
        · rfl
        · split <;> rfl
    · unfold vnI
      rw [if_neg hx, if_neg hx, if_pos rfl]
      unfold c_wake_95
      rw [hf]
      obtain ⟨s1, s2, s3, s4, s5, s6, s7⟩ := hSl
      have hSl : SlOK nv ns u := ⟨s1, s2, s3, s4, s5, s6, s7⟩
      have hw' := hSl.wake (T := X) hu
      have hlen := nodup_len ns hw'.2.2.2.2.1 hw'.2.2.2.2.2.1
      have hlen : (u.2.2.2.2.2 ++ u.2.2.2.2.1 v).length ≤ ns := hlen
      rw [List.length_append] at hlen
      obtain ⟨σ2, p1, p2, p3, p4, p5⟩ := wakeL_ok (nx := u.2.2.2.1) (ns := ns) (u.2.2.2.2.1 v) (u.2.1 v) qF 0 u.2.2.2.2.2 σ1 (s1 v hu).1 (s2 v).2.1 (fun k hk => by rw [b2 k hk]; dsimp only; rw [c2.2.2.2]) b4.2.1 (by omega) (by omega) (by unfold qF; omega) (by rw [q4 _ (by omega)]; exact c6) (by rw [q3 47 (by omega) (by omega)]; exact c7) (by omega)
      have p1' : c_wake_95_l11 qF (Int32.ofInt (u.2.1 v)) (Int32.ofInt 0) σ1 = some σ2 := p1
      refine ⟨σ2, _, _, p1', ⟨?_, ?_, hEV, hbo, ?_, p2, p3, ?_⟩, fun _ => hw', q5, by rw [List.length_cons]; omega, by rw [List.length_cons]; omega, hFr.trans ⟨fun k a b c d e => p4 k e, fun k _ => by rw [p4 38 (by omega)], fun j a b c d e f g i l m => p5 j d⟩, ?_, ?_, fun _ => pot_wake hv, rfl⟩
      · exact CW.congr (⟨b1, b2, b3, b4, b5, b6⟩ : CW σ1 (gup W.1 v (some (n, e)), W.2) ((0, v, -1) :: t) nv ns na) (p4 _ (by omega)) (p4 _ (by omega)) (p4 _ (by omega)) (p4 _ (by omega)) (p5 _ (by omega)) (p5 _ (by omega)) (p5 _ (by omega)) (p5 _ (by omega))
      · rw [p4 28 (by omega)]
        exact ⟨hWU.1, hWU.2⟩
      · rw [p5 _ (by omega), q4 _ (by omega), c5]
      · show (u.2.2.2.2.2 ++ u.2.2.2.2.1 v).length ≤ 20000
        rw [List.length_append]
        omega
      · rw [p5 _ (by omega), q4 _ (by omega)]
      · rw [p4 45 (by omega), q3 45 (by omega) (by omega)]
