/-! D31: the reference in the midst of making same -/
def mW (G C A : Nat → Int32) (nv nc v : Nat) (x : Int) : Option Tr → Prop
  | none => x = 2147483647
  | some T => v < nv ∧ MTx G C A nv nc x T
def WUm (σ : qC) (nv nc : Nat) (W : Wm) (u : Us) : Prop := (∀ v, mW (σ.2 72) (σ.2 73) (σ.2 74) nv nc v (W.1 v) (u.1 v)) ∧ W.2.1 = u.2.1 ∧ W.2.2.1 = u.2.2.1 ∧ W.2.2.2.1 = u.2.2.2.1
theorem WUm.nn {σ : qC} {nv nc v : Nat} {W : Wm} {u : Us} (h : WUm σ nv nc W u) (hv : u.1 v = none) : W.1 v = 2147483647 := by
  have := h.1 v
  rw [hv] at this
  exact this
theorem WUm.RV {σ : qC} {nv nc ns na : Nat} {W : Wm} {t : List Em} {u : Us} (h : WUm σ nv nc W u) (hC : MW σ W t nv ns na) : RVm (σ.2 72) (σ.2 73) (σ.2 74) (σ.2 75) nv nc u.1 W.1 := by
  intro v hv
  refine ⟨(hC.1 v hv).1, ?_⟩
  have h1 := h.1 v
  cases hu : u.1 v with
  | none => rw [hu] at h1; exact h1
  | some T => rw [hu] at h1; exact h1.2
theorem WUm.bind {σ : qC} {nv nc v : Nat} {W : Wm} {u : Us} {T : Tr} {x : Int} (h : WUm σ nv nc W u) (hv : v < nv) (hT : MTx (σ.2 72) (σ.2 73) (σ.2 74) nv nc x T) : WUm σ nv nc (gup W.1 v x, W.2) (uBind u v T) := by
  refine ⟨fun w => ?_, h.2⟩
  dsimp only [uBind]
  rw [gup_at, gup_at]
  by_cases e1 : w = v
  · rw [if_pos e1, if_pos e1, e1]
    exact ⟨hv, hT⟩
  · rw [if_neg e1, if_neg e1]
    exact h.1 w
theorem WUm.congr {σ σ' : qC} {nv nc nv' nc' : Nat} {W : Wm} {u : Us} (h : WUm σ nv nc W u) (h1 : nv ≤ nv') (h2 : nc ≤ nc') (hG : ∀ i, i < nc → σ'.2 72 i = σ.2 72 i) (hC : ∀ i, i < nc → σ'.2 73 i = σ.2 73 i) (hA : ∀ i, i < 3 * nc → σ'.2 74 i = σ.2 74 i) : WUm σ' nv' nc' W u := by
  refine ⟨fun v => ?_, h.2⟩
  have q := h.1 v
  cases hu : u.1 v with
  | none => rw [hu] at q; exact q
  | some T =>
    rw [hu] at q
    exact ⟨by have := q.1; omega, q.2.mono h1 h2 hG hC hA⟩
def hdI : List Nat → Int
  | [] => -1
  | e :: _ => e
/-- the woken heads hs, each with its chain -/
def WKm (u : Us) (hs : List Int) : Prop := ∃ ls : List (List Nat), u.2.2.2.2.2 = ls.flatten ∧ hs = ls.map hdI ∧ ∀ l, l ∈ ls → l ≠ [] ∧ chn u.2.2.2.1 (hdI l) l
def MU (σ : qC) (stir : Bool) (nv nc ns na : Nat) (W : Wm) (t : List Em) (u : Us) (s : Nat) (hs : List Int) : Prop :=
  MW σ W t nv ns na ∧ WUm σ nv nc W u ∧ EVm t nv ns na ∧ bOrd nv u.1 ∧ (σ.1 6430 = Int32.ofInt s ∧ σ.1 6437 = Int32.ofInt hs.length ∧ σ.1 6440 = Int32.ofInt (if stir = true then 0 else 1)) ∧ (∀ i (h : i < hs.length), σ.2 92 i = Int32.ofInt hs[i]) ∧ (stir = true → WKm u hs) ∧ hs.length ≤ s ∧ nc ≤ 24000 ∧ s ≤ 500
/-- what making same leaves alone -/
def FrM (σ σ' : qC) : Prop := (∀ k, k ≠ 75 → k ≠ 76 → k ≠ 77 → k ≠ 86 → k ≠ 83 → k ≠ 84 → k ≠ 90 → k ≠ 91 → k ≠ 92 → σ'.2 k = σ.2 k) ∧ (∀ j, j ≠ 6432 → j ≠ 6439 → j ≠ 6430 → j ≠ 6411 → j ≠ 6436 → j ≠ 6437 → σ'.1 j = σ.1 j)
theorem FrM.refl {σ : qC} : FrM σ σ := ⟨fun _ _ _ _ _ _ _ _ _ _ => rfl, fun _ _ _ _ _ _ _ => rfl⟩
theorem FrM.trans {σ σ' σ'' : qC} (h : FrM σ σ') (g : FrM σ' σ'') : FrM σ σ'' :=
  ⟨fun k a b c d e f i j l => by rw [g.1 k a b c d e f i j l, h.1 k a b c d e f i j l], fun j a b c d e f => by rw [g.2 j a b c d e f, h.2 j a b c d e f]⟩
def RPm (σ : qC) (nv nc : Nat) : List (Tr × Tr) → Prop
  | [] => True
  | p :: r => (∃ x y : Int, σ.2 90 r.length = Int32.ofInt x ∧ σ.2 91 r.length = Int32.ofInt y ∧ MTx (σ.2 72) (σ.2 73) (σ.2 74) nv nc x p.1 ∧ MTx (σ.2 72) (σ.2 73) (σ.2 74) nv nc y p.2) ∧ RPm σ nv nc r
theorem RPm.congr {σ σ' : qC} {nv nc : Nat} (h72 : σ'.2 72 = σ.2 72) (h73 : σ'.2 73 = σ.2 73) (h74 : σ'.2 74 = σ.2 74) : ∀ {ps : List (Tr × Tr)}, RPm σ nv nc ps → (∀ i, i < ps.length → σ'.2 90 i = σ.2 90 i ∧ σ'.2 91 i = σ.2 91 i) → RPm σ' nv nc ps
  | [], _, _ => trivial
  | p :: r, h, hx => by
    obtain ⟨⟨x, y, h1, h2, h3, h4⟩, h5⟩ := h
    rw [List.length_cons] at hx
    exact ⟨⟨x, y, by rw [(hx _ (by omega)).1, h1], by rw [(hx _ (by omega)).2, h2], by rw [h72, h73, h74]; exact h3, by rw [h72, h73, h74]; exact h4⟩, RPm.congr h72 h73 h74 h5 (fun i hi => hx i (by omega))⟩
theorem pair_ok {σ : qC} {nv nc : Nat} {x y : Int} {X Y : Tr} {ps : List (Tr × Tr)} (hP : RPm σ nv nc ps) (hN : σ.1 6436 = Int32.ofInt ps.length) (hl : ps.length < 2200) (hx : MTx (σ.2 72) (σ.2 73) (σ.2 74) nv nc x X) (hy : MTx (σ.2 72) (σ.2 73) (σ.2 74) nv nc y Y) :
    ∃ σ', m_pair_154 (Int32.ofInt x) (Int32.ofInt y) σ = some σ' ∧ RPm σ' nv nc ((X, Y) :: ps) ∧ σ'.1 6436 = Int32.ofInt ((X, Y) :: ps).length ∧ (∀ k, k ≠ 90 → k ≠ 91 → σ'.2 k = σ.2 k) ∧ (∀ j, j ≠ 6436 → σ'.1 j = σ.1 j) := by
  unfold m_pair_154
  rw [hN, aputI (i := ps.length) rfl hl (by omega), Option.bind_some, show (upA σ 90 ps.length (Int32.ofInt x)).1 = σ.1 from rfl, hN, aputI (i := ps.length) rfl hl (by omega), Option.bind_some]
  dsimp only [qlet]
  rw [show (upA (upA σ 90 ps.length (Int32.ofInt x)) 91 ps.length (Int32.ofInt y)).1 = σ.1 from rfl, hN, zadd]
  refine ⟨_, rfl, ⟨⟨x, y, ?_, ?_, ?_, ?_⟩, ?_⟩, ?_, fun k a b => by rw [upS_2, upA_ne b, upA_ne a], fun j hj => by rw [upS_1, if_neg hj]; rfl⟩
  · rw [upS_2, upA_ne (by omega), upA_eq, fup_at, if_pos rfl]
  · rw [upS_2, upA_eq, fup_at, if_pos rfl]
  · rw [upS_2, upA_ne (by omega), upA_ne (by omega), upA_ne (by omega), upA_ne (by omega), upA_ne (by omega), upA_ne (by omega)]
    exact hx
  · rw [upS_2, upA_ne (by omega), upA_ne (by omega), upA_ne (by omega), upA_ne (by omega), upA_ne (by omega), upA_ne (by omega)]
    exact hy
  · refine hP.congr (by rw [upS_2, upA_ne (by omega), upA_ne (by omega)]) (by rw [upS_2, upA_ne (by omega), upA_ne (by omega)]) (by rw [upS_2, upA_ne (by omega), upA_ne (by omega)]) (fun i hi => ⟨?_, ?_⟩)
    · rw [upS_2, upA_ne (by omega), upA_eq, fup_at, if_neg (by omega)]
    · rw [upS_2, upA_eq, fup_at, if_neg (by omega), upA_ne (by omega)]
  · rw [upS_1, if_pos rfl, List.length_cons]
    rfl
theorem pairsL_ok {nv nc : Nat} {x y : Nat} {X Y : Tr} {K : qC → Option (Int32 × qC)} (hx24 : x < 24000) (hy24 : y < 24000) : ∀ (k n : Nat) (σ : qC) (ps : List (Tr × Tr)), RPm σ nv nc ps → σ.1 6436 = Int32.ofInt ps.length → ps.length + k < 2200 → k ≤ 3 → k < n →
    (∀ i, i < k → ∃ m : Int, (σ.2 74) (3 * x + i) = Int32.ofInt m ∧ MTx (σ.2 72) (σ.2 73) (σ.2 74) nv nc m (trArg X i)) → (∀ i, i < k → ∃ m : Int, (σ.2 74) (3 * y + i) = Int32.ofInt m ∧ MTx (σ.2 72) (σ.2 73) (σ.2 74) nv nc m (trArg Y i)) →
    ∃ σ', m_same_156_l282 K n (Int32.ofInt x) (Int32.ofInt y) (Int32.ofInt ((k : Int) - 1)) σ = K σ' ∧ RPm σ' nv nc (prs X Y k ++ ps) ∧ σ'.1 6436 = Int32.ofInt (prs X Y k ++ ps).length ∧ (∀ j, j ≠ 90 → j ≠ 91 → σ'.2 j = σ.2 j) ∧ (∀ j, j ≠ 6436 → σ'.1 j = σ.1 j) := by
  intro k
  induction k with
  | zero =>
    intro n σ ps hP hN hl hk hn hx hy
    cases n with
    | zero => omega
    | succ n =>
      unfold m_same_156_l282
      rw [z0, if_pos (zltP (by omega) (by omega) (by omega) (by omega) (by omega))]
      exact ⟨σ, rfl, hP, hN, fun _ _ _ => rfl, fun _ _ => rfl⟩
  | succ k ih =>
    intro n σ ps hP hN hl hk hn hx hy
    cases n with
    | zero => omega
    | succ n =>
      unfold m_same_156_l282
      rw [z0, if_neg (zltN (by omega) (by omega) (by omega) (by omega) (by omega)), zmul, zadd, agetI (i := 3 * x + k) (by omega) (by omega) (by omega), Option.bind_some, zmul, zadd, agetI (i := 3 * y + k) (by omega) (by omega) (by omega), Option.bind_some]
      obtain ⟨m1, x1, x2⟩ := hx k (by omega)
      obtain ⟨m2, y1, y2⟩ := hy k (by omega)
      rw [x1, y1]
      obtain ⟨σ1, q1, q2, q3, q4, q5⟩ := pair_ok hP hN (by omega) x2 y2
      rw [q1, Option.bind_some, zadd]
      obtain ⟨σ', p1, p2, p3, p4, p5⟩ := ih n σ1 _ q2 q3 (by rw [List.length_cons]; omega) (by omega) (by omega) (by rw [q4 74 (by omega) (by omega), q4 72 (by omega) (by omega), q4 73 (by omega) (by omega)]; exact fun i hi => hx i (by omega)) (by rw [q4 74 (by omega) (by omega), q4 72 (by omega) (by omega), q4 73 (by omega) (by omega)]; exact fun i hi => hy i (by omega))
      refine ⟨σ', ?_, ?_, ?_, fun j a b => by rw [p4 j a b, q4 j a b], fun j hj => by rw [p5 j hj, q5 j hj]⟩
      · rw [← p1]
        congr 2
        omega
      · rw [prs_succ, List.append_assoc]
        exact p2
      · rw [prs_succ, List.append_assoc]
        exact p3
theorem chn_hd {nx : Nat → Int} {h : Int} {l : List Nat} (hc : chn nx h l) : h = hdI l := by
  cases l with
  | nil => exact hc
  | cons e l => exact hc.1
set_option maxHeartbeats 1000000 in
theorem mbindV {σ : qC} {stir : Bool} {nv nc ns na hi lo s : Nat} {a b c : Int} {W : Wm} {t : List Em} {u : Us} {hs : List Int} {K : qC → Option (Int32 × qC)} (h : MU σ stir nv nc ns na W t u s hs) (hS : stir = true → SlOK nv ns u) (ha : a = hi) (hb : b = lo) (hc : c = -1 - (lo : Int)) (hhi : hi < nv) (hlo : lo < hi) (uhi : u.1 hi = none) (ulo : u.1 lo = none) (ht : t.length + 4 ≤ 5000) :
    ∃ σ' W' t', (m_tie_159 (Int32.ofInt a) (Int32.ofInt c) σ).bind (fun p => if p.1 6440 = 0 then (aget (p.2 76) 13000 (Int32.ofInt a)).bind (fun x51 => (aget (p.2 77) 13000 (Int32.ofInt a)).bind (fun x53 => (m_follow_161 (Int32.ofInt b) x51 x53 p).bind (fun p55 => K p55))) else K p) = K σ' ∧ MU σ' stir nv nc ns na W' t' (if stir = true then uMove (uBind u hi (trVar lo)) hi lo else uBind u hi (trVar lo)) s hs ∧ σ'.1 6439 = Int32.ofInt 1 ∧ Undm W t W' t' ∧ t.length ≤ t'.length ∧ t'.length ≤ t.length + 4 ∧ W'.2.2.2.2 = W.2.2.2.2 ∧ (∀ k, k ≠ 75 → k ≠ 76 → k ≠ 77 → k ≠ 86 → k ≠ 83 → k ≠ 84 → σ'.2 k = σ.2 k) ∧ (∀ j, j ≠ 6432 → j ≠ 6439 → σ'.1 j = σ.1 j) := by
  subst ha
  subst hb
  obtain ⟨m1, m2, m3, m4, ⟨m5, m6, m7⟩, m8, m9, m10, m11, m12⟩ := h
  have h6 := m1.2.2.2.2.2
  obtain ⟨σ1, q1, q2, q3, q4, q5, q6⟩ := tie_ok (v := hi) (a := (hi : Int)) (x := c) m1 rfl hhi (m2.nn uhi) (by omega)
  rw [q1, Option.bind_some, q6 6440 (by omega) (by omega), m7]
  have hTv : MTx (σ.2 72) (σ.2 73) (σ.2 74) nv nc c (trVar lo) := ⟨1, Or.inl ⟨by omega, by omega, by rw [hc]; congr 1; omega⟩⟩
  have hWU1 : WUm σ1 nv nc (gup W.1 hi c, W.2) (uBind u hi (trVar lo)) := (m2.bind hhi hTv).congr (Nat.le_refl _) (Nat.le_refl _) (fun i _ => by rw [q5 72 (by omega) (by omega) (by omega)]) (fun i _ => by rw [q5 73 (by omega) (by omega) (by omega)]) (fun i _ => by rw [q5 74 (by omega) (by omega) (by omega)])
  have hEV1 : EVm ((5 * hi, 2147483647) :: t) nv ns na := by
    intro x hx
    rcases List.mem_cons.mp hx with rfl | hx
    · exact ⟨fun _ => by dsimp only; omega, fun z => by dsimp only at z; omega, fun z => by dsimp only at z; omega⟩
    · exact m3 x hx
  have hbo : bOrd nv (uBind u hi (trVar lo)).1 := m4.bind (fun _ => by rw [vnum_var]; exact hlo)
  cases stir with
  | false =>
    rw [if_neg (by decide), if_neg (by simp)]
    exact ⟨σ1, _, _, rfl, ⟨q2, hWU1, hEV1, hbo, ⟨by rw [q6 _ (by omega) (by omega), m5], by rw [q6 _ (by omega) (by omega), m6], by rw [q6 _ (by omega) (by omega), m7]⟩, by rw [q5 92 (by omega) (by omega) (by omega)]; exact m8, (fun z => by cases z), m10, m11, m12⟩, q4, q3, by rw [List.length_cons]; omega, by rw [List.length_cons]; omega, rfl, fun k a _ _ _ b c => q5 k b c a, fun j a b => q6 j a b⟩
  | true =>
    rw [if_pos (by rfl), if_pos rfl]
    have hSl := hS rfl
    have thi := hSl.tail uhi
    have tlo := hSl.tail ulo
    rw [agetI (i := hi) rfl (by omega) (by omega), Option.bind_some, agetI (i := hi) rfl (by omega) (by omega), Option.bind_some, (q2.1 hi hhi).2.1, (q2.1 hi hhi).2.2]
    dsimp only
    rw [m2.2.1, m2.2.2.1]
    obtain ⟨σ2, t2, p1, p2, p3, p4, p5, p6, p7, p8⟩ := follow_ok (v := lo) (i := (lo : Int)) (a := u.2.1 hi) (z := u.2.2.1 hi) q2 rfl (by omega) (by omega) (by omega) (by
      dsimp only
      rw [m2.2.1, m2.2.2.1]
      rcases tlo with ⟨z1, z2, -⟩ | ⟨z1, z2, z3, z4, -⟩
      · exact Or.inl ⟨z1, z2⟩
      · exact Or.inr ⟨z1, z2, z3, z4⟩) (by rw [List.length_cons]; omega)
    rw [p1, Option.bind_some]
    have hWU2 : WUm σ2 nv nc (wmJoin (gup W.1 hi c, W.2) lo (u.2.1 hi) (u.2.2.1 hi)) (uMove (uBind u hi (trVar lo)) hi lo) := by
      have hWU1' : WUm σ2 nv nc (gup W.1 hi c, W.2) (uBind u hi (trVar lo)) := hWU1.congr (Nat.le_refl _) (Nat.le_refl _) (fun i _ => by rw [p6 72 (by omega) (by omega) (by omega) (by omega) (by omega)]) (fun i _ => by rw [p6 73 (by omega) (by omega) (by omega) (by omega) (by omega)]) (fun i _ => by rw [p6 74 (by omega) (by omega) (by omega) (by omega) (by omega)])
      obtain ⟨w1, w2, w3, w4⟩ := hWU1'
      dsimp only at w1 w2 w3 w4
      unfold wmJoin
      dsimp only
      by_cases k1 : u.2.1 hi < 0
      · rw [if_pos k1, uMove_0 (u := uBind u hi (trVar lo)) k1]
        exact ⟨w1, w2, w3, w4⟩
      · rw [if_neg k1]
        by_cases k2 : u.2.2.1 lo < 0
        · rw [if_pos (by rw [m2.2.2.1]; exact k2), uMove_1 (u := uBind u hi (trVar lo)) k1 k2]
          refine ⟨w1, ?_, ?_, w4⟩
          · dsimp only
            rw [w2]
            rfl
          · dsimp only
            rw [w3]
            rfl
        · rw [if_neg (by rw [m2.2.2.1]; exact k2), uMove_2 (u := uBind u hi (trVar lo)) k1 k2]
          refine ⟨w1, w2, ?_, ?_⟩
          · dsimp only
            rw [w3]
            rfl
          · dsimp only
            rw [w3, w4]
            rfl
    refine ⟨σ2, _, t2, rfl, ⟨p2, hWU2, ?_, by rw [uMove_b]; exact hbo, ⟨by rw [p7 _ (by omega), q6 _ (by omega) (by omega), m5], by rw [p7 _ (by omega), q6 _ (by omega) (by omega), m6], by rw [p7 _ (by omega), q6 _ (by omega) (by omega), m7]⟩, by rw [p6 92 (by omega) (by omega) (by omega) (by omega) (by omega), q5 92 (by omega) (by omega) (by omega)]; exact m8, fun _ => ?_, m10, m11, m12⟩, by rw [p7 _ (by omega), q4], q3.trans p3, by rw [List.length_cons] at p4; omega, by rw [List.length_cons] at p5; omega, ?_, fun k a b c d e f => by rw [p6 k e f b c d, q5 k e f a], fun j a b => by rw [p7 j a, q6 j a b]⟩
    · intro x hx
      rcases p8 x hx with z | z
      · exact hEV1 x z
      · exact z
    · -- the woken chains are left alone
      obtain ⟨ls, l1, l2, l3⟩ := m9 rfl
      refine ⟨ls, by rw [uMove_wk]; exact l1, l2, fun l hl => ⟨(l3 l hl).1, ?_⟩⟩
      have hch := (l3 l hl).2
      by_cases k1 : u.2.1 hi < 0
      · rw [uMove_0 (u := uBind u hi (trVar lo)) k1]
        exact hch
      · by_cases k2 : u.2.2.1 lo < 0
        · rw [uMove_1 (u := uBind u hi (trVar lo)) k1 k2]
          exact hch
        · rw [uMove_2 (u := uBind u hi (trVar lo)) k1 k2]
          refine chn_gup (fun z => ?_) hch
          rcases tlo with ⟨z1, -⟩ | ⟨-, -, -, -, -, -, z7⟩
          · exact k2 (by omega)
          · refine hSl.2.2.2.1 lo _ z7 ?_
            rw [l1]
            exact List.mem_flatten.mpr ⟨l, hl, z⟩
    · unfold wmJoin
      split
      · rfl
      · split <;> rfl
