/-! D33: the reference goes through the pairs as the common machine -/
def b2i (b : Bool) : Int := if b = true then 1 else 0
set_option maxHeartbeats 4000000 in
theorem sameL_ok {nv nc ns na : Nat} (stir : Bool) : ∀ (f n s : Nat) (u : Us) (bd : Bool) (ps : List (Tr × Tr)) (W : Wm) (t : List Em) (σ : qC) (hs : List Int), MU σ stir nv nc ns na W t u s hs → RPm σ nv nc ps → σ.1 6436 = Int32.ofInt ps.length → σ.1 6439 = Int32.ofInt (b2i bd) → σ.1 6411 = Int32.ofInt 0 → (stir = true → SlOK nv ns u) → 502 ≤ f + s → 502 ≤ n + s → ps.length ≤ 10 + 3 * s → t.length ≤ 4 * s + 2000 →
    ∃ σ' W' t' hs', m_same_156_l10 n σ = some (Int32.ofInt (if (uni nv stir f s u bd ps).1 = 0 then 1 else 0), σ') ∧ MU σ' stir nv nc ns na W' t' (uni nv stir f s u bd ps).2.2.1 (uni nv stir f s u bd ps).2.1 hs' ∧ (stir = true → SlOK nv ns (uni nv stir f s u bd ps).2.2.1) ∧ Undm W t W' t' ∧ FrM σ σ' ∧ σ'.1 6439 = Int32.ofInt (b2i (uni nv stir f s u bd ps).2.2.2) ∧ σ'.1 6411 = Int32.ofInt (if (uni nv stir f s u bd ps).1 = 2 then 3 else 0) ∧ t.length ≤ t'.length ∧ t'.length + 4 * s ≤ t.length + 4 * (uni nv stir f s u bd ps).2.1 ∧ s ≤ (uni nv stir f s u bd ps).2.1 ∧ (uni nv stir f s u bd ps).1 ≤ 2 ∧
      (stir = true → pot nv (uni nv stir f s u bd ps).2.2.1.2.2.2.2.1 + (uni nv stir f s u bd ps).2.2.1.2.2.2.2.2.length = pot nv u.2.2.2.2.1 + u.2.2.2.2.2.length) ∧ W'.2.2.2.2 = W.2.2.2.2 := by
  intro f
  induction f with
  | zero => intro n s u bd ps W t σ hs hU _ _ _ _ _ h2; have := hU.2.2.2.2.2.2.2.2.2; omega
  | succ f ih =>
    intro n s u bd ps W t σ hs hU hP hN hB hT hS hf hn hpl htl
    have hs5 := hU.2.2.2.2.2.2.2.2.2
    have h24 := hU.2.2.2.2.2.2.2.2.1
    cases n with
    | zero => omega
    | succ n =>
      cases ps with
      | nil =>
        unfold m_same_156_l10
        rw [hN, if_pos (by decide)]
        have e : uni nv stir (f + 1) s u bd [] = (0, s, u, bd) := rfl
        rw [e]
        exact ⟨σ, W, t, hs, rfl, hU, hS, Undm.refl, FrM.refl, hB, hT, Nat.le_refl _, Nat.le_refl _, Nat.le_refl _, by simp, fun _ => rfl, rfl⟩
      | cons p r =>
        obtain ⟨x, y⟩ := p
        rw [List.length_cons] at hN hpl
        obtain ⟨⟨x0, y0, r1, r2, hx, hy⟩, hP'⟩ := hP
        dsimp only at hx hy
        unfold m_same_156_l10
        rw [hN, z0, if_neg (zleN (by omega) (by omega) (by omega) (by omega) (by omega))]
        by_cases h500 : 500 ≤ s
        · have hu : uni nv stir (f + 1) s u bd ((x, y) :: r) = (2, s, u, bd) := by
            unfold uni
            rw [if_pos h500]
          have es : s = 500 := by omega
          rw [step_end (by rw [hU.2.2.2.2.1.1, es]; rfl), Option.bind_some, if_pos rfl, hu]
          refine ⟨_, W, t, hs, rfl, hU.congr (fun k _ _ => rfl) (fun j a b c => by rw [upS_1, if_neg c]) (by rw [upS_1, if_neg (by omega)]; exact hU.2.2.2.2.1.1) (Nat.le_refl _) hs5, hS, Undm.refl, ⟨fun _ _ _ _ _ _ _ _ _ _ => rfl, fun j a b c d e f => by rw [upS_1, if_neg d]⟩, by rw [upS_1, if_neg (by omega)]; exact hB, by rw [upS_1, if_pos rfl]; rfl, Nat.le_refl _, Nat.le_refl _, Nat.le_refl _, Nat.le_refl _, fun _ => rfl, rfl⟩
        · rw [step_ok (by omega) hU.2.2.2.2.1.1 hT, Option.bind_some]
          dsimp only [qlet]
          rw [if_neg (by decide)]
          obtain ⟨σ1, hσ1⟩ : ∃ σ1, σ1 = upS (upS σ 6430 (Int32.ofInt ((s + 1 : Nat) : Int))) 6436 (Int32.ofInt r.length) := ⟨_, rfl⟩
          have e6436 : (upS σ 6430 (Int32.ofInt ((s + 1 : Nat) : Int))).1 6436 - Int32.ofInt 1 = Int32.ofInt r.length := by
            rw [upS_1, if_neg (by omega), hN, zsub]
            congr 1
            omega
          rw [e6436, ← hσ1]
          have f1 : ∀ j, j ≠ 6436 → j ≠ 6430 → σ1.1 j = σ.1 j := fun j a b => by rw [hσ1, upS_1, if_neg a, upS_1, if_neg b]
          have f2 : σ1.2 = σ.2 := by rw [hσ1]; rfl
          have f36 : σ1.1 6436 = Int32.ofInt r.length := by rw [hσ1, upS_1, if_pos rfl]
          have f30 : σ1.1 6430 = Int32.ofInt ((s + 1 : Nat) : Int) := by rw [hσ1, upS_1, if_neg (by omega), upS_1, if_pos rfl]
          have hU1 : MU σ1 stir nv nc ns na W t u (s + 1) hs := hU.congr (fun k _ _ => by rw [f2]) (fun j a b _ => f1 j a b) f30 (by omega) (by omega)
          have hF1 : FrM σ σ1 := ⟨fun k _ _ _ _ _ _ _ _ _ => by rw [f2], fun j _ _ a _ b _ => f1 j b a⟩
          have hP1 : RPm σ1 nv nc r := hP'.congr (by rw [f2]) (by rw [f2]) (by rw [f2]) (fun i _ => ⟨by rw [f2], by rw [f2]⟩)
          have hnv := hU1.1.2.2.2.2.2.1
          rw [f36, agetI (i := r.length) rfl (by omega) (by omega), Option.bind_some, f2, r1]
          obtain ⟨tx, v1, v2, v3⟩ := value_ok (σ := σ1) (t := x0) (T := x) hnv h24 hU1.2.2.2.1 (hU1.2.1.RV hU1.1) (by rw [f2]; exact hx)
          rw [v1, Option.bind_some, agetI (i := r.length) rfl (by omega) (by omega), Option.bind_some, r2]
          obtain ⟨ty, w1, w2, w3⟩ := value_ok (σ := σ1) (t := y0) (T := y) hnv h24 hU1.2.2.2.1 (hU1.2.1.RV hU1.1) (by rw [f2]; exact hy)
          rw [w1, Option.bind_some]
          have rx := v2.rng
          have ry := w2.rng
          obtain ⟨X, hX⟩ : ∃ X, X = fnd (nv + 1) u.1 x := ⟨_, rfl⟩
          obtain ⟨Y, hY⟩ : ∃ Y, Y = fnd (nv + 1) u.1 y := ⟨_, rfl⟩
          rw [← hX] at v2 v3 rx
          rw [← hY] at w2 w3 ry
          -- one step on
          have again : ∀ (σ5 : qC) (u5 : Us) (bd5 : Bool) (ps5 : List (Tr × Tr)) (W5 : Wm) (t5 : List Em) (hs5 : List Int), uni1 stir u bd X Y = some (u5, bd5, ps5) → MU σ5 stir nv nc ns na W5 t5 u5 (s + 1) hs5 → RPm σ5 nv nc (ps5 ++ r) → σ5.1 6436 = Int32.ofInt (ps5 ++ r).length → σ5.1 6439 = Int32.ofInt (b2i bd5) → σ5.1 6411 = Int32.ofInt 0 → (stir = true → SlOK nv ns u5) → ps5.length ≤ 3 → Undm W t W5 t5 → FrM σ σ5 → t.length ≤ t5.length → t5.length ≤ t.length + 4 → (stir = true → pot nv u5.2.2.2.2.1 + u5.2.2.2.2.2.length = pot nv u.2.2.2.2.1 + u.2.2.2.2.2.length) → W5.2.2.2.2 = W.2.2.2.2 →
              ∃ σ' W' t' hs', m_same_156_l10 n σ5 = some (Int32.ofInt (if (uni nv stir (f + 1) s u bd ((x, y) :: r)).1 = 0 then 1 else 0), σ') ∧ MU σ' stir nv nc ns na W' t' (uni nv stir (f + 1) s u bd ((x, y) :: r)).2.2.1 (uni nv stir (f + 1) s u bd ((x, y) :: r)).2.1 hs' ∧ (stir = true → SlOK nv ns (uni nv stir (f + 1) s u bd ((x, y) :: r)).2.2.1) ∧ Undm W t W' t' ∧ FrM σ σ' ∧ σ'.1 6439 = Int32.ofInt (b2i (uni nv stir (f + 1) s u bd ((x, y) :: r)).2.2.2) ∧ σ'.1 6411 = Int32.ofInt (if (uni nv stir (f + 1) s u bd ((x, y) :: r)).1 = 2 then 3 else 0) ∧ t.length ≤ t'.length ∧ t'.length + 4 * s ≤ t.length + 4 * (uni nv stir (f + 1) s u bd ((x, y) :: r)).2.1 ∧ s ≤ (uni nv stir (f + 1) s u bd ((x, y) :: r)).2.1 ∧ (uni nv stir (f + 1) s u bd ((x, y) :: r)).1 ≤ 2 ∧
                (stir = true → pot nv (uni nv stir (f + 1) s u bd ((x, y) :: r)).2.2.1.2.2.2.2.1 + (uni nv stir (f + 1) s u bd ((x, y) :: r)).2.2.1.2.2.2.2.2.length = pot nv u.2.2.2.2.1 + u.2.2.2.2.2.length) ∧ W'.2.2.2.2 = W.2.2.2.2 := by
            intro σ5 u5 bd5 ps5 W5 t5 hs5 a1 a2 a3 a4 a5 a6 a7 a8 a9 a10 a11 a12 a13 a14
            rw [hX, hY] at a1
            rw [uni_some h500 a1]
            obtain ⟨σ', W', t', hs', b1, b2, b3, b4, b5, b6, b7, b8, b9, b10, b11, b12, b13⟩ := ih n (s + 1) u5 bd5 (ps5 ++ r) W5 t5 σ5 hs5 a2 a3 a4 a5 a6 a7 (by omega) (by omega) (by rw [List.length_append]; omega) (by omega)
            exact ⟨σ', W', t', hs', b1, b2, b3, a9.trans b4, a10.trans b5, b6, b7, by omega, by omega, by omega, b11, (fun z => by rw [b12 z, a13 z]), by rw [b13, a14]⟩
          have hB1 : σ1.1 6439 = Int32.ofInt (b2i bd) := by rw [f1 _ (by omega) (by omega), hB]
          have hT1 : σ1.1 6411 = Int32.ofInt 0 := by rw [f1 _ (by omega) (by omega), hT]
          have hlx := rx.2.2.1
          have hly := ry.2.2.1
          have wake : ∀ (v : Nat) (a z : Int) (Z : Tr), a = v → MTx (σ1.2 72) (σ1.2 73) (σ1.2 74) nv nc z Z → ¬ lab Z < 0 → v < nv → u.1 v = none → uni1 stir u bd X Y = some (if stir = true then uWake (uBind u v Z) v else uBind u v Z, true, []) →
              ∃ σ', (m_tie_159 (Int32.ofInt a) (Int32.ofInt z) σ1).bind (fun p => if p.1 6440 = Int32.ofInt 0 then (aget (p.2 76) 13000 (Int32.ofInt a)).bind (fun x6 => if Int32.ofInt 0 ≤ x6 then (aget (p.2 76) 13000 (Int32.ofInt a)).bind (fun x9 => (aput p 92 600 (p.1 6437) x9).bind (fun σ11 => qlet (upS σ11 6437 ((σ11.1 6437) + (Int32.ofInt 1))) (fun σ13 => m_same_156_l10 n σ13))) else m_same_156_l10 n p) else m_same_156_l10 n p) = some (Int32.ofInt (if (uni nv stir (f + 1) s u bd ((x, y) :: r)).1 = 0 then 1 else 0), σ') ∧ ∃ W' t' hs', MU σ' stir nv nc ns na W' t' (uni nv stir (f + 1) s u bd ((x, y) :: r)).2.2.1 (uni nv stir (f + 1) s u bd ((x, y) :: r)).2.1 hs' ∧ (stir = true → SlOK nv ns (uni nv stir (f + 1) s u bd ((x, y) :: r)).2.2.1) ∧ Undm W t W' t' ∧ FrM σ σ' ∧ σ'.1 6439 = Int32.ofInt (b2i (uni nv stir (f + 1) s u bd ((x, y) :: r)).2.2.2) ∧ σ'.1 6411 = Int32.ofInt (if (uni nv stir (f + 1) s u bd ((x, y) :: r)).1 = 2 then 3 else 0) ∧ t.length ≤ t'.length ∧ t'.length + 4 * s ≤ t.length + 4 * (uni nv stir (f + 1) s u bd ((x, y) :: r)).2.1 ∧ s ≤ (uni nv stir (f + 1) s u bd ((x, y) :: r)).2.1 ∧ (uni nv stir (f + 1) s u bd ((x, y) :: r)).1 ≤ 2 ∧
                (stir = true → pot nv (uni nv stir (f + 1) s u bd ((x, y) :: r)).2.2.1.2.2.2.2.1 + (uni nv stir (f + 1) s u bd ((x, y) :: r)).2.2.1.2.2.2.2.2.length = pot nv u.2.2.2.2.1 + u.2.2.2.2.2.length) ∧ W'.2.2.2.2 = W.2.2.2.2 := by
            intro v a z Z ha hZ hlZ hv huv hun
            obtain ⟨σ2, W2, t2, hs2, k1, k2, k3, k4, k5, k6, k7, k8, k9, k10⟩ := mbindT (K := m_same_156_l10 n) hU1 hS ha hZ hlZ hv huv (by omega) (by have := hU.2.2.2.2.2.2.2.1; omega)
            obtain ⟨σ', W', t', hs', g⟩ := again σ2 _ true [] W2 t2 hs2 hun k2 (hP1.congr (k9 72 (by omega) (by omega) (by omega) (by omega) (by omega) (by omega) (by omega)) (k9 73 (by omega) (by omega) (by omega) (by omega) (by omega) (by omega) (by omega)) (k9 74 (by omega) (by omega) (by omega) (by omega) (by omega) (by omega) (by omega)) (fun i _ => ⟨by rw [k9 90 (by omega) (by omega) (by omega) (by omega) (by omega) (by omega) (by omega)], by rw [k9 91 (by omega) (by omega) (by omega) (by omega) (by omega) (by omega) (by omega)]⟩)) (by rw [k10 _ (by omega) (by omega) (by omega)]; exact f36) k4 (by rw [k10 _ (by omega) (by omega) (by omega)]; exact hT1) (fun zz => by rw [if_pos zz]; exact (hS zz).wake huv) (by simp) k5 (hF1.trans ⟨fun k a b c d e f _ _ g => k9 k a b c d e f g, fun j a b _ _ _ c => k10 j a b c⟩) k6 k7 (fun zz => by rw [if_pos zz]; exact pot_wake hv) k8
            exact ⟨σ', k1.trans g.1, W', t', hs', g.2⟩
          have hXv : lab X < 0 → X = trVar (vnum X) := fun z => by
            rcases v2.cases with ⟨_, _, c⟩ | ⟨a, _⟩
            · have := (rx.2.2.2 (hlx.mpr z)).1
              rw [c, vnum_var]
            · exact absurd (hlx.mpr z) (by omega)
          have hYv : lab Y < 0 → Y = trVar (vnum Y) := fun z => by
            rcases w2.cases with ⟨_, _, c⟩ | ⟨a, _⟩
            · rw [c, vnum_var]
            · exact absurd (hly.mpr z) (by omega)
          have move : ∀ (hi lo : Nat) (a b c : Int) (Z : Tr), a = hi → b = lo → c = -1 - (lo : Int) → Z = trVar lo → hi < nv → lo < hi → u.1 hi = none → u.1 lo = none → uni1 stir u bd X Y = some (if stir = true then uMove (uBind u hi Z) hi lo else uBind u hi Z, true, []) →
              ∃ σ', (m_tie_159 (Int32.ofInt a) (Int32.ofInt c) σ1).bind (fun p => if p.1 6440 = Int32.ofInt 0 then (aget (p.2 76) 13000 (Int32.ofInt a)).bind (fun x51 => (aget (p.2 77) 13000 (Int32.ofInt a)).bind (fun x53 => (m_follow_161 (Int32.ofInt b) x51 x53 p).bind (fun p55 => m_same_156_l10 n p55))) else m_same_156_l10 n p) = some (Int32.ofInt (if (uni nv stir (f + 1) s u bd ((x, y) :: r)).1 = 0 then 1 else 0), σ') ∧ ∃ W' t' hs', MU σ' stir nv nc ns na W' t' (uni nv stir (f + 1) s u bd ((x, y) :: r)).2.2.1 (uni nv stir (f + 1) s u bd ((x, y) :: r)).2.1 hs' ∧ (stir = true → SlOK nv ns (uni nv stir (f + 1) s u bd ((x, y) :: r)).2.2.1) ∧ Undm W t W' t' ∧ FrM σ σ' ∧ σ'.1 6439 = Int32.ofInt (b2i (uni nv stir (f + 1) s u bd ((x, y) :: r)).2.2.2) ∧ σ'.1 6411 = Int32.ofInt (if (uni nv stir (f + 1) s u bd ((x, y) :: r)).1 = 2 then 3 else 0) ∧ t.length ≤ t'.length ∧ t'.length + 4 * s ≤ t.length + 4 * (uni nv stir (f + 1) s u bd ((x, y) :: r)).2.1 ∧ s ≤ (uni nv stir (f + 1) s u bd ((x, y) :: r)).2.1 ∧ (uni nv stir (f + 1) s u bd ((x, y) :: r)).1 ≤ 2 ∧
                (stir = true → pot nv (uni nv stir (f + 1) s u bd ((x, y) :: r)).2.2.1.2.2.2.2.1 + (uni nv stir (f + 1) s u bd ((x, y) :: r)).2.2.1.2.2.2.2.2.length = pot nv u.2.2.2.2.1 + u.2.2.2.2.2.length) ∧ W'.2.2.2.2 = W.2.2.2.2 := by
            intro hi lo a b c Z ha hb hc hZ hhi hlo uhi ulo hun
            subst hZ
            obtain ⟨σ2, W2, t2, k1, k2, k4, k5, k6, k7, k8, k9, k10⟩ := mbindV (K := m_same_156_l10 n) hU1 hS ha hb hc hhi hlo uhi ulo (by omega)
            obtain ⟨σ', W', t', hs', g⟩ := again σ2 _ true [] W2 t2 hs hun k2 (hP1.congr (k9 72 (by omega) (by omega) (by omega) (by omega) (by omega) (by omega)) (k9 73 (by omega) (by omega) (by omega) (by omega) (by omega) (by omega)) (k9 74 (by omega) (by omega) (by omega) (by omega) (by omega) (by omega)) (fun i _ => ⟨by rw [k9 90 (by omega) (by omega) (by omega) (by omega) (by omega) (by omega)], by rw [k9 91 (by omega) (by omega) (by omega) (by omega) (by omega) (by omega)]⟩)) (by rw [k10 _ (by omega) (by omega)]; exact f36) k4 (by rw [k10 _ (by omega) (by omega)]; exact hT1) (fun zz => by rw [if_pos zz]; exact (hS zz).move uhi ulo (by omega) (by omega)) (by simp) k5 (hF1.trans ⟨fun k a b c d e f _ _ _ => k9 k a b c d e f, fun j a b _ _ _ _ => k10 j a b⟩) k6 k7 (fun zz => by rw [if_pos zz, uMove_wk, pot_move (hS zz) uhi ulo hhi (by omega) (by omega)]; rfl) k8
            exact ⟨σ', k1.trans g.1, W', t', hs', g.2⟩
          by_cases hx0 : tx < 0
          · have lX := hlx.mp hx0
            obtain ⟨ex, nx⟩ := rx.2.2.2 hx0
            rw [if_neg (zleN (by omega) (by omega) (by omega) (by omega) (by omega))]
            by_cases hy0 : ty < 0
            · have lY := hly.mp hy0
              obtain ⟨ey, ny⟩ := ry.2.2.2 hy0
              rw [if_neg (zleN (by omega) (by omega) (by omega) (by omega) (by omega)), zsub, zsub]
              by_cases hle : vnum Y ≤ vnum X
              · rw [if_pos (zleP (by omega) (by omega) (by omega) (by omega) (by omega))]
                by_cases heq : vnum X = vnum Y
                · rw [if_pos (by congr 1; omega)]
                  refine again σ1 u bd [] W t hs ?_ hU1 hP1 f36 hB1 hT1 hS (by simp) Undm.refl hF1 (Nat.le_refl _) (by omega) (fun _ => rfl) rfl
                  unfold uni1
                  rw [if_pos lX, if_pos lY, if_pos heq]
                · rw [if_neg (zeqN (by omega) (by omega) (by omega) (by omega) (by omega)), zsub]
                  obtain ⟨σ', g1, W', t', hs', g2⟩ := move (vnum X) (vnum Y) (-1 - tx) (-1 - ty) (-1 - (-1 - ty)) Y (by omega) (by omega) (by omega) (hYv lY) nx (by omega) (v3 lX) (w3 lY) (by
                    unfold uni1
                    rw [if_pos lX, if_pos lY, if_neg heq, if_neg (by omega)])
                  exact ⟨σ', W', t', hs', g1, g2⟩
              · rw [if_neg (zleN (by omega) (by omega) (by omega) (by omega) (by omega)), if_neg (zeqN (by omega) (by omega) (by omega) (by omega) (by omega)), zsub]
                obtain ⟨σ', g1, W', t', hs', g2⟩ := move (vnum Y) (vnum X) (-1 - ty) (-1 - tx) (-1 - (-1 - tx)) X (by omega) (by omega) (by omega) (hXv lX) ny (by omega) (w3 lY) (v3 lX) (by
                  unfold uni1
                  rw [if_pos lX, if_pos lY, if_neg (by omega), if_pos (by omega)])
                exact ⟨σ', W', t', hs', g1, g2⟩
            · have lY : ¬ lab Y < 0 := fun z => hy0 (hly.mpr z)
              rw [if_pos (zleP (by omega) (by omega) (by omega) (by omega) (by omega)), if_pos (zltP (by omega) (by omega) (by omega) (by omega) (by omega))]
              unfold m_same_156_j166
              rw [z0, if_neg (zleN (by omega) (by omega) (by omega) (by omega) (by omega)), zsub]
              obtain ⟨σ', g1, W', t', hs', g2⟩ := wake (vnum X) (-1 - tx) ty Y (by omega) w2 lY nx (v3 lX) (by
                unfold uni1
                rw [if_pos lX, if_neg lY])
              exact ⟨σ', W', t', hs', g1, g2⟩
          · have lX : ¬ lab X < 0 := fun z => hx0 (hlx.mpr z)
            rw [if_pos (zleP (by omega) (by omega) (by omega) (by omega) (by omega)), if_neg (zltN (by omega) (by omega) (by omega) (by omega) (by omega))]
            by_cases hy0 : ty < 0
            · have lY := hly.mp hy0
              obtain ⟨ey, ny⟩ := ry.2.2.2 hy0
              rw [if_neg (zleN (by omega) (by omega) (by omega) (by omega) (by omega))]
              unfold m_same_156_j166
              rw [z0, if_pos (zleP (by omega) (by omega) (by omega) (by omega) (by omega)), zsub]
              obtain ⟨σ', g1, W', t', hs', g2⟩ := wake (vnum Y) (-1 - ty) tx X (by omega) v2 lX ny (w3 lY) (by
                unfold uni1
                rw [if_neg lX, if_pos lY])
              exact ⟨σ', W', t', hs', g1, g2⟩
            · have lY : ¬ lab Y < 0 := fun z => hy0 (hly.mpr z)
              obtain ⟨nx, hnx⟩ : ∃ nx : Nat, tx = nx := ⟨tx.toNat, by omega⟩
              obtain ⟨ny, hny⟩ : ∃ ny : Nat, ty = ny := ⟨ty.toNat, by omega⟩
              subst hnx
              subst hny
              rcases v2.cases with ⟨z, -⟩ | ⟨-, cx, ax, ax3, axb, sx, sx1, sxb, lx, rx', argx⟩
              · omega
              rcases w2.cases with ⟨z, -⟩ | ⟨-, cy, ay, ay3, ayb, sy, sy1, syb, ly, ry', argy⟩
              · omega
              rw [Int.toNat_natCast] at axb sxb argx ayb syb argy
              rw [if_pos (zleP (by omega) (by omega) (by omega) (by omega) (by omega)), agetI (i := nx) rfl (by omega) (by omega), Option.bind_some, agetI (i := ny) rfl (by omega) (by omega), Option.bind_some]
              rw [f2] at sxb syb axb ayb argx argy
              rw [sxb, syb]
              have hno : ¬ (sx = sy ∧ ax = ay) → ∃ σ' W' t' hs', m_same_156_j271 σ1 = some (Int32.ofInt (if (uni nv stir (f + 1) s u bd ((x, y) :: r)).1 = 0 then 1 else 0), σ') ∧ MU σ' stir nv nc ns na W' t' (uni nv stir (f + 1) s u bd ((x, y) :: r)).2.2.1 (uni nv stir (f + 1) s u bd ((x, y) :: r)).2.1 hs' ∧ (stir = true → SlOK nv ns (uni nv stir (f + 1) s u bd ((x, y) :: r)).2.2.1) ∧ Undm W t W' t' ∧ FrM σ σ' ∧ σ'.1 6439 = Int32.ofInt (b2i (uni nv stir (f + 1) s u bd ((x, y) :: r)).2.2.2) ∧ σ'.1 6411 = Int32.ofInt (if (uni nv stir (f + 1) s u bd ((x, y) :: r)).1 = 2 then 3 else 0) ∧ t.length ≤ t'.length ∧ t'.length + 4 * s ≤ t.length + 4 * (uni nv stir (f + 1) s u bd ((x, y) :: r)).2.1 ∧ s ≤ (uni nv stir (f + 1) s u bd ((x, y) :: r)).2.1 ∧ (uni nv stir (f + 1) s u bd ((x, y) :: r)).1 ≤ 2 ∧
                  (stir = true → pot nv (uni nv stir (f + 1) s u bd ((x, y) :: r)).2.2.1.2.2.2.2.1 + (uni nv stir (f + 1) s u bd ((x, y) :: r)).2.2.1.2.2.2.2.2.length = pot nv u.2.2.2.2.1 + u.2.2.2.2.2.length) ∧ W'.2.2.2.2 = W.2.2.2.2 := by
                intro hne
                have h1 : uni1 stir u bd X Y = none := by
                  unfold uni1
                  rw [if_neg lX, if_neg lY, if_neg (fun z => hne ⟨by omega, by omega⟩)]
                rw [hX, hY] at h1
                rw [uni_none h500 h1]
                exact ⟨σ1, W, t, hs, rfl, hU1, hS, Undm.refl, hF1, hB1, hT1, Nat.le_refl _, by dsimp only; omega, by dsimp only; omega, by dsimp only; omega, fun _ => rfl, rfl⟩
              by_cases hss : sx = sy
              · rw [if_pos (by rw [hss]), agetI (i := nx) rfl (by omega) (by omega), Option.bind_some, agetI (i := ny) rfl (by omega) (by omega), Option.bind_some, axb, ayb]
                by_cases haa : ax = ay
                · subst haa
                  rw [if_pos rfl, Option.bind_some, zsub]
                  obtain ⟨σ2, g1, g2, g3, g4, g5⟩ := pairsL_ok (nv := nv) (nc := nc) (x := nx) (y := ny) (X := X) (Y := Y) (K := m_same_156_l10 n) (by omega) (by omega) ax qF σ1 r hP1 f36 (by omega) ax3 (by unfold qF; omega) (by rw [f2]; exact argx) (by rw [f2]; exact argy)
                  rw [g1]
                  refine again σ2 u bd (prs X Y ax) W t hs ?_ (hU1.congr g4 (fun j a _ _ => g5 j a) (by rw [g5 _ (by omega)]; exact f30) (Nat.le_refl _) (by omega)) g2 g3 (by rw [g5 _ (by omega)]; exact hB1) (by rw [g5 _ (by omega)]; exact hT1) hS (by rw [prs_len]; exact ax3) Undm.refl (hF1.trans ⟨fun k _ _ _ _ _ _ a b _ => g4 k a b, fun j _ _ _ _ a _ => g5 j a⟩) (Nat.le_refl _) (by omega) (fun _ => rfl) rfl
                  unfold uni1
                  rw [if_neg lX, if_neg lY, if_pos ⟨by omega, by omega⟩, rx']
                · rw [if_neg (zeqN (by omega) (by omega) (by omega) (by omega) (by omega))]
                  exact hno (fun z => haa z.2)
              · rw [if_neg (zeqN (by omega) (by omega) (by omega) (by omega) (by omega))]
                exact hno (fun z => hss z.1)
