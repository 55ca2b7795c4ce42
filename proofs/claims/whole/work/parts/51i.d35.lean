/-! D35: the reference: who woke, in order; tests -/
theorem upA_at {σ : qC} {a i : Nat} {v : Int32} {b j : Nat} : (upA σ a i v).2 b j = if b = a ∧ j = i then v else σ.2 b j := by
  rw [upA_2]
  by_cases h : b = a
  · subst h
    rw [if_pos rfl, fup_at]
    by_cases h2 : j = i
    · rw [if_pos h2, if_pos ⟨rfl, h2⟩]
    · rw [if_neg h2, if_neg (fun z => h2 z.2)]
  · rw [if_neg h, if_neg (fun z => h z.1)]
theorem orderC_ok {nx sgm : Nat → Int} {ns : Nat} {K : Int32 → Int32 → Int32 → qC → Option (Int32 × qC)} {i1 i3 : Int32} : ∀ (l : List Nat) (e : Int) (n c : Nat) (σ : qC), chn nx e l → (∀ k, k ∈ l → k < ns) → (∀ k, k < ns → σ.2 86 k = Int32.ofInt (nx k) ∧ σ.2 85 k = Int32.ofInt (sgm k)) → ns ≤ 600 → c + l.length ≤ 1200 → l.length < n →
    ∃ σ', m_unify_155_l29 K n i1 (Int32.ofInt c) i3 (Int32.ofInt e) σ = K i1 (Int32.ofInt (c + l.length : Nat)) (i3 + Int32.ofInt 1) σ' ∧ σ'.1 = σ.1 ∧ (∀ k, k ≠ 93 → σ'.2 k = σ.2 k) ∧ (∀ i, i < c → σ'.2 93 i = σ.2 93 i) ∧ (∀ i (h : i < l.length), σ'.2 93 (c + i) = Int32.ofInt (sgm l[i])) := by
  intro l
  induction l with
  | nil =>
    intro e n c σ hc hl hs hns hb hn
    cases n with
    | zero => simp at hn
    | succ n =>
      have he : e = -1 := hc
      unfold m_unify_155_l29
      rw [he, z0, if_pos (by decide)]
      exact ⟨σ, rfl, rfl, fun _ _ => rfl, fun _ _ => rfl, fun i h => absurd h (by simp)⟩
  | cons k l ih =>
    intro e n c σ hc hl hs hns hb hn
    cases n with
    | zero => simp at hn
    | succ n =>
      rw [List.length_cons] at hb hn
      have he : e = (k : Int) := hc.1
      have hk := hl k List.mem_cons_self
      unfold m_unify_155_l29
      rw [he, z0, if_neg (zltN (by omega) (by omega) (by omega) (by omega) (by omega)), agetI (i := k) rfl (by omega) (by omega), Option.bind_some, (hs k hk).2, aputI (i := c) rfl (by omega) (by omega), Option.bind_some, agetI (i := k) rfl (by omega) (by omega), Option.bind_some, upA_ne (by omega), (hs k hk).1, zadd]
      obtain ⟨σ', p1, p2, p3, p4, p5⟩ := ih (nx k) n (c + 1) (upA σ 93 c (Int32.ofInt (sgm k))) hc.2 (fun j hj => hl j (List.mem_cons_of_mem _ hj)) (fun j hj => by rw [upA_ne (by omega), upA_ne (by omega)]; exact hs j hj) hns (by omega) (by omega)
      refine ⟨σ', ?_, p2, fun j hj => by rw [p3 j hj, upA_ne hj], fun i hi => by rw [p4 i (by omega), upA_eq, fup_at, if_neg (by omega)], fun i hi => ?_⟩
      · rw [List.length_cons, show c + (l.length + 1) = c + 1 + l.length by omega, ← p1]
        rfl
      · cases i with
        | zero =>
          rw [Nat.add_zero, p4 c (by omega), upA_eq, fup_at, if_pos rfl]
          rfl
        | succ i =>
          rw [show c + (i + 1) = c + 1 + i by omega, p5 i (by simpa using hi)]
          rfl
theorem orderL_ok {nx sgm : Nat → Int} {ns : Nat} {i1 : Int32} : ∀ (ls : List (List Nat)) (n i c : Nat) (σ : qC), (∀ l, l ∈ ls → l ≠ [] ∧ chn nx (hdI l) l ∧ l.length ≤ 600 ∧ ∀ k, k ∈ l → k < ns) → (∀ k, k < ns → σ.2 86 k = Int32.ofInt (nx k) ∧ σ.2 85 k = Int32.ofInt (sgm k)) → ns ≤ 600 → c + ls.flatten.length ≤ 1200 → ls.length < n → σ.1 6437 = Int32.ofInt (i + ls.length : Nat) → i + ls.length ≤ 600 → (∀ j (h : j < ls.length), σ.2 92 (i + j) = Int32.ofInt (hdI ls[j])) →
    ∃ σ', m_unify_155_l13 n i1 (Int32.ofInt c) (Int32.ofInt i) σ = (if σ.1 6439 = 0 then m_unify_155_l163 qF i1 (Int32.ofInt (c + ls.flatten.length : Nat) - Int32.ofInt 1) σ' else m_unify_155_l77 qF i1 (Int32.ofInt (c + ls.flatten.length : Nat)) (Int32.ofInt 0) σ') ∧ σ'.1 = σ.1 ∧ (∀ k, k ≠ 93 → σ'.2 k = σ.2 k) ∧ (∀ i, i < c → σ'.2 93 i = σ.2 93 i) ∧ (∀ i (h : i < ls.flatten.length), σ'.2 93 (c + i) = Int32.ofInt (sgm (ls.flatten[i]))) := by
  intro ls
  induction ls with
  | nil =>
    intro n i c σ h1 h2 h3 h4 h5 h6 h7 h8
    cases n with
    | zero => simp at h5
    | succ n =>
      unfold m_unify_155_l13
      rw [h6, if_pos (by rw [List.length_nil, Nat.add_zero]; exact zleP (by omega) (by omega) (by simp at h7; omega) (by omega) (by simp at h7; omega))]
      exact ⟨σ, rfl, rfl, fun _ _ => rfl, fun _ _ => rfl, fun i h => absurd h (by simp)⟩
  | cons l ls ih =>
    intro n i c σ h1 h2 h3 h4 h5 h6 h7 h8
    cases n with
    | zero => simp at h5
    | succ n =>
      obtain ⟨l0, l1, l2, l3⟩ := h1 l List.mem_cons_self
      rw [List.length_cons] at h5 h6 h7
      rw [List.flatten_cons, List.length_append] at h4
      have h80 := h8 0 (by simp)
      rw [Nat.add_zero] at h80
      unfold m_unify_155_l13
      rw [h6, if_neg (zleN (by omega) (by omega) (by omega) (by omega) (by omega)), agetI (i := i) rfl (by omega) (by omega), Option.bind_some, h80]
      have e0 : hdI (l :: ls)[0] = hdI l := rfl
      rw [e0]
      obtain ⟨σ1, p1, p2, p3, p4, p5⟩ := orderC_ok (K := m_unify_155_l13 n) (i1 := i1) (i3 := Int32.ofInt i) l (hdI l) qF c σ l1 l3 h2 h3 (by omega) (by unfold qF; omega)
      rw [p1, zadd]
      obtain ⟨σ', q1, q2, q3, q4, q5⟩ := ih n (i + 1) (c + l.length) σ1 (fun l' hl' => h1 l' (List.mem_cons_of_mem _ hl')) (fun k hk => by rw [p3 86 (by omega), p3 85 (by omega)]; exact h2 k hk) h3 (by omega) (by omega) (by rw [p2, h6]; congr 1; omega) (by omega) (fun j hj => by
        have := h8 (j + 1) (by rw [List.length_cons]; omega)
        rw [p3 92 (by omega), show i + 1 + j = i + (j + 1) by omega, this]
        rfl)
      refine ⟨σ', ?_, by rw [q2, p2], fun k hk => by rw [q3 k hk, p3 k hk], fun j hj => by rw [q4 j (by omega), p4 j hj], fun j hj => ?_⟩
      · rw [List.flatten_cons, List.length_append, ← Nat.add_assoc, ← p2]
        exact q1
      · rw [List.flatten_cons, List.length_append] at hj
        by_cases hlt : j < l.length
        · rw [q4 _ (by omega), p5 j hlt]
          congr 2
          simp only [List.flatten_cons]
          rw [List.getElem_append_left hlt]
        · have := q5 (j - l.length) (by omega)
          rw [show c + l.length + (j - l.length) = c + j by omega] at this
          rw [this]
          congr 2
          simp only [List.flatten_cons]
          rw [List.getElem_append_right (by omega)]
/-! tests -/
def RA1m (σ : qC) (nv nc a : Nat) (X Y : Tr) : Prop := ∃ x y : Int, σ.2 87 a = Int32.ofInt x ∧ σ.2 88 a = Int32.ofInt y ∧ MTx (σ.2 72) (σ.2 73) (σ.2 74) nv nc x X ∧ MTx (σ.2 72) (σ.2 73) (σ.2 74) nv nc y Y
theorem RA1m.congr {σ σ' : qC} {nv nc a : Nat} {X Y : Tr} (h : RA1m σ nv nc a X Y) (h72 : σ'.2 72 = σ.2 72) (h73 : σ'.2 73 = σ.2 73) (h74 : σ'.2 74 = σ.2 74) (h87 : σ'.2 87 a = σ.2 87 a) (h88 : σ'.2 88 a = σ.2 88 a) : RA1m σ' nv nc a X Y := by
  obtain ⟨x, y, h1, h2, h3, h4⟩ := h
  exact ⟨x, y, by rw [h87, h1], by rw [h88, h2], by rw [h72, h73, h74]; exact h3, by rw [h72, h73, h74]; exact h4⟩
def apFm (go : Nat → Int) (L R : Nat → Tr) : Nat → Nat → List (Tr × Tr)
  | 0, _ => []
  | k + 1, i => if go i = 0 then (L i, R i) :: apFm go L R k (i + 1) else apFm go L R k (i + 1)
theorem apFm_congr {go go' : Nat → Int} {L R L' R' : Nat → Tr} : ∀ {k i : Nat}, (∀ a, i ≤ a → a < i + k → go' a = go a ∧ L' a = L a ∧ R' a = R a) → apFm go' L' R' k i = apFm go L R k i
  | 0, _, _ => rfl
  | k + 1, i, h => by
    unfold apFm
    rw [(h i (by omega) (by omega)).1, (h i (by omega) (by omega)).2.1, (h i (by omega) (by omega)).2.2, apFm_congr (k := k) (i := i + 1) (fun a h1 h2 => h a (by omega) (by omega))]
def go01 (W : Wm) : Prop := ∀ a, W.2.2.2.2 a = 0 ∨ W.2.2.2.2 a = 1
set_option maxHeartbeats 2000000 in
theorem testsM_ok {nv nc ns na : Nat} {u : Us} {L R : Nat → Tr} {i1 i2 : Int32} : ∀ (k i n s : Nat) (W : Wm) (t : List Em) (σ : qC), i + k = na → MB σ nv nc ns na W t u s 0 → go01 W → (∀ a, a < na → RA1m σ nv nc a (L a) (R a)) → k < n → t.length ≤ 4 * s + 2000 →
    ∃ σ' W' t', m_unify_155_l77 n i1 i2 (Int32.ofInt i) σ = (if (tall nv u (apFm W.2.2.2.2 L R k i) s).1 = 0 then m_unify_155_l163 qF i1 (i2 - Int32.ofInt 1) σ' else some (Int32.ofInt 0, σ')) ∧ MB σ' nv nc ns na W' t' u (tall nv u (apFm W.2.2.2.2 L R k i) s).2.1 (if (tall nv u (apFm W.2.2.2.2 L R k i) s).1 = 2 then 3 else 0) ∧ FrX σ σ' ∧ Undm W t W' t' ∧ s ≤ (tall nv u (apFm W.2.2.2.2 L R k i) s).2.1 ∧ (tall nv u (apFm W.2.2.2.2 L R k i) s).1 ≤ 2 ∧ t'.length + 4 * s ≤ t.length + 4 * (tall nv u (apFm W.2.2.2.2 L R k i) s).2.1 ∧ go01 W' ∧ (W'.1, W'.2.1, W'.2.2.1, W'.2.2.2.1) = (W.1, W.2.1, W.2.2.1, W.2.2.2.1) ∧ (∀ a, a < i ∨ na ≤ a → W'.2.2.2.2 a = W.2.2.2.2 a) ∧ ((tall nv u (apFm W.2.2.2.2 L R k i) s).1 = 0 → apFm W'.2.2.2.2 L R k i = (tall nv u (apFm W.2.2.2.2 L R k i) s).2.2) := by
  intro k
  induction k with
  | zero =>
    intro i n s W t σ hi h hg hA hn ht
    cases n with
    | zero => omega
    | succ n =>
      have h6 := h.1.2.2.2.2.2
      unfold m_unify_155_l77
      rw [h.1.2.2.2.1.2.2.1, if_pos (zleP (by omega) (by omega) (by omega) (by omega) (by omega))]
      exact ⟨σ, W, t, rfl, h, FrX.refl, Undm.refl, Nat.le_refl _, by unfold apFm tall; simp, Nat.le_refl _, hg, rfl, fun _ _ => rfl, fun _ => rfl⟩
  | succ k ih =>
    intro i n s W t σ hi h hg hA hn ht
    cases n with
    | zero => omega
    | succ n =>
      have h6 := h.1.2.2.2.2.2
      unfold m_unify_155_l77
      rw [h.1.2.2.2.1.2.2.1, if_neg (zleN (by omega) (by omega) (by omega) (by omega) (by omega)), agetI (i := i) rfl (by omega) (by omega), Option.bind_some, h.1.2.2.1 i (by omega)]
      rcases hg i with w0 | w1
      · have ea : apFm W.2.2.2.2 L R (k + 1) i = (L i, R i) :: apFm W.2.2.2.2 L R k (i + 1) := by
          conv => lhs; unfold apFm
          rw [if_pos w0]
        obtain ⟨x, y, x1, y1, x2, y2⟩ := hA i (by omega)
        rw [w0, if_neg (by decide), agetI (i := i) rfl (by omega) (by omega), Option.bind_some, agetI (i := i) rfl (by omega) (by omega), Option.bind_some, x1, y1, ea, tall_c]
        obtain ⟨σ1, g1, g2, g3, g4, g5⟩ := test_m h x2 y2 ht
        rw [g1, Option.bind_some]
        dsimp only
        have hfx : ∀ k', k' = 72 ∨ k' = 73 ∨ k' = 74 ∨ k' = 87 ∨ k' = 88 → σ1.2 k' = σ.2 k' := fun k' hk' => g3.1 k' (by omega) (by omega) (by omega) (by omega) (by omega) (by omega) (by omega) (by omega) (by omega) (by omega)
        have hA1 : ∀ a, a < na → RA1m σ1 nv nc a (L a) (R a) := fun a ha => (hA a ha).congr (hfx 72 (by omega)) (hfx 73 (by omega)) (hfx 74 (by omega)) (by rw [hfx 87 (by omega)]) (by rw [hfx 88 (by omega)])
        have hst : (uni nv false 502 s u false [(L i, R i)]).1 ≠ 2 → s < (uni nv false 502 s u false [(L i, R i)]).2.1 := by
          intro z
          by_cases h5 : 500 ≤ s
          · exfalso
            apply z
            have : uni nv false 502 s u false [(L i, R i)] = (2, s, u, false) := by
              unfold uni
              rw [if_pos h5]
            rw [this]
          · cases h1 : uni1 false u false (fnd (nv + 1) u.1 (L i)) (fnd (nv + 1) u.1 (R i)) with
            | none => rw [uni_none h5 h1]; dsimp only; omega
            | some q =>
              obtain ⟨u', bd', ps'⟩ := q
              rw [uni_some h5 h1]
              have := uni_steps (nv := nv) (stir := false) 501 (s + 1) u' bd' (ps' ++ [])
              omega
        clear g1
        generalize uni nv false 502 s u false [(L i, R i)] = Q at *
        unfold tm
        by_cases c2 : Q.1 = 2
        · rw [if_pos c2, if_pos c2, if_pos rfl]
          rw [if_pos c2] at g2
          exact ⟨σ1, W, t, (if_neg (by simp)).symm, g2, g3, Undm.refl, g4, by simp, by dsimp only; omega, hg, rfl, fun _ _ => rfl, fun z => by cases z⟩
        · rw [if_neg c2, if_neg c2]
          rw [if_neg c2] at g2
          have hlt := hst c2
          by_cases c1 : Q.1 = 1
          · rw [if_pos c1, if_pos c1, if_neg (by decide), if_neg (by decide), zmul, zadd]
            obtain ⟨b1, b2, b3, b4, b5, b6, b7⟩ := g2
            obtain ⟨σ2, p1, p2, p3, p4⟩ := change_ok (w := 5 * i + 4) (a := (i : Int) * 5 + 4) (o := 0) b1 (by omega) (by omega) (by omega)
            rw [p1, Option.bind_some, aputI (i := i) rfl (by omega) (by omega), Option.bind_some, zadd]
            obtain ⟨σ3, hσ3⟩ : ∃ σ3, σ3 = upA σ2 89 i (Int32.ofInt 1) := ⟨_, rfl⟩
            rw [← hσ3]
            have s31 : σ3.1 = σ2.1 := by rw [hσ3]; rfl
            have s32 : ∀ k', k' ≠ 89 → σ3.2 k' = σ2.2 k' := fun k' hk' => by rw [hσ3, upA_ne hk']
            have hW3 : MW σ3 (W.1, W.2.1, W.2.2.1, W.2.2.2.1, gup W.2.2.2.2 i 1) ((5 * i + 4, 0) :: t) nv ns na := by
              obtain ⟨e1, e2, e3, e4, e5, e6⟩ := p2
              refine ⟨by rw [s32 75 (by omega), s32 76 (by omega), s32 77 (by omega)]; exact e1, by rw [s32 86 (by omega)]; exact e2, fun a ha => ?_, by rw [s31]; exact e4, by rw [s32 83 (by omega), s32 84 (by omega)]; exact e5, e6⟩
              dsimp only
              rw [hσ3, upA_eq, fup_at, gup_at]
              by_cases e : a = i
              · rw [if_pos e, if_pos e]
              · rw [if_neg e, if_neg e]
                exact e3 a ha
            have hMB3 : MB σ3 nv nc ns na (W.1, W.2.1, W.2.2.1, W.2.2.2.1, gup W.2.2.2.2 i 1) ((5 * i + 4, 0) :: t) u Q.2.1 0 := by
              refine ⟨hW3, WUm.congr (σ := σ1) ⟨b2.1, b2.2⟩ (Nat.le_refl _) (Nat.le_refl _) (fun j _ => by rw [s32 72 (by omega), p3 72 (by omega) (by omega)]) (fun j _ => by rw [s32 73 (by omega), p3 73 (by omega) (by omega)]) (fun j _ => by rw [s32 74 (by omega), p3 74 (by omega) (by omega)]), ?_, b4, ⟨by rw [s31, p4 _ (by omega), b5.1], by rw [s31, p4 _ (by omega), b5.2.1], by rw [s31, p4 _ (by omega), b5.2.2]⟩, b6, b7⟩
              intro x hx
              rcases List.mem_cons.mp hx with rfl | hx
              · exact ⟨fun z => by dsimp only at z; omega, fun z => by dsimp only at z; omega, fun z => by dsimp only; omega⟩
              · exact b3 x hx
            have hap : apFm (gup W.2.2.2.2 i 1) L R k (i + 1) = apFm W.2.2.2.2 L R k (i + 1) := apFm_congr (fun a h1 h2 => ⟨by rw [gup_at, if_neg (by omega)], rfl, rfl⟩)
            have hg3 : go01 (W.1, W.2.1, W.2.2.1, W.2.2.2.1, gup W.2.2.2.2 i 1) := by
              intro a
              dsimp only
              rw [gup_at]
              split
              · exact Or.inr rfl
              · exact hg a
            have hu3 : Undm W t (W.1, W.2.1, W.2.2.1, W.2.2.2.1, gup W.2.2.2.2 i 1) ((5 * i + 4, 0) :: t) := by
              refine Undm.one ?_
              unfold unm1
              rw [if_neg (by dsimp only; omega), if_neg (by dsimp only; omega), if_neg (by dsimp only; omega), if_neg (by dsimp only; omega), show (5 * i + 4, (0 : Int)).1 / 5 = i by dsimp only; omega]
              dsimp only
              rw [gup_gup, gup_self w0]
            have hF3 : FrX σ1 σ3 := ⟨fun k' _ _ _ _ a b c _ _ _ => by rw [s32 k' a, p3 k' b c], fun j a _ _ _ _ _ _ => by rw [s31, p4 j a]⟩
            obtain ⟨σ', W', t', q1, q2, q3, q4, q5, q6, q7, q8, q9, q10, q11⟩ := ih (i + 1) n Q.2.1 _ _ σ3 (by omega) hMB3 hg3 (fun a ha => (hA1 a ha).congr (by rw [s32 72 (by omega), p3 72 (by omega) (by omega)]) (by rw [s32 73 (by omega), p3 73 (by omega) (by omega)]) (by rw [s32 74 (by omega), p3 74 (by omega) (by omega)]) (by rw [s32 87 (by omega), p3 87 (by omega) (by omega)]) (by rw [s32 88 (by omega), p3 88 (by omega) (by omega)])) (by omega) (by rw [List.length_cons]; omega)
            dsimp only at q1 q2 q5 q6 q7 q9 q10 q11
            rw [hap] at q1 q2 q5 q6 q7 q11
            rw [List.length_cons] at q7
            refine ⟨σ', W', t', q1, q2, g3.trans (hF3.trans q3), hu3.trans q4, by omega, q6, by omega, q8, q9, fun a ha => ?_, fun hc => ?_⟩
            · rw [q10 a (by omega), gup_at, if_neg (by omega)]
            · rw [← q11 hc]
              conv => lhs; unfold apFm
              rw [if_neg (by rw [q10 i (by omega), gup_at, if_pos rfl]; omega)]
          · rw [if_neg c1, if_neg c1]
            by_cases hbd : Q.2.2.2 = false
            · rw [if_pos hbd, if_pos hbd, if_pos rfl]
              exact ⟨σ1, W, t, (if_neg (by simp)).symm, g2, g3, Undm.refl, g4, by simp, by dsimp only; omega, hg, rfl, fun _ _ => rfl, fun z => by cases z⟩
            · rw [if_neg hbd, if_neg hbd, if_neg (by decide), if_pos rfl, zadd]
              obtain ⟨σ', W', t', q1, q2, q3, q4, q5, q6, q7, q8, q9, q10, q11⟩ := ih (i + 1) n Q.2.1 W t σ1 (by omega) g2 hg hA1 (by omega) (by omega)
              dsimp only
              refine ⟨σ', W', t', q1, q2, g3.trans q3, q4, by omega, q6, by omega, q8, q9, fun a ha => q10 a (by omega), fun hc => ?_⟩
              rw [← q11 hc]
              conv => lhs; unfold apFm
              rw [if_pos (by rw [q10 i (by omega)]; exact w0)]
      · have ea : apFm W.2.2.2.2 L R (k + 1) i = apFm W.2.2.2.2 L R k (i + 1) := by
          conv => lhs; unfold apFm
          rw [if_neg (by omega)]
        rw [w1, if_pos rfl, ea, zadd]
        obtain ⟨σ', W', t', q1, q2, q3, q4, q5, q6, q7, q8, q9, q10, q11⟩ := ih (i + 1) n s W t σ (by omega) h hg hA (by omega) ht
        refine ⟨σ', W', t', q1, q2, q3, q4, q5, q6, q7, q8, q9, fun a ha => q10 a (by omega), fun hc => ?_⟩
        rw [← q11 hc]
        conv => lhs; unfold apFm
        rw [if_neg (by rw [q10 i (by omega)]; omega)]
