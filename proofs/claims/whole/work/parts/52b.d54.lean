/-! D54: the reference's search is the common one -/
/-- what the search's state stands on -/
def MSc (σ σ' : qC) : Prop := (∀ k, 66 ≤ k ∧ k ≤ 67 ∨ 72 ≤ k ∧ k ≤ 102 → σ'.2 k = σ.2 k) ∧ (∀ j, j = 6408 ∨ 6425 ≤ j ∧ j ≤ 6430 ∨ 6432 ≤ j ∧ j ≤ 6435 ∨ j = 6440 → σ'.1 j = σ.1 j)
theorem MSc.mw {σ σ' : qC} {W : Wm} {t : List Em} {nv ns na : Nat} (h : MSc σ σ') (hW : MW σ W t nv ns na) : MW σ' W t nv ns na := hW.congr (fun k hk => h.1 k (by omega)) (fun j hj => h.2 j (by omega))
theorem MSc.stat {σ σ' : qC} {cls : List Cl} (h : MSc σ σ') (hS : MStat σ cls) : MStat σ' cls := hS.congr (h.2 _ (by omega)) (h.1 _ (by omega)) (h.1 _ (by omega))
theorem MSc.sn {σ σ' : qC} {s : Nat} {ch : List Ch} {W : Wm} {t : List Em} {nv ns na nc ng : Nat} (h : MSc σ σ') (hS : SnM σ s ch W t nv ns na nc ng) : SnM σ' s ch W t nv ns na nc ng :=
  hS.congr (fun _ _ => by rw [h.1 72 (by omega)]) (fun _ _ => by rw [h.1 73 (by omega)]) (fun _ _ => by rw [h.1 74 (by omega)]) (fun _ _ => by rw [h.1 85 (by omega)]) (fun _ _ => ⟨by rw [h.1 87 (by omega)], by rw [h.1 88 (by omega)]⟩) (fun _ _ => ⟨by rw [h.1 78 (by omega)], by rw [h.1 79 (by omega)], by rw [h.1 80 (by omega)], by rw [h.1 81 (by omega)], by rw [h.1 82 (by omega)]⟩) (fun k i a b _ => by rw [h.1 k (by omega)])
theorem MSc.ms {σ σ' : qC} {cls : List Cl} {m : Ma} (h : MSc σ σ') (h11 : σ'.1 6411 = Int32.ofInt 0) (hS : MS σ cls m) : MS σ' cls m := by
  obtain ⟨W, t, na, nc, ng, a1, ⟨m1, m2, m3, m4, ⟨m5, m6, m7⟩, m8, m9⟩, a3, a4, ⟨k1, k2, k3, k4⟩, ⟨g, g1, g2⟩, a7, a8⟩ := hS
  refine ⟨W, t, na, nc, ng, h.stat a1, ⟨h.mw m1, m2.congr (Nat.le_refl _) (Nat.le_refl _) (fun _ _ => by rw [h.1 72 (by omega)]) (fun _ _ => by rw [h.1 73 (by omega)]) (fun _ _ => by rw [h.1 74 (by omega)]), m3, m4, ⟨by rw [h.2 _ (by omega), m5], by rw [h.2 _ (by omega), m6], h11⟩, m8, m9⟩, a3.congr (fun _ _ => by rw [h.1 72 (by omega)]) (fun _ _ => by rw [h.1 73 (by omega)]) (fun _ _ => by rw [h.1 74 (by omega)]) (fun _ _ => by rw [h.1 85 (by omega)]) (fun _ _ => ⟨by rw [h.1 87 (by omega)], by rw [h.1 88 (by omega)]⟩), a4, ⟨by rw [h.2 _ (by omega), k1], by rw [h.2 _ (by omega), k2], by rw [h.2 _ (by omega), k3], by rw [h.2 _ (by omega), k4]⟩, ⟨g, by rw [h.2 _ (by omega), g1], ?_⟩, h.sn a7, a8⟩
  exact g2.mono (Nat.le_refl _) (Nat.le_refl _) (Nat.le_refl _) (fun _ _ => by rw [h.1 72 (by omega)]) (fun _ _ => by rw [h.1 73 (by omega)]) (fun _ _ => by rw [h.1 74 (by omega)]) (fun _ _ => ⟨by rw [h.1 78 (by omega)], by rw [h.1 79 (by omega)], by rw [h.1 80 (by omega)], by rw [h.1 81 (by omega)], by rw [h.1 82 (by omega)]⟩)
theorem MSc.fl {σ σ' : qC} {cls : List Cl} {s bn : Nat} {ch : List Ch} {th th' : Int} (h : MSc σ σ') (h11 : σ'.1 6411 = Int32.ofInt th') (hS : MFl σ cls s bn ch th) : MFl σ' cls s bn ch th' := by
  obtain ⟨W, t, nv, ns, na, nc, ng, a1, m1, m3, ⟨m5, m6, m7⟩, ⟨k1, k4⟩, a7, a8⟩ := hS
  exact ⟨W, t, nv, ns, na, nc, ng, h.stat a1, h.mw m1, m3, ⟨by rw [h.2 _ (by omega), m5], by rw [h.2 _ (by omega), m6], h11⟩, ⟨by rw [h.2 _ (by omega), k1], by rw [h.2 _ (by omega), k4]⟩, h.sn a7, a8⟩
theorem MSc.upS {σ : qC} {k : Nat} {v : Int32} (hk : k = 6411 ∨ k = 6431 ∨ k = 6438) : MSc σ (upS σ k v) := ⟨fun _ _ => rfl, fun j hj => by rw [upS_1, if_neg (by omega)]⟩
theorem MSc.trans {σ σ' σ'' : qC} (h : MSc σ σ') (g : MSc σ' σ'') : MSc σ σ'' := ⟨fun k hk => by rw [g.1 k hk, h.1 k hk], fun j hj => by rw [g.2 j hj, h.2 j hj]⟩
theorem MS.fl {σ : qC} {cls : List Cl} {m : Ma} (h : MS σ cls m) : MFl σ cls m.1 m.2.1 m.2.2.2.2 0 := by
  obtain ⟨W, t, na, nc, ng, a1, a2, a3, a4, a5, a6, a7, a8⟩ := h
  exact ⟨W, t, _, _, na, nc, ng, a1, a2.1, a2.2.2.1, a2.2.2.2.2.1, ⟨a5.1, a5.2.2.2⟩, a7, a2.2.2.2.2.2.2, a8⟩
/-- the end of a search -/
def MEnd (σ : qC) (cls : List Cl) (a b : Int32) (r : Nat × Ma) : Prop := (r.1 = 0 ∧ MS σ cls r.2 ∧ σ.1 6431 = a + Int32.ofInt 1 ∧ σ.1 6438 = b) ∨ (r.1 ≠ 0 ∧ r.1 ≤ 3 ∧ MFl σ cls r.2.1 r.2.2.1 r.2.2.2.2.2 (r.1 + 1) ∧ σ.1 6438 = Int32.ofInt 0)
theorem l17_thr {σ : qC} {n : Nat} {i2 : Int32} {th : Int} (h : σ.1 6411 = Int32.ofInt th) (hth : 0 < th ∧ th < 100) (hi : i2 = 0) : m_seek_148_l17 (n + 1) i2 σ = some (Int32.ofInt 0, upS σ 6438 (Int32.ofInt 0)) := by
  unfold m_seek_148_l17
  rw [if_pos hi, h, z0, if_neg (zeqN (by omega) (by omega) (by omega) (by omega) (by omega)), if_neg (zleN (by omega) (by omega) (by omega) (by omega) (by omega))]
  rfl
theorem thr_end {σ : qC} {cls : List Cl} {n : Nat} {a b : Int32} {r : Nat × Ma} {i2 : Int32} (h1 : r.1 = 2 ∨ r.1 = 3) (h : MFl σ cls r.2.1 r.2.2.1 r.2.2.2.2.2 (thc r.1)) (hi : i2 = 0) : ∃ σ', m_seek_148_l17 (n + 1) i2 σ = some (Int32.ofInt (if r.1 = 0 then (r.2.1 : Int) else 0), σ') ∧ MEnd σ' cls a b r := by
  have h' := h
  obtain ⟨W, t, nv, ns, na, nc, ng, a1, m1, m3, ⟨m5, m6, m7⟩, -⟩ := h'
  have e : thc r.1 = r.1 + 1 := by
    unfold thc
    rcases h1 with z | z <;> rw [z] <;> rfl
  refine ⟨upS σ 6438 (Int32.ofInt 0), ?_, Or.inr ⟨by omega, by omega, (MSc.upS (by omega : 6438 = 6411 ∨ 6438 = 6431 ∨ 6438 = 6438)).fl (by rw [upS_1, if_neg (by omega), m7, e]) h, by rw [upS_1, if_pos rfl]⟩⟩
  rw [l17_thr m7 (by rw [e]; omega) hi, if_neg (by omega)]
set_option maxHeartbeats 4000000 in
theorem seekL_m {cls : List Cl} (hcl : ∀ i, i < cls.length → clOK (cls.getD i clNil)) {a b : Int32} : ∀ (f : Nat) (m : Ma) (σ : qC), f ≤ qF → AInv cls m → σ.1 6431 = a → σ.1 6438 = b →
    (MS σ cls m → (aRun cls f 0 m).1 ≠ 9 → ∀ n, f ≤ n → ∃ σ', m_seek_148_l17 n (Int32.ofInt 1) σ = some (Int32.ofInt (if (aRun cls f 0 m).1 = 0 then ((aRun cls f 0 m).2.1 : Int) else 0), σ') ∧ MEnd σ' cls a b (aRun cls f 0 m)) ∧
    (MFl σ cls m.1 m.2.1 m.2.2.2.2 0 → (aRun cls f 1 m).1 ≠ 9 → ∀ nb nl, f ≤ nb → f ≤ nl → ∃ σ', (m_back_149_l0 nb σ).bind (fun p => if p.1 = 0 then m_seek_148_l17 nl (Int32.ofInt 0) p.2 else m_seek_148_l17 nl (Int32.ofInt 1) p.2) = some (Int32.ofInt (if (aRun cls f 1 m).1 = 0 then ((aRun cls f 1 m).2.1 : Int) else 0), σ') ∧ MEnd σ' cls a b (aRun cls f 1 m)) := by
  intro f
  induction f with
  | zero =>
    intro m σ _ _ _ _
    exact ⟨fun _ h => absurd rfl h, fun _ h => absurd rfl h⟩
  | succ f ih =>
    intro m σ hq hA ha hb
    refine ⟨fun hM h9 n hn => ?_, fun hF h9 nb nl hnb hnl => ?_⟩
    · obtain ⟨s, bn, st, td, ch⟩ := m
      cases n with
      | zero => omega
      | succ n =>
        have hM' := hM
        obtain ⟨W, t, na, nc, ng, a1, hB, a3, a4, ⟨k1, k2, k3, k4⟩, ⟨g, g1, g2⟩, a7, a8⟩ := hM
        have hB' := hB
        obtain ⟨m1, m2, m3, m4, ⟨m5, m6, m7⟩, m8, m9⟩ := hB
        dsimp only at *
        cases td with
        | nil =>
          have e : aRun cls (f + 1) 0 (s, bn, st, [], ch) = (0, (s, bn, st, [], ch)) := rfl
          rw [e]
          have g2 : g = -1 := g2
          refine ⟨upS σ 6431 (a + Int32.ofInt 1), ?_, Or.inl ⟨rfl, (MSc.upS (by omega : 6431 = 6411 ∨ 6431 = 6431 ∨ 6431 = 6438)).ms (by rw [upS_1, if_neg (by omega), m7]) hM', by rw [upS_1, if_pos rfl], by rw [upS_1, if_neg (by omega), hb]⟩⟩
          unfold m_seek_148_l17
          rw [if_neg (by decide), g1, g2, if_pos (by decide), m7, if_pos (by decide), if_pos (by decide)]
          dsimp only [qlet]
          rw [ha, upS_1, if_neg (by omega), m5, if_pos rfl]
        | cons q rest =>
          obtain ⟨gi, x, y, g', e1, e2, e3, e4, e5, e6, e7⟩ := g2
          obtain ⟨d1, d2, d3, d4, d5, d6⟩ := a4
          try dsimp only at *
          have hgi : g = gi := e1
          unfold m_seek_148_l17
          rw [if_neg (by decide), g1, hgi, z0, if_neg (zltN (by omega) (by omega) (by omega) (by omega) (by omega)), m7, if_pos rfl]
          by_cases hs : 500 ≤ s
          · have e : aRun cls (f + 1) 0 (s, bn, st, q :: rest, ch) = (2, (s, bn, st, q :: rest, ch)) := by
              unfold aRun
              rw [if_pos rfl]
              dsimp only
              rw [if_pos hs]
            rw [e]
            have hs5 : s = 500 := by omega
            rw [step_end (by rw [m5, hs5]; rfl), Option.bind_some]
            dsimp only [qlet]
            rw [upS_1, if_pos rfl, if_pos rfl, if_neg (by decide), if_neg (by decide)]
            refine ⟨_, rfl, Or.inr ⟨by dsimp only; omega, by dsimp only; omega, ?_, by rw [upS_1, if_pos rfl]⟩⟩
            exact ((MSc.upS (k := 6411) (v := Int32.ofInt 3) (by omega)).trans (MSc.upS (k := 6438) (v := Int32.ofInt 0) (by omega))).fl (by rw [upS_1, if_neg (by omega), upS_1, if_pos rfl]; rfl) hM'.fl
          · have eR : aRun cls (f + 1) 0 (s, bn, st, q :: rest, ch) = aRun cls f (aDo cls q (s + 1, bn, st, rest, ch)).1 (aDo cls q (s + 1, bn, st, rest, ch)).2 := by
              conv => lhs; unfold aRun
              rw [if_pos rfl]
              dsimp only
              rw [if_neg hs]
            rw [eR] at h9 ⊢
            rw [step_ok (by omega) m5 m7, Option.bind_some]
            dsimp only
            obtain ⟨σ1, hσ1⟩ : ∃ σ1, σ1 = upS σ 6430 (Int32.ofInt (s + 1 : Nat)) := ⟨_, rfl⟩
            rw [← hσ1, if_neg (by decide)]
            have s1 : ∀ j, j ≠ 6430 → σ1.1 j = σ.1 j := fun j hj => by rw [hσ1, upS_1, if_neg hj]
            have s2 : σ1.2 = σ.2 := by rw [hσ1]; rfl
            rw [s1 6429 (by omega), g1, hgi]
            have hP : MP1 σ1 cls (s + 1) bn st rest ch W t na nc ng g' := by
              refine ⟨a1.congr (s1 _ (by omega)) (by rw [s2]) (by rw [s2]), ⟨m1.congr (fun _ _ => by rw [s2]) (fun j hj => s1 j (by omega)), m2.congr (Nat.le_refl _) (Nat.le_refl _) (fun _ _ => by rw [s2]) (fun _ _ => by rw [s2]) (fun _ _ => by rw [s2]), m3, m4, ⟨by rw [hσ1, upS_1, if_pos rfl], by rw [s1 _ (by omega), m6], by rw [s1 _ (by omega), m7]⟩, m8, by omega⟩, a3.congr (fun _ _ => by rw [s2]) (fun _ _ => by rw [s2]) (fun _ _ => by rw [s2]) (fun _ _ => by rw [s2]) (fun _ _ => ⟨by rw [s2], by rw [s2]⟩), ⟨⟨by omega, by omega, by omega, by omega, by omega, by omega⟩, by omega, by omega, by omega, by omega⟩, ⟨by rw [s1 _ (by omega), k1], by rw [s1 _ (by omega), k2], by rw [s1 _ (by omega), k3], by rw [s1 _ (by omega), k4]⟩, e7.mono (Nat.le_refl _) (Nat.le_refl _) (Nat.le_refl _) (fun _ _ => by rw [s2]) (fun _ _ => by rw [s2]) (fun _ _ => by rw [s2]) (fun _ _ => by rw [s2]; exact ⟨rfl, rfl, rfl, rfl, rfl⟩), (a7.congr (σ' := σ1) (fun _ _ => by rw [s2]) (fun _ _ => by rw [s2]) (fun _ _ => by rw [s2]) (fun _ _ => by rw [s2]) (fun _ _ => ⟨by rw [s2], by rw [s2]⟩) (fun _ _ => by rw [s2]; exact ⟨rfl, rfl, rfl, rfl, rfl⟩) (fun _ _ _ _ _ => by rw [s2])).mono (by omega) (Nat.le_refl _) (Nat.le_refl _) (Nat.le_refl _) (Nat.le_refl _) (Nat.le_refl _), by omega⟩
            have hgq := hA.1 q List.mem_cons_self
            obtain ⟨σ2, p1, p2⟩ := perform_m (g := q) hP e2 (by rw [s2]; exact e3) (by rw [s2]; exact e5) (by rw [s2]; exact e6) hgq.1
            have hA2 : AInv cls (aDo cls q (s + 1, bn, st, rest, ch)).2 := aDo_inv ⟨fun q' hq' => hA.1 q' (List.mem_cons_of_mem _ hq'), hA.2.1, hA.2.2⟩ hgq hcl
            have hfr : σ2.1 6431 = a ∧ σ2.1 6438 = b := by
              have hw := m_perform_163_fr (L := fun x => x ∈ _) (A := fun x => x ∈ _) (σ0 := σ1) (fun x hx => hx) (fun x hx => hx) (Int32.ofInt gi) σ1 Wr.refl _ p1
              exact ⟨by rw [hw.1 _ (by decide), s1 _ (by omega), ha], by rw [hw.1 _ (by decide), s1 _ (by omega), hb]⟩
            rw [p1, Option.bind_some]
            dsimp only
            generalize aDo cls q (s + 1, bn, st, rest, ch) = r at *
            obtain ⟨i1, i2⟩ := ih r.2 σ2 (by omega) hA2 hfr.1 hfr.2
            rcases p2 with ⟨z, z2⟩ | ⟨z, z1, z2⟩
            · rw [if_pos z, if_neg (by decide)]
              rw [z] at h9 ⊢
              exact i1 z2 h9 n (by omega)
            · rw [if_neg z, if_pos (by decide)]
              rcases (by omega : r.1 = 1 ∨ r.1 = 2 ∨ r.1 = 3) with z3 | z3
              · have e0 : thc r.1 = 0 := by rw [z3]; rfl
                rw [e0] at z2
                have e11 : σ2.1 6411 = Int32.ofInt 0 := by
                  obtain ⟨_, _, _, _, _, _, _, -, -, -, ⟨-, -, q⟩, -⟩ := z2
                  exact q
                rw [e11, if_pos rfl]
                rw [z3] at h9 ⊢
                exact i2 z2 h9 qF n (by omega) (by omega)
              · have e11 : ¬ σ2.1 6411 = Int32.ofInt 0 := by
                  obtain ⟨_, _, _, _, _, _, _, -, -, -, ⟨-, -, q⟩, -⟩ := z2
                  rw [q]
                  unfold thc
                  rcases z3 with z3 | z3 <;> rw [z3] <;> decide
                rw [if_neg e11]
                cases f with
                | zero => exact absurd rfl h9
                | succ f =>
                  cases n with
                  | zero => omega
                  | succ n =>
                    have er : aRun cls (f + 1) r.1 r.2 = r := by
                      unfold aRun
                      rw [if_neg (by omega), if_neg (by omega)]
                    rw [er]
                    exact thr_end z3 z2 rfl
    · obtain ⟨s, bn, st, td, ch⟩ := m
      dsimp only at *
      cases nb with
      | zero => omega
      | succ nb =>
        cases ch with
        | nil =>
          have e : aRun cls (f + 1) 1 (s, bn, st, td, []) = (1, (s, bn, st, td, [])) := rfl
          rw [e]
          have hF' := hF
          obtain ⟨W, t, nv, ns, na, nc, ng, a1, m1, m3, ⟨m5, m6, m7⟩, ⟨k1, k4⟩, a7, a8⟩ := hF'
          have e1 : m_back_149_l0 (nb + 1) σ = some (Int32.ofInt 0, σ) := by
            unfold m_back_149_l0
            rw [k4, if_pos (by decide)]
          rw [e1, Option.bind_some, if_pos (by rfl)]
          cases nl with
          | zero => omega
          | succ nl =>
            unfold m_seek_148_l17
            rw [if_pos (by decide), m7, if_pos (by decide)]
            dsimp only [qlet]
            rw [upS_1, if_pos rfl, if_neg (by decide)]
            refine ⟨_, rfl, Or.inr ⟨by dsimp only; omega, by dsimp only; omega, ?_, by rw [upS_1, if_pos rfl]⟩⟩
            exact ((MSc.upS (k := 6411) (v := Int32.ofInt 2) (by omega)).trans (MSc.upS (k := 6438) (v := Int32.ofInt 0) (by omega))).fl (by rw [upS_1, if_neg (by omega), upS_1, if_pos rfl]; rfl) hF
        | cons q ch =>
          obtain ⟨X, c, rest, st1⟩ := q
          obtain ⟨⟨b1, b2, b3⟩, b4, b5⟩ := hA.2.2 (X, c, rest, st1) List.mem_cons_self
          have eR : aRun cls (f + 1) 1 (s, bn, st, td, (X, c, rest, st1) :: ch) = aRun cls f (aBack cls (s, bn, st, td, (X, c, rest, st1) :: ch) X c rest st1 ch).1 (aBack cls (s, bn, st, td, (X, c, rest, st1) :: ch) X c rest st1 ch).2 := by
            conv => lhs; unfold aRun
            rw [if_neg (by omega), if_pos rfl]
          rw [eR] at h9 ⊢
          obtain ⟨σ2, p1, p2, p3⟩ := back_m (n := nb) hF b2 b3 (s, bn, st, td, (X, c, rest, st1) :: ch) ⟨rfl, rfl⟩
          have hA2 : AInv cls (aBack cls (s, bn, st, td, (X, c, rest, st1) :: ch) X c rest st1 ch).2 := aBack_inv hA.2.2 hcl
          rw [p1]
          generalize aBack cls (s, bn, st, td, (X, c, rest, st1) :: ch) X c rest st1 ch = r at *
          obtain ⟨i1, i2⟩ := ih r.2 σ2 (by omega) hA2 (by rw [p3.1, ha]) (by rw [p3.2, hb])
          rcases p2 with ⟨z, z2⟩ | ⟨z, z1, z2⟩
          · rw [if_pos z, Option.bind_some, if_neg (show ¬ Int32.ofInt 1 = 0 by decide)]
            rw [z] at h9 ⊢
            exact i1 z2 h9 nl (by omega)
          · rw [if_neg z]
            rcases (by omega : r.1 = 1 ∨ r.1 = 2 ∨ r.1 = 3) with z3 | z3
            · have e0 : thc r.1 = 0 := by rw [z3]; rfl
              rw [e0] at z2
              rw [z3] at h9 ⊢
              exact i2 z2 h9 nb nl (by omega) (by omega)
            · have e11 : ¬ σ2.1 6411 = 0 := by
                obtain ⟨_, _, _, _, _, _, _, -, -, -, ⟨-, -, q⟩, -⟩ := z2
                rw [q]
                unfold thc
                rcases z3 with z3 | z3 <;> rw [z3] <;> decide
              cases f with
              | zero => exact absurd rfl h9
              | succ f =>
                have er : aRun cls (f + 1) r.1 r.2 = r := by
                  unfold aRun
                  rw [if_neg (by omega), if_neg (by omega)]
                rw [er]
                cases nb with
                | zero => omega
                | succ nb =>
                  have eb : m_back_149_l0 (nb + 1) σ2 = some (Int32.ofInt 0, σ2) := by
                    unfold m_back_149_l0
                    rw [if_neg e11]
                    split <;> rfl
                  rw [eb, Option.bind_some, if_pos (by rfl)]
                  cases nl with
                  | zero => omega
                  | succ nl => exact thr_end z3 z2 rfl
theorem seek_m0 {cls : List Cl} (hcl : ∀ i, i < cls.length → clOK (cls.getD i clNil)) {f : Nat} {m : Ma} {σ : qC} (hf : f ≤ qF) (hA : AInv cls m) (h : MS σ cls m) (h9 : (aRun cls f 0 m).1 ≠ 9) : ∃ σ', m_seek_148 (Int32.ofInt 0) σ = some (Int32.ofInt (if (aRun cls f 0 m).1 = 0 then ((aRun cls f 0 m).2.1 : Int) else 0), σ') ∧ MEnd σ' cls (σ.1 6431) (σ.1 6438) (aRun cls f 0 m) := by
  unfold m_seek_148
  rw [if_pos (by rfl)]
  exact (seekL_m hcl f m σ hf hA rfl rfl).1 h h9 qF hf
theorem seek_m1 {cls : List Cl} (hcl : ∀ i, i < cls.length → clOK (cls.getD i clNil)) {f : Nat} {m : Ma} {σ : qC} (hf : f ≤ qF) (hA : AInv cls m) (h : MS σ cls m) (h9 : (aRun cls f 1 m).1 ≠ 9) : ∃ σ', m_seek_148 (Int32.ofInt 1) σ = some (Int32.ofInt (if (aRun cls f 1 m).1 = 0 then ((aRun cls f 1 m).2.1 : Int) else 0), σ') ∧ MEnd σ' cls (σ.1 6431) (σ.1 6438) (aRun cls f 1 m) := by
  unfold m_seek_148
  rw [if_neg (by decide)]
  exact (seekL_m hcl f m σ hf hA rfl rfl).2 h.fl h9 qF qF hf hf
