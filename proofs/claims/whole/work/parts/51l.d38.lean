/-! D38: the reference unifies as the common machine -/
def MCl (cl : Cl) : Prop := cl.2.1 ≤ 48 ∧ (∀ j, cl.2.1 ≤ j → cl.1 j = 0) ∧ (∀ j, j < cl.2.1 → 33 ≤ cl.1 j ∧ cl.1 j ≤ 126) ∧ (pC cl.1 cl.2.1).1 = true ∧ (pC cl.1 cl.2.1).2.2 = cl.2.2
def MStat (σ : qC) (cls : List Cl) : Prop := σ.1 6408 = Int32.ofInt cls.length ∧ cls.length ≤ 12 ∧ ∀ i, i < cls.length → σ.2 67 i = Int32.ofInt (cls.getD i clNil).2.1 ∧ (∀ j, j < (cls.getD i clNil).2.1 → σ.2 66 (48 * i + j) = Int32.ofInt ((cls.getD i clNil).1 j)) ∧ MCl (cls.getD i clNil)
theorem MStat.congr {σ σ' : qC} {cls : List Cl} (h : MStat σ cls) (h1 : σ'.1 6408 = σ.1 6408) (h66 : σ'.2 66 = σ.2 66) (h67 : σ'.2 67 = σ.2 67) : MStat σ' cls := by
  unfold MStat
  rw [h1, h66, h67]
  exact h
def MS (σ : qC) (cls : List Cl) (m : Ma) : Prop := ∃ (W : Wm) (t : List Em) (na nc ng : Nat), MStat σ cls ∧ MB σ m.2.2.1.1 nc m.2.2.1.2.2.1 na W t m.2.2.1.2.1 m.1 0 ∧ SRm σ W t na nc m.2.2.1 ∧ Bm0 m.1 na nc ng t m.2.2.1 ∧ (σ.1 6427 = Int32.ofInt m.2.1 ∧ σ.1 6425 = Int32.ofInt nc ∧ σ.1 6428 = Int32.ofInt ng ∧ σ.1 6433 = Int32.ofInt m.2.2.2.2.length) ∧ (∃ g : Int, σ.1 6429 = Int32.ofInt g ∧ RTM σ m.2.2.1.1 nc ng m.2.2.2.1 g) ∧ SnM σ m.1 m.2.2.2.2 W t m.2.2.1.1 m.2.2.1.2.2.1 na nc ng ∧ m.2.2.2.2.length ≤ m.1
def MFl (σ : qC) (cls : List Cl) (s bn : Nat) (ch : List Ch) (th : Int) : Prop := ∃ (W : Wm) (t : List Em) (nv ns na nc ng : Nat), MStat σ cls ∧ MW σ W t nv ns na ∧ EVm t nv ns na ∧ (σ.1 6430 = Int32.ofInt s ∧ σ.1 6440 = Int32.ofInt 0 ∧ σ.1 6411 = Int32.ofInt th) ∧ (σ.1 6427 = Int32.ofInt bn ∧ σ.1 6433 = Int32.ofInt ch.length) ∧ SnM σ s ch W t nv ns na nc ng ∧ s ≤ 500 ∧ ch.length ≤ s
def thc (c : Nat) : Int := if c = 2 then 3 else if c = 3 then 4 else 0
def MR (σ : qC) (cls : List Cl) (r : Nat × Ma) : Prop := (r.1 = 0 ∧ MS σ cls r.2) ∨ (r.1 ≠ 0 ∧ r.1 ≤ 3 ∧ MFl σ cls r.2.1 r.2.2.1 r.2.2.2.2.2 (thc r.1))
theorem FrX.snm {σ σ' : qC} {s : Nat} {ch : List Ch} {W : Wm} {t : List Em} {nv ns na nc ng : Nat} (h : FrX σ σ') (hS : SnM σ s ch W t nv ns na nc ng) : SnM σ' s ch W t nv ns na nc ng := by
  have e : ∀ k, k = 72 ∨ k = 73 ∨ k = 74 ∨ k = 78 ∨ k = 79 ∨ k = 80 ∨ k = 81 ∨ k = 82 ∨ k = 85 ∨ k = 87 ∨ k = 88 ∨ 94 ≤ k → σ'.2 k = σ.2 k := fun k hk => h.1 k (by omega) (by omega) (by omega) (by omega) (by omega) (by omega) (by omega) (by omega) (by omega) (by omega)
  exact hS.congr (fun i _ => by rw [e 72 (by omega)]) (fun i _ => by rw [e 73 (by omega)]) (fun i _ => by rw [e 74 (by omega)]) (fun i _ => by rw [e 85 (by omega)]) (fun i _ => ⟨by rw [e 87 (by omega)], by rw [e 88 (by omega)]⟩) (fun i _ => ⟨by rw [e 78 (by omega)], by rw [e 79 (by omega)], by rw [e 80 (by omega)], by rw [e 81 (by omega)], by rw [e 82 (by omega)]⟩) (fun k i a _ _ => by rw [e k (by omega)])
theorem FrX.stat {σ σ' : qC} {cls : List Cl} (h : FrX σ σ') (hS : MStat σ cls) : MStat σ' cls :=
  hS.congr (h.2 _ (by omega) (by omega) (by omega) (by omega) (by omega) (by omega) (by omega)) (h.1 66 (by omega) (by omega) (by omega) (by omega) (by omega) (by omega) (by omega) (by omega) (by omega) (by omega)) (h.1 67 (by omega) (by omega) (by omega) (by omega) (by omega) (by omega) (by omega) (by omega) (by omega) (by omega))
theorem FrX.rtm {σ σ' : qC} {nv nc ng : Nat} {l : List Go} {g : Int} (h : FrX σ σ') (hT : RTM σ nv nc ng l g) : RTM σ' nv nc ng l g := by
  have e : ∀ k, k = 72 ∨ k = 73 ∨ k = 74 ∨ k = 78 ∨ k = 79 ∨ k = 80 ∨ k = 81 ∨ k = 82 → σ'.2 k = σ.2 k := fun k hk => h.1 k (by omega) (by omega) (by omega) (by omega) (by omega) (by omega) (by omega) (by omega) (by omega) (by omega)
  exact hT.mono (Nat.le_refl _) (Nat.le_refl _) (Nat.le_refl _) (fun i _ => by rw [e 72 (by omega)]) (fun i _ => by rw [e 73 (by omega)]) (fun i _ => by rw [e 74 (by omega)]) (fun i _ => ⟨by rw [e 78 (by omega)], by rw [e 79 (by omega)], by rw [e 80 (by omega)], by rw [e 81 (by omega)], by rw [e 82 (by omega)]⟩)
theorem FrX.sc {σ σ' : qC} (h : FrX σ σ') {j : Nat} (hj : j = 6427 ∨ j = 6425 ∨ j = 6428 ∨ j = 6433 ∨ j = 6429) : σ'.1 j = σ.1 j := h.2 j (by omega) (by omega) (by omega) (by omega) (by omega) (by omega) (by omega)
theorem aSame_f {s bn nv ns c s1 : Nat} {u u1 : Us} {sg : Nat → Tr} {ap ps : List (Tr × Tr)} {td rest : List Go} {ch : List Ch} {bd : Bool} (hr : uni nv true 502 s u false ps = (c, s1, u1, bd)) (hc : c ≠ 0) : aSame (s, bn, (nv, u, ns, sg, ap), td, ch) ps rest = (c, (s1, bn, (nv, u, ns, sg, ap), td, ch)) := by
  unfold aSame
  dsimp only
  rw [hr]
  exact if_pos hc
theorem aSame_n {s bn nv ns c s1 : Nat} {u u1 : Us} {sg : Nat → Tr} {ap ps : List (Tr × Tr)} {td rest : List Go} {ch : List Ch} {bd : Bool} (hr : uni nv true 502 s u false ps = (c, s1, u1, bd)) (hc : c = 0) (hb : bd = false) : aSame (s, bn, (nv, u, ns, sg, ap), td, ch) ps rest = (0, (s1, bn, (nv, u, ns, sg, ap), rest, ch)) := by
  unfold aSame
  dsimp only
  rw [hr]
  exact (if_neg (by simpa using hc)).trans (if_pos hb)
theorem aSame_t {s bn nv ns c s1 c2 s2 : Nat} {u u1 : Us} {sg : Nat → Tr} {ap ap2 ps : List (Tr × Tr)} {td rest : List Go} {ch : List Ch} {bd : Bool} (hr : uni nv true 502 s u false ps = (c, s1, u1, bd)) (hc : c = 0) (hb : ¬ bd = false) (hr2 : tall nv u1 ap s1 = (c2, s2, ap2)) (hc2 : c2 ≠ 0) : aSame (s, bn, (nv, u, ns, sg, ap), td, ch) ps rest = (c2, (s2, bn, (nv, u, ns, sg, ap), td, ch)) := by
  unfold aSame
  dsimp only
  rw [hr]
  refine (if_neg (by simpa using hc)).trans ((if_neg hb).trans ?_)
  dsimp only
  rw [hr2]
  exact if_pos hc2
theorem aSame_y {s bn nv ns c s1 c2 s2 : Nat} {u u1 : Us} {sg : Nat → Tr} {ap ap2 ps : List (Tr × Tr)} {td rest : List Go} {ch : List Ch} {bd : Bool} (hr : uni nv true 502 s u false ps = (c, s1, u1, bd)) (hc : c = 0) (hb : ¬ bd = false) (hr2 : tall nv u1 ap s1 = (c2, s2, ap2)) (hc2 : c2 = 0) : aSame (s, bn, (nv, u, ns, sg, ap), td, ch) ps rest = (0, (s2, bn, (nv, (u1.1, u1.2.1, u1.2.2.1, u1.2.2.2.1, u1.2.2.2.2.1, []), ns, sg, ap2), u1.2.2.2.2.2.map (fun e => ((1, sg e, sg e, 0) : Go)) ++ rest, ch)) := by
  unfold aSame
  dsimp only
  rw [hr]
  refine (if_neg (by simpa using hc)).trans ((if_neg hb).trans ?_)
  dsimp only
  rw [hr2]
  exact if_neg (by simpa using hc2)
set_option maxHeartbeats 4000000 in
theorem unify_m {σ : qC} {cls : List Cl} {s bn na nc ng : Nat} {st : Sto} {rest td0 : List Go} {ch : List Ch} {W : Wm} {t : List Em} {ps : List (Tr × Tr)} {behind : Int} (a1 : MStat σ cls) (hB : MB σ st.1 nc st.2.2.1 na W t st.2.1 s 0) (a3 : SRm σ W t na nc st) (a4 : Bm0 s na nc ng t st) (k1 : σ.1 6427 = Int32.ofInt bn) (k2 : σ.1 6425 = Int32.ofInt nc) (k3 : σ.1 6428 = Int32.ofInt ng) (k4 : σ.1 6433 = Int32.ofInt ch.length) (hP : RPm σ st.1 nc ps) (hN : σ.1 6436 = Int32.ofInt ps.length) (hps : ps.length ≤ 3) (hT : RTM σ st.1 nc ng rest behind) (hS : SnM σ s ch W t st.1 st.2.2.1 na nc ng) (hch : ch.length ≤ s) :
    ∃ σ', m_unify_155 (Int32.ofInt behind) σ = some (Int32.ofInt (if (aSame (s, bn, st, td0, ch) ps rest).1 = 0 then 1 else 0), σ') ∧ MR σ' cls (aSame (s, bn, st, td0, ch) ps rest) := by
  obtain ⟨nv, u, ns, sg, ap⟩ := st
  obtain ⟨b1, b2, b3, b4, b5, b6, b7, b8, L, R, b9, b10⟩ := a3
  obtain ⟨d1, d2, d3, d4, d5, d6⟩ := a4
  obtain ⟨m1, m2, m3, m4, ⟨m5, m6, m7⟩, m8, m9⟩ := hB
  dsimp only at *
  unfold m_unify_155 m_same_156
  dsimp only [qlet]
  obtain ⟨σ1, hσ1⟩ : ∃ σ1, σ1 = upS (upS σ 6439 (Int32.ofInt 0)) 6437 (Int32.ofInt 0) := ⟨_, rfl⟩
  rw [← hσ1]
  have c1 : ∀ j, j ≠ 6439 → j ≠ 6437 → σ1.1 j = σ.1 j := fun j a b => by rw [hσ1, upS_1, if_neg b, upS_1, if_neg a]
  have c2 : σ1.2 = σ.2 := by rw [hσ1]; rfl
  have hU1 : MU σ1 true nv nc ns na W t u s [] := by
    refine ⟨m1.congr (fun k _ => by rw [c2]) (fun j hj => c1 j (by omega) (by omega)), m2.congr (Nat.le_refl _) (Nat.le_refl _) (fun i _ => by rw [c2]) (fun i _ => by rw [c2]) (fun i _ => by rw [c2]), m3, m4, ⟨by rw [c1 _ (by omega) (by omega), m5], by rw [hσ1, upS_1, if_pos rfl]; rfl, by rw [c1 _ (by omega) (by omega), m6]; rfl⟩, fun i hi => absurd hi (by simp), fun _ => ⟨[], by rw [b5]; rfl, rfl, fun l hl => absurd hl (by simp)⟩, by simp, m8, m9⟩
  have hF1 : FrX σ σ1 := ⟨fun k _ _ _ _ _ _ _ _ _ _ => by rw [c2], fun j _ a _ _ _ b _ => c1 j a b⟩
  obtain ⟨σ2, W2, t2, hs2, g1, g2, g3, g4, g5, g6, g7, g8, g9, g10, g11, g12, g13⟩ := sameL_ok (nv := nv) (nc := nc) (ns := ns) (na := na) true 502 qF s u false ps W t σ1 [] hU1 (hP.congr (by rw [c2]) (by rw [c2]) (by rw [c2]) (fun i _ => ⟨by rw [c2], by rw [c2]⟩)) (by rw [c1 _ (by omega) (by omega), hN]) (by rw [hσ1, upS_1, if_neg (by omega), upS_1, if_pos rfl]; rfl) (by rw [c1 _ (by omega) (by omega), m7]) (fun _ => b4) (by omega) (by unfold qF; omega) (by omega) (by omega)
  have hF2 : FrX σ σ2 := hF1.trans g5.X
  have hpot := g12 rfl
  rw [b5] at hpot
  simp only [List.length_nil, Nat.add_zero] at hpot
  have hSl2 := g3 rfl
  have hbd := uni_bd (nv := nv) (stir := true) 502 s u false ps
  clear g3 g12
  obtain ⟨c, s1, u1, bd, hr⟩ : ∃ c s1 u1 bd, uni nv true 502 s u false ps = (c, s1, u1, bd) := ⟨_, _, _, _, rfl⟩
  rw [hr] at g1 g2 hSl2 g6 g7 g9 g10 g11 hpot hbd
  dsimp only at g1 g2 hSl2 g6 g7 g9 g10 g11 hpot hbd
  rw [g1, Option.bind_some]
  dsimp only
  have hs1 := g2.2.2.2.2.2.2.2.2.2
  have hsn2 : SnM σ2 s1 ch W2 t2 nv ns na nc ng := ((hF2.snm hS).mono (by omega) (Nat.le_refl _) (Nat.le_refl _) (Nat.le_refl _) (Nat.le_refl _) (Nat.le_refl _)).und g4
  by_cases hc0 : c = 0
  · have ec : (if c = 0 then (1 : Int) else 0) = 1 := if_pos hc0
    rw [ec, if_neg (by decide)]
    -- who woke
    obtain ⟨ls, l1, l2, l3⟩ := g2.2.2.2.2.2.2.1 rfl
    obtain ⟨sgm, hsgm⟩ : ∃ sgm : Nat → Int, ∀ e, e < ns → σ2.2 85 e = Int32.ofInt (sgm e) ∧ MTx (σ2.2 72) (σ2.2 73) (σ2.2 74) nv nc (sgm e) (sg e) := by
      refine ⟨fun e => (σ2.2 85 e).toInt, fun e he => ?_⟩
      obtain ⟨x, x1, x2⟩ := b8 e he
      have e85 := hF2.1 85 (by omega) (by omega) (by omega) (by omega) (by omega) (by omega) (by omega) (by omega) (by omega) (by omega)
      have r := x2.rng
      have ex : (σ2.2 85 e).toInt = x := by rw [e85, x1, zto (by omega) (by omega)]
      dsimp only
      refine ⟨by rw [ex, e85, x1], ?_⟩
      rw [ex, hF2.1 72 (by omega) (by omega) (by omega) (by omega) (by omega) (by omega) (by omega) (by omega) (by omega) (by omega), hF2.1 73 (by omega) (by omega) (by omega) (by omega) (by omega) (by omega) (by omega) (by omega) (by omega) (by omega), hF2.1 74 (by omega) (by omega) (by omega) (by omega) (by omega) (by omega) (by omega) (by omega) (by omega) (by omega)]
      exact x2
    have hwl := nodup_len ns hSl2.2.2.2.2.1 hSl2.2.2.2.2.2.1
    have hlm : ∀ l, l ∈ ls → l ≠ [] ∧ chn u1.2.2.2.1 (hdI l) l ∧ l.length ≤ 600 ∧ ∀ k, k ∈ l → k < ns := by
      intro l hl
      have hmem : ∀ k, k ∈ l → k ∈ u1.2.2.2.2.2 := fun k hk => by rw [l1]; exact List.mem_flatten.mpr ⟨l, hl, hk⟩
      refine ⟨(l3 l hl).1, (l3 l hl).2, ?_, fun k hk => hSl2.2.2.2.2.2.1 k (hmem k hk)⟩
      have := List.Sublist.length_le (List.sublist_flatten_of_mem hl)
      rw [← l1] at this
      omega
    have hhl : hs2.length = ls.length := by rw [l2, List.length_map]
    have hll : ls.length ≤ 600 := by
      have := g2.2.2.2.2.2.2.2.1
      omega
    have h6437 : σ2.1 6437 = Int32.ofInt ((0 + ls.length : Nat) : Int) := by rw [g2.2.2.2.2.1.2.1, hhl, Nat.zero_add]
    obtain ⟨σ3, o1, o2, o3, -, o5⟩ := orderL_ok (nx := u1.2.2.2.1) (sgm := sgm) (ns := ns) (i1 := Int32.ofInt behind) ls qF 0 0 σ2 hlm (fun k hk => ⟨by rw [g2.1.2.1 k hk, g2.2.1.2.2.2], (hsgm k hk).1⟩) (by omega) (by rw [← l1]; omega) (by unfold qF; omega) h6437 (by omega) (fun j hj => by
      rw [Nat.zero_add, g2.2.2.2.2.2.1 j (by omega)]
      congr 1
      simp only [l2, List.getElem_map])
    have o1' : m_unify_155_l13 qF (Int32.ofInt behind) (Int32.ofInt 0) (Int32.ofInt 0) σ2 = _ := o1
    rw [o1', ← l1, Nat.zero_add]
    rw [← l1] at o5
    have hF3 : FrX σ σ3 → True := fun _ => trivial
    have n72 : ∀ k, k ≠ 93 → k ≠ 75 → k ≠ 76 → k ≠ 77 → k ≠ 86 → k ≠ 89 → k ≠ 83 → k ≠ 84 → k ≠ 90 → k ≠ 91 → k ≠ 92 → σ3.2 k = σ.2 k := fun k a b c d e f g h i j l => by rw [o3 k a, hF2.1 k b c d e f g h i j l]
    have hB3 : MB σ3 nv nc ns na W2 t2 u1 s1 0 := by
      refine ⟨g2.1.congr (fun k hk => o3 k (by omega)) (fun j _ => by rw [o2]), g2.2.1.congr (Nat.le_refl _) (Nat.le_refl _) (fun i _ => by rw [o3 72 (by omega)]) (fun i _ => by rw [o3 73 (by omega)]) (fun i _ => by rw [o3 74 (by omega)]), g2.2.2.1, g2.2.2.2.1, ⟨by rw [o2]; exact g2.2.2.2.2.1.1, by rw [o2]; exact g2.2.2.2.2.1.2.2, by rw [o2, g7, if_neg (by omega)]⟩, m8, hs1⟩
    have hord : ∀ (σ' : qC), σ'.2 93 = σ3.2 93 → σ'.2 72 = σ3.2 72 → σ'.2 73 = σ3.2 73 → σ'.2 74 = σ3.2 74 → ∀ i (h : i < u1.2.2.2.2.2.length) (h2 : i < u1.2.2.2.2.2.length), ∃ x : Int, σ'.2 93 i = Int32.ofInt x ∧ MTx (σ'.2 72) (σ'.2 73) (σ'.2 74) nv nc x (sg u1.2.2.2.2.2[i]) := by
      intro σ' z93 z72 z73 z74 i h h2
      have hlt := hSl2.2.2.2.2.2.1 _ (List.getElem_mem h2)
      have e5 := o5 i (by simpa using h)
      rw [Nat.zero_add] at e5
      refine ⟨sgm u1.2.2.2.2.2[i], by rw [z93, e5], ?_⟩
      rw [z72, z73, z74, o3 72 (by omega), o3 73 (by omega), o3 74 (by omega)]
      exact (hsgm _ hlt).2
    have hst3 : MStat σ3 cls := (hF2.stat a1).congr (by rw [o2]) (o3 _ (by omega)) (o3 _ (by omega))
    have hRT3 : RTM σ3 nv nc ng rest behind := (hF2.rtm hT).mono (Nat.le_refl _) (Nat.le_refl _) (Nat.le_refl _) (fun i _ => by rw [o3 72 (by omega)]) (fun i _ => by rw [o3 73 (by omega)]) (fun i _ => by rw [o3 74 (by omega)]) (fun i _ => ⟨by rw [o3 78 (by omega)], by rw [o3 79 (by omega)], by rw [o3 80 (by omega)], by rw [o3 81 (by omega)], by rw [o3 82 (by omega)]⟩)
    have hsn3 : SnM σ3 s1 ch W2 t2 nv ns na nc ng := hsn2.congr (fun i _ => by rw [o3 72 (by omega)]) (fun i _ => by rw [o3 73 (by omega)]) (fun i _ => by rw [o3 74 (by omega)]) (fun i _ => by rw [o3 85 (by omega)]) (fun i _ => ⟨by rw [o3 87 (by omega)], by rw [o3 88 (by omega)]⟩) (fun i _ => ⟨by rw [o3 78 (by omega)], by rw [o3 79 (by omega)], by rw [o3 80 (by omega)], by rw [o3 81 (by omega)], by rw [o3 82 (by omega)]⟩) (fun k i a b _ => by rw [o3 k (by omega)])
    -- the end: woken goals in front
    have fin : ∀ (σ4 : qC) (W4 : Wm) (t4 : List Em) (s4 : Nat) (ap4 : List (Tr × Tr)), FrX σ3 σ4 → σ4.2 93 = σ3.2 93 → MB σ4 nv nc ns na W4 t4 u1 s4 0 → SnM σ4 s4 ch W4 t4 nv ns na nc ng → go01 W4 → (∀ a, na ≤ a → W4.2.2.2.2 a = 0) → ap4 = apFm W4.2.2.2.2 L R na 0 → s1 ≤ s4 → t4.length ≤ 4 * s4 →
        ∃ σ', m_unify_155_l163 qF (Int32.ofInt behind) (Int32.ofInt (u1.2.2.2.2.2.length : Nat) - Int32.ofInt 1) σ4 = some (Int32.ofInt 1, σ') ∧ MS σ' cls (s4, bn, (nv, (u1.1, u1.2.1, u1.2.2.1, u1.2.2.2.1, u1.2.2.2.2.1, []), ns, sg, ap4), u1.2.2.2.2.2.map (fun e => ((1, sg e, sg e, 0) : Go)) ++ rest, ch) := by
      intro σ4 W4 t4 s4 ap4 z1 z93 z2 z3 z4 z5 z6 z7 z8
      have zk : ∀ k, k ≠ 75 → k ≠ 76 → k ≠ 77 → k ≠ 86 → k ≠ 89 → k ≠ 83 → k ≠ 84 → k ≠ 90 → k ≠ 91 → k ≠ 92 → σ4.2 k = σ3.2 k := z1.1
      have z72 := zk 72 (by omega) (by omega) (by omega) (by omega) (by omega) (by omega) (by omega) (by omega) (by omega) (by omega)
      have z73 := zk 73 (by omega) (by omega) (by omega) (by omega) (by omega) (by omega) (by omega) (by omega) (by omega) (by omega)
      have z74 := zk 74 (by omega) (by omega) (by omega) (by omega) (by omega) (by omega) (by omega) (by omega) (by omega) (by omega)
      rw [zsub]
      obtain ⟨σ5, g', p1, p2, p3, p4, p5, p6, p7⟩ := frontM_ok (nv := nv) (nc := nc) (sg := sg) (wk := u1.2.2.2.2.2) u1.2.2.2.2.2.length qF ng behind rest σ4 (z1.rtm hRT3) (by rw [z1.sc (by omega), o2, hF2.sc (by omega), k3]) (by omega) (hord σ4 z93 z72 z73 z74) (Nat.le_refl _) (by omega) (by unfold qF; omega)
      rw [List.take_length] at p2
      have w72 : ∀ k, (k < 78 ∨ 82 < k) → k ≠ 93 → k ≠ 75 → k ≠ 76 → k ≠ 77 → k ≠ 86 → k ≠ 89 → k ≠ 83 → k ≠ 84 → k ≠ 90 → k ≠ 91 → k ≠ 92 → σ5.2 k = σ.2 k := fun k a b c d e f g h i j l m => by rw [p6 k a, zk k c d e f g h i j l m, n72 k b c d e f g h i j l m]
      have v72 := w72 72 (by omega) (by omega) (by omega) (by omega) (by omega) (by omega) (by omega) (by omega) (by omega) (by omega) (by omega) (by omega)
      have v73 := w72 73 (by omega) (by omega) (by omega) (by omega) (by omega) (by omega) (by omega) (by omega) (by omega) (by omega) (by omega) (by omega)
      have v74 := w72 74 (by omega) (by omega) (by omega) (by omega) (by omega) (by omega) (by omega) (by omega) (by omega) (by omega) (by omega) (by omega)
      have v85 := w72 85 (by omega) (by omega) (by omega) (by omega) (by omega) (by omega) (by omega) (by omega) (by omega) (by omega) (by omega) (by omega)
      have v87 := w72 87 (by omega) (by omega) (by omega) (by omega) (by omega) (by omega) (by omega) (by omega) (by omega) (by omega) (by omega) (by omega)
      have v88 := w72 88 (by omega) (by omega) (by omega) (by omega) (by omega) (by omega) (by omega) (by omega) (by omega) (by omega) (by omega) (by omega)
      obtain ⟨y1, y2, y3, y4, ⟨y5, y6, y7⟩, y8, y9⟩ := z2
      refine ⟨σ5, p1, W4, t4, na, nc, ng + u1.2.2.2.2.2.length, (z1.stat hst3).congr (p7 _ (by omega) (by omega)) (p6 _ (by omega)) (p6 _ (by omega)), ⟨y1.congr (fun k hk => p6 k (by omega)) (fun j hj => p7 j (by omega) (by omega)), WUm.congr (σ := σ4) ⟨y2.1, y2.2⟩ (Nat.le_refl _) (Nat.le_refl _) (fun i _ => by rw [p6 72 (by omega)]) (fun i _ => by rw [p6 73 (by omega)]) (fun i _ => by rw [p6 74 (by omega)]), y3, y4, ⟨by rw [p7 _ (by omega) (by omega)]; exact y5, by rw [p7 _ (by omega) (by omega)]; exact y6, by rw [p7 _ (by omega) (by omega)]; exact y7⟩, y8, y9⟩, ⟨WUm.congr (σ := σ4) ⟨y2.1, y2.2⟩ (Nat.le_refl _) (Nat.le_refl _) (fun i _ => by rw [p6 72 (by omega)]) (fun i _ => by rw [p6 73 (by omega)]) (fun i _ => by rw [p6 74 (by omega)]), y3, y4, ?_, rfl, z4, z5, fun e he => (b8 e he).congr (Nat.le_refl _) (Nat.le_refl _) (fun i _ => by rw [v72]) (fun i _ => by rw [v73]) (fun i _ => by rw [v74]) (by rw [v85]), L, R, fun a ha => (b9 a ha).congr v72 v73 v74 (by rw [v87]) (by rw [v88]), z6⟩, ⟨by dsimp only; omega, by dsimp only; omega, by dsimp only; omega, by dsimp only; omega, by dsimp only; omega, by dsimp only; omega⟩, ⟨by rw [p7 _ (by omega) (by omega), z1.sc (by omega), o2, hF2.sc (by omega), k1], by rw [p7 _ (by omega) (by omega), z1.sc (by omega), o2, hF2.sc (by omega), k2], p4, by rw [p7 _ (by omega) (by omega), z1.sc (by omega), o2, hF2.sc (by omega), k4]⟩, ⟨g', p3, p2⟩, ?_, by dsimp only; omega⟩
      · obtain ⟨q1, q2, q3, q4, q5, q6, q7⟩ := hSl2
        exact ⟨q1, q2, q3, fun v e _ => by simp, List.nodup_nil, fun e he => absurd he (by simp), q7⟩
      · exact (z3.congr (fun i _ => by rw [p6 72 (by omega)]) (fun i _ => by rw [p6 73 (by omega)]) (fun i _ => by rw [p6 74 (by omega)]) (fun i _ => by rw [p6 85 (by omega)]) (fun i _ => ⟨by rw [p6 87 (by omega)], by rw [p6 88 (by omega)]⟩) p5 (fun k i a b _ => by rw [p6 k (by omega)])).mono (Nat.le_refl _) (Nat.le_refl _) (Nat.le_refl _) (Nat.le_refl _) (Nat.le_refl _) (by omega)
    by_cases hb : bd = false
    · have hu := (hbd hb).2
      rw [aSame_n hr hc0 hb, g6, hb, if_pos (by rfl)]
      have hgo : W2.2.2.2.2 = W.2.2.2.2 := g13
      obtain ⟨σ', e1, e2⟩ := fin σ3 W2 t2 s1 ap FrX.refl rfl hB3 hsn3 (by intro a; rw [hgo]; exact b6 a) (by rw [hgo]; exact b7) (by rw [hgo]; exact b10) (Nat.le_refl _) (by omega)
      rw [e1]
      refine ⟨σ', rfl, Or.inl ⟨rfl, ?_⟩⟩
      subst hu
      rw [b5, List.map_nil, List.nil_append] at e2
      have : ((u1.1, u1.2.1, u1.2.2.1, u1.2.2.2.1, u1.2.2.2.2.1, []) : Us) = u1 := by rw [← b5]
      rw [this] at e2
      exact e2
    · have hb' : bd = true := by simpa using hb
      rw [g6, hb', if_neg (by decide)]
      have hgo : W2.2.2.2.2 = W.2.2.2.2 := g13
      obtain ⟨σ4, W4, t4, q1, q2, q3, q4, q5, q6, q7, q8, q9, q10, q11⟩ := testsM_ok (nv := nv) (nc := nc) (ns := ns) (na := na) (u := u1) (L := L) (R := R) (i1 := Int32.ofInt behind) (i2 := Int32.ofInt (u1.2.2.2.2.2.length : Nat)) na 0 qF s1 W2 t2 σ3 (by omega) hB3 (by intro a; rw [hgo]; exact b6 a) (fun a ha => (b9 a ha).congr (n72 _ (by omega) (by omega) (by omega) (by omega) (by omega) (by omega) (by omega) (by omega) (by omega) (by omega) (by omega)) (n72 _ (by omega) (by omega) (by omega) (by omega) (by omega) (by omega) (by omega) (by omega) (by omega) (by omega) (by omega)) (n72 _ (by omega) (by omega) (by omega) (by omega) (by omega) (by omega) (by omega) (by omega) (by omega) (by omega) (by omega)) (by rw [n72 _ (by omega) (by omega) (by omega) (by omega) (by omega) (by omega) (by omega) (by omega) (by omega) (by omega) (by omega)]) (by rw [n72 _ (by omega) (by omega) (by omega) (by omega) (by omega) (by omega) (by omega) (by omega) (by omega) (by omega) (by omega)])) (by unfold qF; omega) (by omega)
      have q1' : m_unify_155_l77 qF (Int32.ofInt behind) (Int32.ofInt (u1.2.2.2.2.2.length : Nat)) (Int32.ofInt 0) σ3 = _ := q1
      rw [q1']
      have hapz : apFm W2.2.2.2.2 L R na 0 = ap := by rw [hgo, b10]
      rw [hapz] at q2 q5 q6 q7 q11 ⊢
      obtain ⟨c2', s2, ap2, hr2⟩ : ∃ c2 s2 ap2, tall nv u1 ap s1 = (c2, s2, ap2) := ⟨_, _, _, rfl⟩
      rw [hr2] at q2 q5 q6 q7 q11 ⊢
      dsimp only at q2 q5 q6 q7 q11 ⊢
      have hsn4 : SnM σ4 s2 ch W4 t4 nv ns na nc ng := ((q3.snm hsn3).mono (by omega) (Nat.le_refl _) (Nat.le_refl _) (Nat.le_refl _) (Nat.le_refl _) (Nat.le_refl _)).und q4
      by_cases c20 : c2' = 0
      · rw [if_pos c20, aSame_y hr hc0 hb hr2 c20]
        rw [if_neg (by omega)] at q2
        obtain ⟨σ', e1, e2⟩ := fin σ4 W4 t4 s2 ap2 q3 (q3.1 93 (by omega) (by omega) (by omega) (by omega) (by omega) (by omega) (by omega) (by omega) (by omega) (by omega)) q2 hsn4 q8 (fun a ha => by rw [q10 a (by omega), hgo]; exact b7 a ha) (q11 c20).symm q5 (by omega)
        rw [e1]
        exact ⟨σ', rfl, Or.inl ⟨rfl, e2⟩⟩
      · rw [if_neg c20, aSame_t hr hc0 hb hr2 c20]
        refine ⟨σ4, by dsimp only; rw [if_neg c20], Or.inr ⟨c20, by dsimp only; omega, W4, t4, nv, ns, na, nc, ng, q3.stat hst3, q2.1, q2.2.2.1, ⟨q2.2.2.2.2.1.1, q2.2.2.2.2.1.2.1, ?_⟩, ⟨by rw [q3.sc (by omega), o2, hF2.sc (by omega), k1], by rw [q3.sc (by omega), o2, hF2.sc (by omega), k4]⟩, hsn4, q2.2.2.2.2.2.2, by dsimp only; omega⟩⟩
        rw [q2.2.2.2.2.1.2.2]
        unfold thc
        dsimp only
        split
        · rfl
        · rw [if_neg (by omega)]
  · have ec : (if c = 0 then (1 : Int) else 0) = 0 := if_neg hc0
    rw [ec, if_pos (by rfl), aSame_f hr hc0]
    refine ⟨σ2, by dsimp only; rw [if_neg hc0], Or.inr ⟨hc0, by dsimp only; omega, W2, t2, nv, ns, na, nc, ng, hF2.stat a1, g2.1, g2.2.2.1, ⟨g2.2.2.2.2.1.1, g2.2.2.2.2.1.2.2, ?_⟩, ⟨by rw [hF2.sc (by omega), k1], by rw [hF2.sc (by omega), k4]⟩, hsn2, hs1, by dsimp only; omega⟩⟩
    rw [g7]
    unfold thc
    dsimp only
    split
    · rfl
    · rw [if_neg (by omega)]
