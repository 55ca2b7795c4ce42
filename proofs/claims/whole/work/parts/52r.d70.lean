/-! D70: the class asks -/
theorem tshr0 {σ : qC} {t : Nat} (h : ∃ k : Nat, σ.1 (100 * t + 2) = Int32.ofInt k ∧ k ≤ 20000) : tshr σ t (Int32.ofInt 0) = upS σ (100 * t + 2) (Int32.ofInt 0) := by
  obtain ⟨k, h1, h2⟩ := h
  exact tshrI (m := 0) h1 (by omega) rfl (Nat.zero_le _)
theorem CWk.ups {σ : qC} {k : Nat} {v : Int32} (h : CWk σ) (hv : v = Int32.ofInt 0) : CWk (upS σ k v) := by
  intro t ht
  rw [upS_1]
  split
  · exact ⟨0, hv, by omega⟩
  · exact h t ht
theorem psum0 : ∀ n, psum (fun _ => 0) n = 0
  | 0 => rfl
  | n + 1 => by
    unfold psum
    rw [psum0 n]
theorem pot0 {nv : Nat} : pot nv (fun _ => []) = 0 := psum0 nv
def w0 : Wc := (fun _ => none, fun _ => -1, fun _ => -1, fun _ => -1, fun _ => 1)
theorem slok0 {nv : Nat} : SlOK nv 0 us0 := by
  refine ⟨fun v _ => ⟨rfl, rfl⟩, fun v => ⟨List.nodup_nil, fun e he => (by cases he), fun _ => rfl, fun _ => rfl⟩, fun v w _ e he => (by cases he), fun v e he => (by cases he), List.nodup_nil, fun e he => (by cases he), fun _ _ => rfl⟩
set_option maxHeartbeats 1000000 in
theorem begin55_c {σ : qC} {A : As} {pg : Nat → Nat} {q : Cl} (hP : PgS σ A.cls pg) (hC : PgC (σ.2 28) (σ.2 30) 0 q) (hq : q.2.2 ≠ []) (hW : CWk σ) :
    ∃ σ', c_begin_55 σ = some σ' ∧ @CS (pgUse A.cls.length pg) σ' A.cls (m0 q) ∧ (∀ j, j = 2409 ∨ j = 2410 ∨ j = 2411 ∨ j = 2501 ∨ j = 6002 ∨ j = 3302 → σ'.1 j = σ.1 j) ∧ (∀ a, a ≠ 36 → a ≠ 52 → σ'.2 a = σ.2 a) := by
  obtain ⟨c1, c2, c3, c4⟩ := hC
  unfold c_begin_55 c_clear_56 c_clear_58
  dsimp only [qlet]
  have W1 := hW.ups (k := 100 * 36 + 2) rfl
  have W2 := W1.ups (k := 100 * 38 + 2) rfl
  have W3 := W2.ups (k := 100 * 40 + 2) rfl
  have W4 := W3.ups (k := 100 * 42 + 2) rfl
  have W5 := W4.ups (k := 3505) rfl
  have W6 := W5.ups (k := 4406) rfl
  have W7 := W6.ups (k := 100 * 45 + 2) rfl
  have W8 := W7.ups (k := 100 * 47 + 2) rfl
  have W9 := W8.ups (k := 100 * 52 + 2) rfl
  rw [tshr0 (hW 36 (by omega)), tshr0 (W1 38 (by omega)), tshr0 (W2 40 (by omega)), tshr0 (W3 42 (by omega)), Option.bind_some, tshr0 (W6 45 (by omega)), tshr0 (W7 47 (by omega)), Option.bind_some, tshr0 (W8 52 (by omega)), tshr0 (W9 54 (by omega))]
  obtain ⟨σ1, hσ1⟩ : ∃ σ1, σ1 = upS (upS (upS (upS (upS (upS (upS (upS (upS (upS σ (100 * 36 + 2) (Int32.ofInt 0)) (100 * 38 + 2) (Int32.ofInt 0)) (100 * 40 + 2) (Int32.ofInt 0)) (100 * 42 + 2) (Int32.ofInt 0)) 3505 (Int32.ofInt 0)) 4406 (Int32.ofInt 0)) (100 * 45 + 2) (Int32.ofInt 0)) (100 * 47 + 2) (Int32.ofInt 0)) (100 * 52 + 2) (Int32.ofInt 0)) (100 * 54 + 2) (Int32.ofInt 0) := ⟨_, rfl⟩
  rw [← hσ1]
  have s2 : σ1.2 = σ.2 := by rw [hσ1]; rfl
  have s0 : ∀ j, j = 3602 ∨ j = 3802 ∨ j = 4002 ∨ j = 4202 ∨ j = 3505 ∨ j = 4406 ∨ j = 4502 ∨ j = 4702 ∨ j = 5202 ∨ j = 5402 → σ1.1 j = Int32.ofInt 0 := by
    rintro j (rfl | rfl | rfl | rfl | rfl | rfl | rfl | rfl | rfl | rfl) <;> rw [hσ1] <;> rfl
  have s1 : ∀ j, j = 2409 ∨ j = 2410 ∨ j = 2411 ∨ j = 2501 ∨ j = 6002 ∨ j = 3302 → σ1.1 j = σ.1 j := by
    rintro j (rfl | rfl | rfl | rfl | rfl | rfl) <;> rw [hσ1] <;> rfl
  unfold c_makeVariables_59 c_variablesOf_60
  rw [tatI (i := 4 * 0) (by omega) (by omega), s2, c3, s0 3602 (by omega)]
  have hcw : CW σ1 w0 [] 0 0 0 := ⟨fun v hv => by omega, fun s hs => by omega, fun a ha => by omega, ⟨s0 _ (by omega), s0 _ (by omega), s0 _ (by omega), s0 _ (by omega)⟩, trivial, by omega, by omega, by omega, by simp⟩
  obtain ⟨σ2, q1, q2, q3, q4, q5⟩ := makeVarsL_ok (env := 0) (k := clNv q) c2 (clNv q) 0 qF 0 σ1 (by omega) (by unfold qF; omega) hcw (fun _ _ => ⟨rfl, rfl, rfl⟩) (by omega) ⟨0, s0 _ (by omega)⟩
  rw [show Int32.ofInt ((0 : Nat) : Int) = Int32.ofInt 0 from rfl] at q1
  rw [q1, Option.bind_some]
  unfold c_firstGoal_62
  dsimp only
  rw [tatI (i := 4 * 0 + 1) (by omega) (by omega), tappI (n := 0) (by rw [q5 _ (by omega) (by omega), s0 _ (by omega)]; rfl) (by omega) (by omega), Option.bind_some]
  have e52 : σ2.1 5202 = Int32.ofInt 0 := by rw [q5 _ (by omega) (by omega), s0 _ (by omega)]
  have e30 : σ2.2 30 = σ.2 30 := by rw [q4 _ (by omega), s2]
  have e28 : σ2.2 28 = σ.2 28 := by rw [q4 _ (by omega), s2]
  rw [e52, e30]
  obtain ⟨σ3, hσ3⟩ : ∃ σ3, σ3 = upS (upS (tap4 σ2 52 (0 * 4) (σ.2 30 (4 * 0 + 1)) (Int32.ofInt 0) (Int32.ofInt 0) (Int32.ofInt (-1))) (100 * 52 + 2) (Int32.ofInt ((0 : Nat) + 1))) 5108 (Int32.ofInt 0) := ⟨_, rfl⟩
  rw [← hσ3]
  have t1 : ∀ j, j ≠ 5202 → j ≠ 5108 → σ3.1 j = σ2.1 j := fun j x y => by rw [hσ3, upS_1, if_neg y, upS_1, if_neg x]; rfl
  have t2 : ∀ a, a ≠ 52 → σ3.2 a = σ2.2 a := fun a ha => by rw [hσ3, upS_2, upS_2, tap4_2, if_neg ha]
  have t52 : σ3.2 52 0 = σ.2 30 (4 * 0 + 1) ∧ σ3.2 52 1 = Int32.ofInt 0 ∧ σ3.2 52 2 = Int32.ofInt 0 ∧ σ3.2 52 3 = Int32.ofInt (-1) := by
    rw [hσ3, upS_2, upS_2, tap4_2, if_pos rfl]
    exact ⟨rfl, rfl, rfl, rfl⟩
  have hP3 : PgS σ3 A.cls pg := hP.congr (by rw [t1 _ (by omega) (by omega), q5 _ (by omega) (by omega), s1 _ (by omega)]) (fun a ha => by rw [t2 a (by omega), q4 a (by omega), s2])
  have hcw3 : CW σ3 w0 [] (clNv q) 0 0 := by
    rw [Nat.zero_add] at q2
    exact q2.congr (t2 _ (by omega)) (t2 _ (by omega)) (t2 _ (by omega)) (t2 _ (by omega)) (t1 _ (by omega) (by omega)) (t1 _ (by omega) (by omega)) (t1 _ (by omega) (by omega)) (t1 _ (by omega) (by omega))
  have hk : ∀ j, j = 4406 ∨ j = 4502 ∨ j = 4702 ∨ j = 5402 → σ3.1 j = Int32.ofInt 0 := fun j hj => by rw [t1 j (by omega) (by omega), q5 j (by omega) (by omega), s0 j (by omega)]
  refine ⟨σ3, rfl, ⟨w0, [], 0, 1, hP3.stat, hcw3, ⟨⟨fun v => trivial, rfl, rfl, rfl⟩, fun e he => (by cases he), fun v hv T hT => (by cases hT), slok0, rfl, fun a => Or.inr rfl, fun a _ => rfl, fun e he => absurd he (by show ¬ e < 0; omega), fun _ => fun _ => (0, 0), fun _ => fun _ => (0, 0), fun a ha => by omega, rfl⟩, ⟨?_, ?_, Nat.le_refl _, Nat.le_refl _, Nat.le_refl _⟩, ⟨hk _ (by omega), ?_, hk _ (by omega), ?_, hk _ (by omega), 0, hk _ (by omega), by omega⟩, trivial, ⟨0, ?_, Or.inr ?_⟩, trivial, by show 0 ≤ 500; omega, Nat.le_refl _⟩, fun j hj => by rw [t1 j (by omega) (by omega), q5 j (by omega) (by omega), s1 j hj], fun a x y => by rw [t2 a y, q4 a x, s2]⟩
  · show clNv q ≤ 26 * (0 + 1)
    omega
  · show 1 + pot (clNv q) (fun _ => []) ≤ 4 * (0 + 1)
    rw [pot0]
    omega
  · show σ3.1 3505 = Int32.ofInt (clNv q)
    rw [t1 _ (by omega) (by omega), q3, s0 _ (by omega), zadd, Int.zero_add]
  · rw [hσ3, upS_1, if_neg (by omega), upS_1, if_pos rfl]
    rfl
  · rw [hσ3, upS_1, if_pos rfl]
  · obtain ⟨n, x1, x2, x3⟩ := @RGl.goals (pgUse A.cls.length pg) (σ3.2 28) (σ3.2 52) 0 0 (clNv q) 1 0 q [] (-1) (by omega) (Or.inl ⟨rfl, rfl⟩) q.2.2 (σ.2 30 (4 * 0 + 1)) (by rw [t2 _ (by omega), e28]; exact RGl.map PM.use0 c4) hq
    rw [List.append_nil] at x3
    exact ⟨0, n, 0, 0, -1, rfl, by omega, t52.1.trans x1, t52.2.1, t52.2.2.1, t52.2.2.2, by omega, by omega, x3⟩
theorem QCl.ne {q : Cl} (h : QCl q) : q.2.2 ≠ [] := by
  rw [← h.2.2.2.2]
  exact (pGs_ne 48 0 h.2.2.2.1).1
theorem qcl_of {A : As} (hA : AW A) (h : (pGs A.tx A.n 48 0).1 = true) : QCl (qOf A) := ⟨hA.1.1, hA.1.2.1, hA.1.2.2, h, rfl⟩
theorem gs_td {q : Cl} (h : QCl q) : tdOK (clGoals q 0 0) := by
  intro g hg
  unfold clGoals at hg
  obtain ⟨x, hx, rfl⟩ := List.mem_map.mp hg
  have := pGs_ok 48 0 h.2.2.2.1 x (by rw [h.2.2.2.2]; exact hx)
  have hc : clOK (q.1, q.2.1, q.2.2) := clOK_of (fun g hg => pGs_ok 48 0 h.2.2.2.1 g (by rw [h.2.2.2.2]; exact hg))
  have := hc x hx 0
  exact this
theorem inv0 {A : As} {q : Cl} (h : QCl q) : AInv A.cls (m0 q) := ⟨gs_td h, fun e => by show ¬ (0 : Int) < 0; omega, fun x hx => by cases hx⟩
set_option maxHeartbeats 1000000 in
theorem ask_c {σ : qC} {A : As} (h : CJ σ A) (hA : AW A) : ∃ σ', c_ask_53 σ = some ((aAsk A).1, σ') ∧ CJ σ' (aAsk A).2 := by
  obtain ⟨h1, h2, h3, h4, pg, h5, h6, h7⟩ := h
  have h5' := h5
  obtain ⟨p1, p2, p3, p4, p5⟩ := h5'
  unfold c_ask_53 aAsk
  dsimp only [qlet]
  have g0 : ∀ j, j ≠ 2410 → (upS σ 2410 (Int32.ofInt 0)).1 j = σ.1 j := fun j x => by rw [upS_1, if_neg x]
  obtain ⟨σ1, e1, ⟨hf, r1, r2, r3⟩, hok⟩ := readQ_c (σ := upS σ 2410 (Int32.ofInt 0)) (h1.congr (g0 _ (by omega)) rfl)
  rw [e1, Option.bind_some]
  unfold c_clear_24
  dsimp only [qlet]
  rw [Option.bind_some]
  have k1 : ∀ j, j ≠ 3202 → j ≠ 3203 → j ≠ 2410 → σ1.1 j = σ.1 j := fun j x y z => by rw [hf.1 j x y, g0 j z]
  have k10 : σ1.1 2410 = Int32.ofInt 0 := by rw [hf.1 _ (by omega) (by omega), upS_1, if_pos rfl]
  have hpne : ∀ i, i < A.cls.length → pg i ≠ 0 := fun i hi => by
    have := p3 i (by omega)
    omega
  have hPs : PgS σ1 A.cls pg := ⟨by rw [k1 _ (by omega) (by omega) (by omega), p1], p2, fun i hi => by rw [hf.2.1 34 (by omega) (by omega)]; exact p3 i hi, p4, fun i hi => ⟨PgC.frw (σ := upS σ 2410 (Int32.ofInt 0)) (p5 i hi).1 hf (hpne i hi), PgH.frw (σ := upS σ 2410 (Int32.ofInt 0)) (p5 i hi).2 hf (hpne i hi)⟩⟩
  have hw1 : CWk σ1 := h3.congr (fun t ht => k1 _ (by omega) (by omega) (by omega))
  by_cases hc : (pGs A.tx A.n 48 0).1 = true
  · rw [if_pos hc, hc, if_neg (by decide)]
    obtain ⟨y1, y2⟩ := hok hc
    have g : ∀ j, j ≠ 2501 → j ≠ 2411 → (upS (upS σ1 2501 (Int32.ofInt 0)) 2411 (Int32.ofInt 0)).1 j = σ1.1 j := fun j x y => by rw [upS_1, if_neg y, upS_1, if_neg x]
    have hq := qcl_of hA hc
    obtain ⟨σ2, b1, b2, b3, b4⟩ := begin55_c (σ := upS (upS σ1 2501 (Int32.ofInt 0)) 2411 (Int32.ofInt 0)) (A := A) (pg := pg) (q := qOf A) (hPs.congr (g _ (by omega) (by omega)) (fun _ _ => rfl)) y1 hq.ne (hw1.congr (fun t ht => g _ (by omega) (by omega)))
    rw [b1, Option.bind_some]
    have e11 : σ2.1 2411 = Int32.ofInt 0 := by rw [b3 _ (by omega), upS_1, if_pos rfl]
    have := seekEnd_c (σ := σ2) (A := clr A) (pg := pg) (q := qOf A) (m := m0 (qOf A)) (ph := 0) (o := 1) (clr_aw hA) (TXc.nil (by rw [b3 _ (by omega), upS_1, if_neg (by omega), upS_1, if_pos rfl])) (by rw [b3 _ (by omega), g _ (by omega) (by omega), k1 _ (by omega) (by omega) (by omega)]; exact h2) (by rw [b3 _ (by omega), g _ (by omega) (by omega), k1 _ (by omega) (by omega) (by omega)]; exact h4) (hPs.congr (by rw [b3 _ (by omega), g _ (by omega) (by omega)]) (fun a ha => by rw [b4 a (by omega) (by omega)]; rfl)) (Or.inl ⟨rfl, rfl, b2⟩) (inv0 hq) (by rw [b4 _ (by omega) (by omega)]; exact y2) (by
      rw [b4 _ (by omega) (by omega)]
      have hend := pGs_end _ _ hc
      have hpl := pGs_place (tx := A.tx) hA.1.2.1 48 0 (Nat.zero_le _)
      rw [show (pGs A.tx A.n 48 0).2.1 = A.n by omega] at r3
      exact r3)
    rw [e11] at this
    exact this
  · have hc' : (pGs A.tx A.n 48 0).1 = false := by simpa using hc
    rw [if_neg hc, hc', if_pos (by decide)]
    unfold c_place_49
    have g : ∀ j, j ≠ 2501 → j ≠ 2409 → (upS (upS σ1 2501 (Int32.ofInt 0)) 2409 ((upS σ1 2501 (Int32.ofInt 0)).1 3203)).1 j = σ1.1 j := fun j x y => by rw [upS_1, if_neg y, upS_1, if_neg x]
    exact ⟨_, rfl, TXc.nil (by rw [upS_1, if_neg (by omega), upS_1, if_pos rfl]), by rw [upS_1, if_pos rfl, upS_1, if_neg (by omega), r1], hw1.congr (fun t ht => g _ (by omega) (by omega)), by rw [g _ (by omega) (by omega), k1 _ (by omega) (by omega) (by omega)]; exact h4, pg, hPs.congr (g _ (by omega) (by omega)) (fun _ _ => rfl), fun z => by rw [g _ (by omega) (by omega), k10], fun q m a z => by cases z⟩
theorem ask_aw {A : As} (hA : AW A) : AW (aAsk A).2 := by
  unfold aAsk
  split
  · rename_i hc
    exact end_aw (A := clr A) (clr_aw hA) (inv0 (qcl_of hA hc)) (qcl_of hA hc) ⟨Nat.le_refl _, fun c hc => by cases hc⟩
  · refine ⟨(clr_aw hA).1, ?_, hA.2.2.1, hA.2.2.2.1, fun q m a z => by cases z⟩
    have := pGs_place (tx := A.tx) hA.1.2.1 48 0 (Nat.zero_le _)
    have := hA.1.1
    show (((pGs A.tx A.n 48 0).2.1 : Nat) : Int) ≤ 48
    omega
