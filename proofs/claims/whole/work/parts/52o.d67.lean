/-! D67: the whole, as it should be; the class's state stands for it -/
abbrev As : Type := (Nat → Int) × Nat × Int × List Cl × Option (Cl × Ma × Int32)
abbrev As.tx (A : As) : Nat → Int := A.1
abbrev As.n (A : As) : Nat := A.2.1
abbrev As.pl (A : As) : Int := A.2.2.1
abbrev As.cls (A : As) : List Cl := A.2.2.2.1
abbrev As.q (A : As) : Option (Cl × Ma × Int32) := A.2.2.2.2
abbrev asM (tx : Nat → Int) (n : Nat) (pl : Int) (cls : List Cl) (q : Option (Cl × Ma × Int32)) : As := (tx, n, pl, cls, q)
abbrev Rs : Type := Int32 ⊕ Nat
def ncode (c : Nat) : Nat := if c = 2 then 13 else if c = 3 then 14 else 15
def clr (A : As) : As := asM (fun _ => 0) 0 A.pl A.cls A.q
def aType (l : Int64) (A : As) : Rs × As :=
  if okF l 8 0 = true then (if A.n + nzF l 8 0 ≤ 48 then (.inl (Int32.ofInt (tyF l 8 0 (A.tx, A.n)).2), asM (tyF l 8 0 (A.tx, A.n)).1 (tyF l 8 0 (A.tx, A.n)).2 A.pl A.cls A.q) else (.inr 13, A)) else (.inr 12, A)
def aAdd (A : As) : Rs × As :=
  if A.cls.length = 12 then (.inr 13, clr A) else
  if (pC A.tx A.n).1 = true then (.inl (Int32.ofInt (A.cls.length + 1 : Nat)), asM (fun _ => 0) 0 A.pl (A.cls ++ [(A.tx, A.n, (pC A.tx A.n).2.2)]) none)
  else (.inr 12, asM (fun _ => 0) 0 (pC A.tx A.n).2.1 A.cls A.q)
def aDrop (i : Int) (A : As) : Rs × As :=
  if 0 ≤ i ∧ i < A.cls.length then (.inl (Int32.ofInt 0), asM A.tx A.n A.pl (A.cls.eraseIdx i.toNat) none) else (.inr 12, A)
def us0 : Us := (fun _ => none, fun _ => -1, fun _ => -1, fun _ => -1, fun _ => [], [])
def m0 (q : Cl) : Ma := (0, clNv q, (clNv q, us0, 0, fun _ => trNil, []), clGoals q 0 0, []) where trNil : Tr := fun _ => (0, 0)
def aEnd (A : As) (q : Cl) (a : Int32) (r : Nat × Ma) : Rs × As :=
  if r.1 = 0 then (.inl (Int32.ofInt r.2.1), asM A.tx A.n A.pl A.cls (some (q, r.2, a + Int32.ofInt 1))) else (.inr (ncode r.1), asM A.tx A.n A.pl A.cls none)
def aNext (A : As) : Rs × As := match A.q with
  | none => (.inr 15, A)
  | some (q, m, a) => aEnd A q a (aRun A.cls 20000 1 m)
def qOf (A : As) : Cl := (A.tx, A.n, (pGs A.tx A.n 48 0).2.2)
def aAsk (A : As) : Rs × As :=
  if (pGs A.tx A.n 48 0).1 = true then aEnd (clr A) (qOf A) (Int32.ofInt 0) (aRun A.cls 20000 0 (m0 (qOf A)))
  else (.inr 12, asM (fun _ => 0) 0 (pGs A.tx A.n 48 0).2.1 A.cls none)
/-- the question's variables stay -/
def nvI (k : Nat) (m : Ma) : Prop := k ≤ m.2.2.1.1 ∧ ∀ c, c ∈ m.2.2.2.2 → k ≤ c.2.2.2.1
theorem aSame_nv {m : Ma} {ps : List (Tr × Tr)} {rest : List Go} : (aSame m ps rest).2.2.2.1.1 = m.2.2.1.1 := by
  obtain ⟨s, bn, ⟨nv, u, ns, sg, ap⟩, td, ch⟩ := m
  unfold aSame
  dsimp only
  split
  · rfl
  · split
    · rfl
    · split <;> rfl
theorem aTake_nv {cls : List Cl} {m : Ma} {c lvl : Nat} {X : Tr} {rest : List Go} : m.2.2.1.1 ≤ (aTake cls m c X rest lvl).2.2.2.1.1 := by
  obtain ⟨s, bn, ⟨nv, u, ns, sg, ap⟩, td, ch⟩ := m
  unfold aTake
  dsimp only
  rw [aSame_nv]
  dsimp only
  omega
theorem aTake_i {k : Nat} {cls : List Cl} {m : Ma} {c lvl : Nat} {X : Tr} {rest : List Go} (h : nvI k m) : nvI k (aTake cls m c X rest lvl).2 := by
  refine ⟨Nat.le_trans h.1 aTake_nv, ?_⟩
  rw [aTake_mono.2.2]
  exact h.2
theorem aSame_i {k : Nat} {m : Ma} {ps : List (Tr × Tr)} {rest : List Go} (h : nvI k m) : nvI k (aSame m ps rest).2 := by
  refine ⟨by rw [aSame_nv]; exact h.1, ?_⟩
  rw [aSame_mono.2.2]
  exact h.2
theorem aDo_i {k : Nat} {cls : List Cl} {g : Go} {m : Ma} (h : nvI k m) : nvI k (aDo cls g m).2 := by
  obtain ⟨kd, X, Y, lvl⟩ := g
  obtain ⟨s, bn, ⟨nv, u, ns, sg, ap⟩, rest, ch⟩ := m
  obtain ⟨h1, h2⟩ := h
  dsimp only at h1 h2
  unfold aDo
  dsimp only
  split
  · exact ⟨h1, fun c hc => h2 c (List.mem_of_mem_drop hc)⟩
  split
  · split
    · exact ⟨h1, h2⟩
    · apply aTake_i
      refine ⟨h1, ?_⟩
      dsimp only
      split
      · exact h2
      · intro c hc
        rcases List.mem_cons.mp hc with e | e
        · rw [e]
          exact h1
        · exact h2 c e
  split
  · exact aSame_i ⟨h1, h2⟩
  split
  · split
    · exact ⟨h1, h2⟩
    · split
      · exact ⟨h1, h2⟩
      · split
        · exact ⟨h1, h2⟩
        · exact ⟨h1, h2⟩
  split
  · split
    · exact ⟨h1, h2⟩
    · exact ⟨h1, h2⟩
  split
  · exact ⟨h1, h2⟩
  · exact ⟨h1, h2⟩
theorem aBack_i {k : Nat} {cls : List Cl} {m : Ma} {X : Tr} {c : Nat} {rest : List Go} {st : Sto} {ch : List Ch} (h1 : k ≤ st.1) (h2 : ∀ c, c ∈ ch → k ≤ c.2.2.2.1) : nvI k (aBack cls m X c rest st ch).2 := by
  unfold aBack
  apply aTake_i
  refine ⟨h1, ?_⟩
  dsimp only
  split
  · exact h2
  · intro c hc
    rcases List.mem_cons.mp hc with e | e
    · rw [e]
      exact h1
    · exact h2 c e
theorem aRun_i {k : Nat} {cls : List Cl} : ∀ (f ph : Nat) (m : Ma), nvI k m → nvI k (aRun cls f ph m).2
  | 0, _, _, h => h
  | f + 1, ph, m, hA => by
    obtain ⟨s, bn, st, td, ch⟩ := m
    by_cases h0 : ph = 0
    · subst h0
      cases td with
      | nil => exact hA
      | cons g rest =>
        unfold aRun
        rw [if_pos rfl]
        dsimp only
        by_cases hs : 500 ≤ s
        · rw [if_pos hs]
          exact hA
        · rw [if_neg hs]
          exact aRun_i f _ _ (aDo_i (cls := cls) (g := g) (m := (s + 1, bn, st, rest, ch)) hA)
    · by_cases h1 : ph = 1
      · subst h1
        cases ch with
        | nil => exact hA
        | cons q ch =>
          obtain ⟨X, c, rest, st1⟩ := q
          unfold aRun
          rw [if_neg (by omega), if_pos rfl]
          dsimp only
          exact aRun_i f _ _ (aBack_i (hA.2 (X, c, rest, st1) List.mem_cons_self) (fun c' hc' => hA.2 c' (List.mem_cons_of_mem _ hc')))
      · unfold aRun
        rw [if_neg h0, if_neg h1]
        exact hA
/-- a question's text -/
def QCl (q : Cl) : Prop := q.2.1 ≤ 48 ∧ (∀ j, q.2.1 ≤ j → q.1 j = 0) ∧ (∀ j, j < q.2.1 → 33 ≤ q.1 j ∧ q.1 j ≤ 126) ∧ (pGs q.1 q.2.1 48 0).1 = true ∧ (pGs q.1 q.2.1 48 0).2.2 = q.2.2
def AW (A : As) : Prop := (A.n ≤ 48 ∧ (∀ p, A.n ≤ p → A.tx p = 0) ∧ (∀ p, p < A.n → 33 ≤ A.tx p ∧ A.tx p ≤ 126)) ∧ A.pl ≤ 48 ∧ A.cls.length ≤ 12 ∧ (∀ i, i < A.cls.length → MCl (A.cls.getD i clNil)) ∧ (∀ q m a, A.q = some (q, m, a) → AInv A.cls m ∧ QCl q ∧ nvI (clNv q) m)
theorem AW.rng {A : As} (h : AW A) (p : Nat) : 0 ≤ A.tx p ∧ A.tx p ≤ 126 := by
  by_cases e : p < A.n
  · have := h.1.2.2 p e
    omega
  · have := h.1.2.1 p (by omega)
    omega
theorem AW.cl {A : As} (h : AW A) : ∀ i, i < A.cls.length → clOK (A.cls.getD i clNil) := fun i hi => (h.2.2.2.1 i hi).ok
/-- the class's tables -/
def CWk (σ : qC) : Prop := ∀ t, t = 36 ∨ t = 38 ∨ t = 40 ∨ t = 42 ∨ t = 45 ∨ t = 47 ∨ t = 52 ∨ t = 54 → ∃ k : Nat, σ.1 (100 * t + 2) = Int32.ofInt k ∧ k ≤ 20000
theorem CWk.congr {σ σ' : qC} (h : CWk σ) (h1 : ∀ t, t = 36 ∨ t = 38 ∨ t = 40 ∨ t = 42 ∨ t = 45 ∨ t = 47 ∨ t = 52 ∨ t = 54 → σ'.1 (100 * t + 2) = σ.1 (100 * t + 2)) : CWk σ' := fun t ht => by
  obtain ⟨k, a, b⟩ := h t ht
  exact ⟨k, by rw [h1 t ht, a], b⟩
theorem CFl.wk {U : Pg} {σ : qC} {cls : List Cl} {s bn : Nat} {ch : List Ch} (h : @CFl U σ cls s bn ch) : CWk σ := by
  obtain ⟨W, t, nv, ns, na, nc, a1, ⟨-, -, -, ⟨b1, b2, b3, b4⟩, -, b5⟩, a3, ⟨k1, k2, k3, k4, k5, w, k6, k7⟩, a5, a6, a7, a8⟩ := h
  rintro x (rfl | rfl | rfl | rfl | rfl | rfl | rfl | rfl)
  · exact ⟨nv, b1, by omega⟩
  · exact ⟨ns, b2, by omega⟩
  · exact ⟨na, b3, by omega⟩
  · exact ⟨t.length, b4, by omega⟩
  · exact ⟨0, k3, by omega⟩
  · exact ⟨w, k6, k7⟩
  · exact ⟨nc, k4, a5⟩
  · exact ⟨ch.length, k5, by omega⟩
def CJ (σ : qC) (A : As) : Prop := TXc σ A.n A.tx ∧ σ.1 2409 = Int32.ofInt A.pl ∧ CWk σ ∧ (∃ k : Nat, σ.1 6002 = Int32.ofInt k ∧ k ≤ 20000) ∧ ∃ pg, PgS σ A.cls pg ∧ (A.q = none → σ.1 2410 = Int32.ofInt 0) ∧ (∀ q m a, A.q = some (q, m, a) → σ.1 2410 = Int32.ofInt 1 ∧ σ.1 2411 = a ∧ @CS (pgUse A.cls.length pg) σ A.cls m ∧ QVr (σ.2 28) q ∧ SGc (σ.2 28) 0 q.1 q.2.1)
theorem PM.refl {U : Pg} {B : Nat → Int32} : PM U U B B := ⟨fun _ h => ⟨h, fun _ _ => rfl⟩, fun _ h => ⟨h, fun _ _ => rfl⟩⟩
theorem PgS.congr {σ σ' : qC} {cls : List Cl} {pg : Nat → Nat} (h : PgS σ cls pg) (h1 : σ'.1 3302 = σ.1 3302) (h2 : ∀ a, a = 28 ∨ a = 30 ∨ a = 34 → σ'.2 a = σ.2 a) : PgS σ' cls pg := by
  unfold PgS
  rw [h1, h2 28 (by omega), h2 30 (by omega), h2 34 (by omega)]
  exact h
/-- the search's state, when other things change -/
theorem CS.congr2 {U : Pg} {σ σ' : qC} {cls : List Cl} {m : Ma} (h : @CS U σ cls m) (ha : ∀ a, a = 28 ∨ a = 30 ∨ a = 34 ∨ a = 36 ∨ a = 38 ∨ a = 40 ∨ a = 42 ∨ a = 45 ∨ a = 52 ∨ a = 54 → σ'.2 a = σ.2 a) (h1 : ∀ j, j = 3302 ∨ j = 3602 ∨ j = 3802 ∨ j = 4002 ∨ j = 4202 ∨ j = 4406 ∨ j = 3505 ∨ j = 4502 ∨ j = 5202 ∨ j = 5402 ∨ j = 4702 ∨ j = 5108 → σ'.1 j = σ.1 j) : @CS U σ' cls m := by
  have hs : @CStat U σ' cls := by
    obtain ⟨W, t, na, nc, a1, -⟩ := h
    exact @CStat.congr U _ _ _ a1 (ha _ (by omega)) (ha _ (by omega)) (ha _ (by omega)) (h1 _ (by omega))
  refine CS.map (U := U) ?_ hs (fun a h' => ha a (by omega)) (fun j h' => h1 j (by omega)) h
  rw [ha 28 (by omega)]
  exact PM.refl
def TOK (t : (Nat → Int) × Nat) : Prop := (∀ p, t.2 ≤ p → t.1 p = 0) ∧ (∀ p, p < t.2 → 33 ≤ t.1 p ∧ t.1 p ≤ 126)
theorem tyF_tok {l : Int64} : ∀ {m k : Nat} {t : (Nat → Int) × Nat}, okF l m k = true → TOK t → TOK (tyF l m k t)
  | 0, _, _, _, h => h
  | m + 1, k, t, ho, h => by
    have eo : okF l (m + 1) k = (decide (byt l k = 0 ∨ 33 ≤ byt l k ∧ byt l k ≤ 126) && okF l m (k + 1)) := rfl
    rw [eo, Bool.and_eq_true, decide_eq_true_eq] at ho
    unfold tyF
    apply tyF_tok ho.2
    split
    · exact h
    · rename_i hb
      refine ⟨fun p hp => ?_, fun p hp => ?_⟩
      · dsimp only [gup] at hp ⊢
        rw [if_neg (by omega)]
        exact h.1 p (by omega)
      · dsimp only [gup] at hp ⊢
        by_cases e : p = t.2
        · rw [if_pos e]
          omega
        · rw [if_neg e]
          exact h.2 p (by omega)
theorem TOK.rng {t : (Nat → Int) × Nat} (h : TOK t) (p : Nat) : 0 ≤ t.1 p ∧ t.1 p ≤ 126 := by
  by_cases e : p < t.2
  · have := h.2 p e
    omega
  · have := h.1 p (by omega)
    omega
theorem AW.tok {A : As} (h : AW A) : TOK (A.tx, A.n) := h.1.2
theorem type_aw {A : As} (l : Int64) (h : AW A) : AW (aType l A).2 := by
  unfold aType
  split
  · split
    · rename_i ho hn
      have ht := tyF_tok ho h.tok
      exact ⟨⟨by show (tyF l 8 0 (A.tx, A.n)).2 ≤ 48; rw [tyF_n]; exact hn, ht.1, ht.2⟩, h.2⟩
    · exact h
  · exact h
theorem type_c {σ : qC} {A : As} (l : Int64) (h : CJ σ A) (hA : AW A) : ∃ σ', c_type_20 l σ = some ((aType l A).1, σ') ∧ CJ σ' (aType l A).2 := by
  obtain ⟨h1, h2, h3, h4, pg, h5, h6, h7⟩ := h
  unfold c_type_20 aType
  have e1 := type1_c (l := l) h1.1 hA.1.1 8 0 0 qF (by omega) (by unfold qF; omega) (by omega)
  rw [show Int32.ofInt ((0 : Nat) : Int) = Int32.ofInt 0 from rfl, show (56 : Int) - 8 * ((0 : Nat) : Int) = 56 from rfl, Nat.zero_add] at e1
  rw [e1]
  by_cases ho : okF l 8 0 = true
  · rw [if_pos ho, if_pos ho]
    by_cases hn : A.n + nzF l 8 0 ≤ 48
    · rw [if_pos hn, if_pos hn]
      obtain ⟨σ', a1, a2, a3, a4, a5⟩ := type2_c (l := l) 8 0 qF σ (A.tx, A.n) (by omega) (by unfold qF; omega) h1.1 h1.2.1 hn
      rw [show (56 : Int) - 8 * ((0 : Nat) : Int) = 56 from rfl] at a1
      refine ⟨σ', a1, ⟨⟨a2, a3, by rw [tyF_n]; exact hn, ?_, ?_⟩, by rw [a4 _ (by omega)]; exact h2, h3.congr (fun t ht => a4 _ (by omega)), by rw [a4 _ (by omega)]; exact h4, pg, h5.congr (a4 _ (by omega)) (fun a ha => a5 a (by omega)), fun z => by rw [a4 _ (by omega)]; exact h6 z, fun q m a z => ?_⟩⟩
      · exact (tyF_tok ho hA.tok).1
      · exact (tyF_tok ho hA.tok).rng
      · obtain ⟨b1, b2, b3, b4, b5⟩ := h7 q m a z
        exact ⟨by rw [a4 _ (by omega), b1], by rw [a4 _ (by omega), b2], b3.congr2 (fun a ha => a5 a (by omega)) (fun j hj => a4 j (by omega)), by rw [a5 _ (by omega)]; exact b4, by rw [a5 _ (by omega)]; exact b5⟩
    · rw [if_neg hn, if_neg hn]
      exact ⟨σ, rfl, h1, h2, h3, h4, pg, h5, h6, h7⟩
  · rw [if_neg ho, if_neg ho]
    exact ⟨σ, rfl, h1, h2, h3, h4, pg, h5, h6, h7⟩
theorem conc_ok {σ : qC} {c : Nat} (hc : c ≤ 3) : c_conclude_111 (fcode c) σ = if c = 0 then some (.inl (σ.1 4406), upS (upS σ 2410 (Int32.ofInt 1)) 2411 (σ.1 2411 + Int32.ofInt 1)) else some (.inr (ncode c), upS σ 2410 (Int32.ofInt 0)) := by
  unfold c_conclude_111 c_stepsTaken_112
  have e : ∀ v, (upS σ 2410 v).1 2410 = v := fun v => by rw [upS_1, if_pos rfl]
  rcases (by omega : c = 0 ∨ c = 1 ∨ c = 2 ∨ c = 3) with rfl | rfl | rfl | rfl
  · rw [show fcode 0 = 2 from rfl, if_pos (by omega), if_pos rfl, if_pos rfl]
    dsimp only [qlet]
    rw [e, if_neg (by decide)]
    rw [upS_1, if_neg (by omega), upS_1, if_neg (by omega), upS_1, if_neg (by omega)]
  · rw [show fcode 1 = 10 from rfl, if_pos (by omega), if_neg (by omega), if_neg (by omega)]
    dsimp only [qlet]
    rw [e, if_pos (by decide), if_neg (by omega), if_neg (by omega)]
    rfl
  · rw [show fcode 2 = 3 from rfl, if_pos (by omega), if_neg (by omega), if_neg (by omega)]
    dsimp only [qlet]
    rw [e, if_pos (by decide), if_pos rfl]
    rfl
  · rw [show fcode 3 = 6 from rfl, if_pos (by omega), if_neg (by omega), if_neg (by omega)]
    dsimp only [qlet]
    rw [e, if_pos (by decide), if_neg (by omega), if_pos rfl]
    rfl
/-- AInv holds on -/
theorem aRun_inv {cls : List Cl} (hcl : ∀ i, i < cls.length → clOK (cls.getD i clNil)) : ∀ (f ph : Nat) (m : Ma), AInv cls m → AInv cls (aRun cls f ph m).2
  | 0, _, _, h => h
  | f + 1, ph, m, hA => by
    obtain ⟨s, bn, st, td, ch⟩ := m
    by_cases h0 : ph = 0
    · subst h0
      cases td with
      | nil => exact hA
      | cons g rest =>
        unfold aRun
        rw [if_pos rfl]
        dsimp only
        by_cases hs : 500 ≤ s
        · rw [if_pos hs]
          exact hA
        · rw [if_neg hs]
          exact aRun_inv hcl f _ _ (aDo_inv (cls := cls) (g := g) (m := (s + 1, bn, st, rest, ch)) ⟨fun q' hq' => hA.1 q' (List.mem_cons_of_mem _ hq'), hA.2.1, hA.2.2⟩ (hA.1 g List.mem_cons_self) hcl)
    · by_cases h1 : ph = 1
      · subst h1
        cases ch with
        | nil => exact hA
        | cons q ch =>
          obtain ⟨X, c, rest, st1⟩ := q
          unfold aRun
          rw [if_neg (by omega), if_pos rfl]
          dsimp only
          exact aRun_inv hcl f _ _ (aBack_inv (m := (s, bn, st, td, (X, c, rest, st1) :: ch)) hA.2.2 hcl)
      · unfold aRun
        rw [if_neg h0, if_neg h1]
        exact hA
theorem CS.len {U : Pg} {σ : qC} {cls : List Cl} {m : Ma} (h : @CS U σ cls m) : m.2.2.2.2.length ≤ 500 := by
  obtain ⟨W, t, na, nc, a1, a2, a3, a4, a5, -, b2, b3, b4, b5⟩ := h
  omega
theorem CFl.len {U : Pg} {σ : qC} {cls : List Cl} {s bn : Nat} {ch : List Ch} (h : @CFl U σ cls s bn ch) : ch.length ≤ 500 := by
  obtain ⟨W, t, nv, ns, na, nc, a1, a2, a3, a4, a5, a6, a7, a8⟩ := h
  omega
theorem CR.len {U : Pg} {σ : qC} {cls : List Cl} {o : Nat} {r : Nat × Ma} (h : @CR U σ o cls r) : r.2.2.2.2.2.length ≤ 500 ∧ r.1 ≤ 3 := by
  rcases h with ⟨a, b, c⟩ | ⟨a, b, c⟩ | ⟨a, b, c⟩ | ⟨a, b, c⟩
  · exact ⟨c.len, by omega⟩
  · exact ⟨c.len, by omega⟩
  · exact ⟨c.len, by omega⟩
  · exact ⟨c.len, by omega⟩
set_option maxHeartbeats 1000000 in
theorem seekEnd_c {σ : qC} {A : As} {pg : Nat → Nat} {q : Cl} {m : Ma} {ph o : Nat} (hA : AW A) (hT : TXc σ A.n A.tx) (h24 : σ.1 2409 = Int32.ofInt A.pl) (h60 : ∃ k : Nat, σ.1 6002 = Int32.ofInt k ∧ k ≤ 20000) (hP : PgS σ A.cls pg) (hR : @CR (pgUse A.cls.length pg) σ o A.cls (ph, m)) (hI : AInv A.cls m) (hQ : QVr (σ.2 28) q) (hS : SGc (σ.2 28) 0 q.1 q.2.1) :
    ∃ σ', ((c_seek_63 o σ).bind (fun p2 => (c_conclude_111 p2.1 p2.2).bind (fun p4 => match p4.1 with | .inr c7 => some ((.inr c7 : Rs), p4.2) | .inl v6 => some (.inl v6, p4.2)))) = some ((aEnd A q (σ.1 2411) (aRun A.cls 20000 ph m)).1, σ') ∧ CJ σ' (aEnd A q (σ.1 2411) (aRun A.cls 20000 ph m)).2 := by
  have hl := hR.len
  have h9 := aRun_ok hA.2.2.1 hA.cl hI hl.2 hl.1
  obtain ⟨σ1, e1, hE⟩ := @seek_ok (pgUse A.cls.length pg) _ hA.cl 20000 ph m σ o 0 qF hR hI h9 (by omega) (by unfold qF; omega)
  have hw := c_seek_63_fr (L := fun x => x ∈ _) (A := fun x => x ∈ _) (σ0 := σ) (fun x hx => hx) (fun x hx => hx) o σ Wr.refl _ e1
  unfold c_seek_63
  rw [show Int32.ofInt ((0 : Nat) : Int) = Int32.ofInt 0 from rfl] at e1
  rw [e1, Option.bind_some]
  dsimp only at hw ⊢
  have f1 : ∀ j, j = 2409 ∨ j = 2410 ∨ j = 2411 ∨ j = 2501 ∨ j = 6002 ∨ j = 3302 → σ1.1 j = σ.1 j := by
    rintro j (rfl | rfl | rfl | rfl | rfl | rfl) <;> exact hw.1 _ (by decide)
  have f2 : ∀ a, a = 26 ∨ a = 28 ∨ a = 30 ∨ a = 34 → σ1.2 a = σ.2 a := by
    rintro a (rfl | rfl | rfl | rfl) <;> exact hw.2 _ (by decide)
  have hT1 : TXc σ1 A.n A.tx := hT.congr (f1 _ (by omega)) (f2 _ (by omega))
  have hP1 : PgS σ1 A.cls pg := hP.congr (f1 _ (by omega)) (fun a ha => f2 a (by omega))
  have h3 : (aRun A.cls 20000 ph m).1 ≤ 3 := by
    rcases hE with ⟨z, -⟩ | ⟨-, z, -⟩ <;> omega
  rw [conc_ok h3]
  unfold aEnd
  by_cases h0 : (aRun A.cls 20000 ph m).1 = 0
  · rw [if_pos h0, if_pos h0, Option.bind_some]
    dsimp only
    have hC : @CS (pgUse A.cls.length pg) σ1 A.cls (aRun A.cls 20000 ph m).2 := by
      rcases hE with ⟨-, z⟩ | ⟨z, -⟩
      · exact z
      · exact absurd h0 z
    have h44 : σ1.1 4406 = Int32.ofInt (aRun A.cls 20000 ph m).2.1 := by
      obtain ⟨W, t, na, nc, a1, a2, a3, a4, ⟨a5, -⟩, -⟩ := hC
      exact a5
    have g : ∀ j, j ≠ 2410 → j ≠ 2411 → (upS (upS σ1 2410 (Int32.ofInt 1)) 2411 (σ1.1 2411 + Int32.ofInt 1)).1 j = σ1.1 j := fun j x y => by rw [upS_1, if_neg y, upS_1, if_neg x]
    refine ⟨_, by rw [h44], hT1.congr (g _ (by omega) (by omega)) rfl, by rw [g _ (by omega) (by omega), f1 _ (by omega)]; exact h24, (@CS.fl (pgUse A.cls.length pg) _ _ _ hC).wk.congr (fun t ht => g _ (by omega) (by omega)), by rw [g _ (by omega) (by omega), f1 _ (by omega)]; exact h60, pg, hP1.congr (g _ (by omega) (by omega)) (fun _ _ => rfl), fun z => (by cases z), fun q' m' a' z => ?_⟩
    cases z
    exact ⟨by rw [upS_1, if_neg (by omega), upS_1, if_pos rfl], by rw [upS_1, if_pos rfl, f1 _ (by omega)], hC.congr2 (fun _ _ => rfl) (fun j hj => g j (by omega) (by omega)), by rw [upS_2, upS_2, f2 _ (by omega)]; exact hQ, by rw [upS_2, upS_2, f2 _ (by omega)]; exact hS⟩
  · rw [if_neg h0, if_neg h0, Option.bind_some]
    dsimp only
    have hC : @CFl (pgUse A.cls.length pg) σ1 A.cls (aRun A.cls 20000 ph m).2.1 (aRun A.cls 20000 ph m).2.2.1 (aRun A.cls 20000 ph m).2.2.2.2.2 := by
      rcases hE with ⟨z, -⟩ | ⟨-, -, z⟩
      · exact absurd z h0
      · exact z
    have g : ∀ j, j ≠ 2410 → (upS σ1 2410 (Int32.ofInt 0)).1 j = σ1.1 j := fun j x => by rw [upS_1, if_neg x]
    exact ⟨_, rfl, hT1.congr (g _ (by omega)) rfl, by rw [g _ (by omega), f1 _ (by omega)]; exact h24, hC.wk.congr (fun t ht => g _ (by omega)), by rw [g _ (by omega), f1 _ (by omega)]; exact h60, pg, hP1.congr (g _ (by omega)) (fun _ _ => rfl), fun _ => by rw [upS_1, if_pos rfl], fun q' m' a' z => by cases z⟩
theorem end_aw {A : As} {q : Cl} {a : Int32} {ph : Nat} {m : Ma} (hA : AW A) (hI : AInv A.cls m) (hq : QCl q) (hv : nvI (clNv q) m) : AW (aEnd A q a (aRun A.cls 20000 ph m)).2 := by
  unfold aEnd
  split
  · refine ⟨hA.1, hA.2.1, hA.2.2.1, hA.2.2.2.1, fun q' m' a' z => ?_⟩
    cases z
    exact ⟨aRun_inv hA.cl _ _ _ hI, hq, aRun_i _ _ _ hv⟩
  · exact ⟨hA.1, hA.2.1, hA.2.2.1, hA.2.2.2.1, fun q' m' a' z => by cases z⟩
theorem next_c {σ : qC} {A : As} (h : CJ σ A) (hA : AW A) : ∃ σ', c_next_113 σ = some ((aNext A).1, σ') ∧ CJ σ' (aNext A).2 := by
  have h' := h
  obtain ⟨h1, h2, h3, h4, pg, h5, h6, h7⟩ := h
  unfold c_next_113 aNext
  cases hq : A.q with
  | none =>
    rw [if_pos (by rw [h6 hq]; rfl)]
    exact ⟨σ, rfl, h'⟩
  | some x =>
    obtain ⟨q, m, a⟩ := x
    obtain ⟨b1, b2, b3, b4, b5⟩ := h7 q m a hq
    rw [if_neg (by rw [b1]; decide)]
    have := seekEnd_c (ph := 1) (o := 7) hA h1 h2 h4 h5 (Or.inr (Or.inl ⟨rfl, rfl, @CS.fl (pgUse A.cls.length pg) _ _ _ b3⟩)) (hA.2.2.2.2 q m a hq).1 b4 b5
    rw [b2] at this
    exact this
theorem next_aw {A : As} (hA : AW A) : AW (aNext A).2 := by
  unfold aNext
  cases hq : A.q with
  | none => exact hA
  | some x =>
    obtain ⟨q, m, a⟩ := x
    obtain ⟨b1, b2, b3⟩ := hA.2.2.2.2 q m a hq
    exact end_aw hA b1 b2 b3
