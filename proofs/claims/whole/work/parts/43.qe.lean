/-! RULES of the second small machine: what a method comes to -/
section QE
variable {T : jT} {S : Nat × (Nat → Int32)} {d : Nat} {M : jM} {s s' : qS} {r : qO}
theorem qbody_mono {f g : Nat → jM → qS → Option qO} (hfg : ∀ d M s r, f d M s = some r → g d M s = some r) (h : qbody T S f d M s = some r) : qbody T S g d M s = some r := by
  unfold qbody at h ⊢
  by_cases hd : d < 9
  · rw [if_pos hd] at h; cases h
  rw [if_neg hd] at h ⊢
  cases h1 : qstep T S M s with
  | some s' => simp only [h1] at h ⊢; exact hfg _ _ _ _ h
  | none =>
    simp only [h1] at h ⊢
    cases h2 : qat T M s with
    | none => simp only [h2] at h ⊢; exact h
    | some q =>
      cases q with
      | inl v => simp only [h2] at h ⊢; exact h
      | inr q =>
        obtain ⟨z, as, r0⟩ := q
        simp only [h2] at h ⊢
        cases h3 : T.2.2.1 z with
        | none => simp only [h3] at h; cases h
        | some Z =>
          simp only [h3] at h ⊢
          by_cases h4 : Z.2.2.1 < (lg_sl as).length
          · rw [if_pos h4] at h; cases h
          rw [if_neg h4] at h ⊢
          cases h5 : f (d - 1) Z (0, lv_args 0 as, [], s.2.2.2) with
          | none => simp only [h5] at h; cases h
          | some q =>
            obtain ⟨o, g'⟩ := q
            simp only [h5] at h
            rw [hfg _ _ _ _ h5]
            cases o with
            | inl v => exact hfg _ _ _ _ h
            | inr ci => exact h
theorem qrun_mono : ∀ (n : Nat) {d : Nat} {M : jM} {s : qS} {r : qO}, qrun T S n d M s = some r → qrun T S (n + 1) d M s = some r
  | 0, _, _, _, _, h => by cases h
  | n + 1, _, _, _, _, h => qbody_mono (fun _ _ _ _ h => qrun_mono n h) h
theorem qrun_le {n : Nat} (k : Nat) (h : qrun T S n d M s = some r) : qrun T S (n + k) d M s = some r := by
  induction k with
  | zero => exact h
  | succ k ih => exact qrun_mono _ ih
/-- the method comes to this end -/
def qE (S : Nat × (Nat → Int32)) (d : Nat) (M : jM) (s : qS) (r : qO) : Prop := ∃ n, qrun jT0 S n d M s = some r
/-- k plain steps -/
def qit (S : Nat × (Nat → Int32)) (M : jM) : Nat → qS → Option qS
  | 0, s => some s
  | k + 1, s => match qstep jT0 S M s with
    | some s' => qit S M k s'
    | none => none
theorem qE.step (hd : 9 ≤ d) (h : qstep jT0 S M s = some s') (e : qE S d M s' r) : qE S d M s r := by
  obtain ⟨n, hn⟩ := e
  refine ⟨n + 1, ?_⟩
  show qbody jT0 S (qrun jT0 S n) d M s = some r
  unfold qbody
  rw [if_neg (by omega), h]
  exact hn
theorem qE.steps (k : Nat) (hd : 9 ≤ d) (h : qit S M k s = some s') (e : qE S d M s' r) : qE S d M s r := by
  induction k generalizing s with
  | zero => cases h; exact e
  | succ k ih =>
    unfold qit at h
    split at h
    · rename_i s1 h1
      exact qE.step hd h1 (ih h)
    · cases h
theorem qE.ret {v : Option Value} (hd : 9 ≤ d) (h1 : qstep jT0 S M s = none) (h2 : qat jT0 M s = some (.inl v)) : qE S d M s (.inl v, s.2.2.2) := by
  refine ⟨1, ?_⟩
  show qbody jT0 S _ d M s = _
  unfold qbody
  rw [if_neg (by omega), h1]
  try dsimp only
  rw [h2]
theorem qE.call0 {z : Nat} {as r0 : List Value} {Z : jM} {q : qO} (hd : 9 ≤ d) (h1 : qstep jT0 S M s = none) (h2 : qat jT0 M s = some (.inr (z, as, r0))) (h3 : jT0.2.2.1 z = some Z) (h4 : Nat.ble (lg_sl as).length Z.2.2.1 = true) (e : qE S (d - 1) Z (0, lv_args 0 as, [], s.2.2.2) q)
    (e2 : ∃ n0, ∀ n, n0 ≤ n → (match some q with
        | some (.inl v, g') => qrun jT0 S n d M (s.1 + 3, s.2.1, v.toList ++ r0, g')
        | some (.inr ci, g') => match M.2.2.2.2.2.2.2 with
          | [] => some (.inr ci, g')
          | _ :: _ => match qhand M s.1 ci with
            | some c => some (.inl (some (.int c)), g')
            | none => none
        | none => none) = some r) : qE S d M s r := by
  obtain ⟨n, hn⟩ := e
  obtain ⟨n0, e2⟩ := e2
  refine ⟨n + n0 + 1, ?_⟩
  show qbody jT0 S (qrun jT0 S (n + n0)) d M s = _
  unfold qbody
  rw [if_neg (by omega), h1]
  try dsimp only
  rw [h2]
  try dsimp only
  rw [h3]
  try dsimp only
  rw [if_neg (by have := Nat.le_of_ble_eq_true h4; omega), qrun_le n0 hn]
  exact e2 (n + n0) (by omega)
theorem qE.call {z : Nat} {as r0 : List Value} {Z : jM} {v : Option Value} {g' : qG} (hd : 9 ≤ d) (h1 : qstep jT0 S M s = none) (h2 : qat jT0 M s = some (.inr (z, as, r0))) (h3 : jT0.2.2.1 z = some Z) (h4 : Nat.ble (lg_sl as).length Z.2.2.1 = true) (e : qE S (d - 1) Z (0, lv_args 0 as, [], s.2.2.2) (.inl v, g'))
    (e2 : qE S d M (s.1 + 3, s.2.1, v.toList ++ r0, g') r) : qE S d M s r := by
  refine qE.call0 hd h1 h2 h3 h4 e ?_
  obtain ⟨n, hn⟩ := e2
  refine ⟨n, fun m hm => ?_⟩
  obtain ⟨k, rfl⟩ : ∃ k, m = n + k := ⟨m - n, by omega⟩
  exact qrun_le k hn
theorem qE.callT {z : Nat} {as r0 : List Value} {Z : jM} {ci : Nat} {g' : qG} (hd : 9 ≤ d) (h1 : qstep jT0 S M s = none) (h2 : qat jT0 M s = some (.inr (z, as, r0))) (h3 : jT0.2.2.1 z = some Z) (h4 : Nat.ble (lg_sl as).length Z.2.2.1 = true) (e : qE S (d - 1) Z (0, lv_args 0 as, [], s.2.2.2) (.inr ci, g'))
    (h5 : M.2.2.2.2.2.2.2 = []) : qE S d M s (.inr ci, g') := by
  refine qE.call0 hd h1 h2 h3 h4 e ⟨0, fun n _ => ?_⟩
  try dsimp only
  rw [h5]
theorem qE.callC {z : Nat} {as r0 : List Value} {Z : jM} {ci : Nat} {g' : qG} {b : (Nat × Nat × Nat × Nat) × List Nat} {bs : List ((Nat × Nat × Nat × Nat) × List Nat)} {c : Int32} (hd : 9 ≤ d) (h1 : qstep jT0 S M s = none) (h2 : qat jT0 M s = some (.inr (z, as, r0))) (h3 : jT0.2.2.1 z = some Z) (h4 : Nat.ble (lg_sl as).length Z.2.2.1 = true) (e : qE S (d - 1) Z (0, lv_args 0 as, [], s.2.2.2) (.inr ci, g'))
    (h5 : M.2.2.2.2.2.2.2 = b :: bs) (h6 : qhand M s.1 ci = some c) : qE S d M s (.inl (some (.int c)), g') := by
  refine qE.call0 hd h1 h2 h3 h4 e ⟨0, fun n _ => ?_⟩
  try dsimp only
  rw [h5]
  try dsimp only
  rw [h6]
theorem qE.thr {ci : Nat} (hd : 9 ≤ d) (h1 : qstep jT0 S M s = none) (h2 : qat jT0 M s = none) (h3 : qthr jT0 M s = some ci) : qE S d M s (.inr ci, (s.2.2.2.1, s.2.2.2.2.1, s.2.2.2.2.2.1, s.2.2.2.2.2.2 + 1)) := by
  refine ⟨1, ?_⟩
  show qbody jT0 S _ d M s = _
  unfold qbody
  rw [if_neg (by omega), h1]
  try dsimp only
  rw [h2]
  try dsimp only
  rw [h3]
/-- a word of the memory -/
theorem qE.hp {i : Instr} {len pc : Nat} {lv : List (Nat × Value)} {st st' : List Value} {g g' : qG} (hd : 9 ≤ d) (f : M.2.2.2.2.2.2.1 pc = some (i, len)) (a1 : jstk i st = none) (a2 : jloc i M.2.2.1 lv st = none) (a3 : jjmp i pc len st = none) (a4 : qhp jT0.1 S M.2.2.2.2.1 i st g = some (st', g', len)) (e : qE S d M (pc + len, lv, st', g') r) : qE S d M (pc, lv, st, g) r := by
  refine qE.step hd ?_ e
  unfold qstep
  try dsimp only
  rw [f]
  try dsimp only
  rw [a1]
  try dsimp only
  rw [a2]
  try dsimp only
  rw [a3]
  try dsimp only
  rw [a4]
  try dsimp only
  rw [show Nat.beq len len = true from Nat.beq_refl len]
  rfl
def aget (A : Nat → Int32) (n : Nat) (j : Int32) : Option Int32 := if qob n j = true then none else some (A j.toNatClampNeg)
def aput (σ : qC) (a n : Nat) (j v : Int32) : Option qC := if qob n j = true then none else some (upA σ a j.toNatClampNeg v)
def tputO (σ : qC) (t w : Nat) (row col v : Int32) : Option qC := if tputB w row col = true then none else some (tput σ t w row col v)
def tappO (σ : qC) (t w : Nat) (a b c d : Int32) : Option qC := if tappB σ t w = true then none else some (tapp σ t w a b c d)
def qlet {α β : Type} (x : α) (f : α → Option β) : Option β := f x
theorem qlet_ex {α β : Type} {x : α} {f : α → Option β} {p : β} (h : qlet x f = some p) : ∃ y, y = x ∧ f y = some p := ⟨x, rfl, h⟩
theorem obind {α β : Type} {x : Option α} {f : α → Option β} {p : β} (h : x.bind f = some p) : ∃ y, x = some y ∧ f y = some p := Option.bind_eq_some_iff.mp h
theorem aget_inv {A : Nat → Int32} {n : Nat} {j v : Int32} (h : aget A n j = some v) : ¬ qob n j = true ∧ v = A j.toNatClampNeg := by
  unfold aget at h
  split at h
  · cases h
  · rename_i hq; cases h; exact ⟨hq, rfl⟩
theorem aput_inv {σ σ' : qC} {a n : Nat} {j v : Int32} (h : aput σ a n j v = some σ') : ¬ qob n j = true ∧ σ' = upA σ a j.toNatClampNeg v := by
  unfold aput at h
  split at h
  · cases h
  · rename_i hq; cases h; exact ⟨hq, rfl⟩
variable {pc a n t w : Nat} {lv : List (Nat × Value)} {r0 : List Value} {x : List Nat} {j v : Int32} {g : qG} {σ σ' x1 : qC} {y : qC × Int64 × Nat} {y1 : Int64 × Nat}
theorem qE.iald (hd : 9 ≤ d) (hv : aget (qga g a) n j = some v) (f : M.2.2.2.2.2.2.1 pc = some (.iaload, 1)) (hq : qd[a]? = some (5, n, x)) (e : qE S d M (pc + 1, lv, .int v :: r0, g) r) : qE S d M (pc, lv, .int j :: .ref a :: r0, g) r := by
  obtain ⟨h1, rfl⟩ := aget_inv hv
  refine qE.hp hd f rfl rfl rfl ?_ e
  unfold qhp
  try dsimp only
  rw [hq]
  exact if_neg h1
theorem qE.cald (hd : 9 ≤ d) (hv : aget (qga g a) n j = some v) (f : M.2.2.2.2.2.2.1 pc = some (.caload, 1)) (hq : qd[a]? = some (4, n, x)) (e : qE S d M (pc + 1, lv, .int v :: r0, g) r) : qE S d M (pc, lv, .int j :: .ref a :: r0, g) r := by
  obtain ⟨h1, rfl⟩ := aget_inv hv
  refine qE.hp hd f rfl rfl rfl ?_ e
  unfold qhp
  try dsimp only
  rw [hq]
  exact if_neg h1
/-- the script's own -/
theorem qE.sald {k : Nat} (hd : 9 ≤ d) (hv : aget S.2 S.1 j = some v) (f : M.2.2.2.2.2.2.1 pc = some (.iaload, 1)) (hq : qd[a]? = some (0, k, x)) (e : qE S d M (pc + 1, lv, .int v :: r0, g) r) : qE S d M (pc, lv, .int j :: .ref a :: r0, g) r := by
  obtain ⟨h1, rfl⟩ := aget_inv hv
  refine qE.hp hd f rfl rfl rfl ?_ e
  unfold qhp
  try dsimp only
  rw [hq]
  exact if_neg h1
theorem qE.iastC (hd : 9 ≤ d) (hv : aput σ a n j v = some σ') (f : M.2.2.2.2.2.2.1 pc = some (.iastore, 1)) (hq : (qd[a]?, Nat.blt a 64) = (some (5, n, x), true)) (e : qE S d M (pc + 1, lv, r0, (σ', y)) r) : qE S d M (pc, lv, .int v :: .int j :: .ref a :: r0, (σ, y)) r := by
  obtain ⟨h1, rfl⟩ := aput_inv hv
  have hq1 : qd[a]? = some (5, n, x) := congrArg Prod.fst hq
  have hq2 : Nat.blt a 64 = true := congrArg Prod.snd hq
  refine qE.hp hd f rfl rfl rfl ?_ e
  unfold qhp
  try dsimp only
  rw [hq1]
  refine (if_neg h1).trans ?_
  unfold qpa
  rw [hq2]
  rfl
theorem qE.iastM (hd : 9 ≤ d) (hv : aput σ a n j v = some σ') (f : M.2.2.2.2.2.2.1 pc = some (.iastore, 1)) (hq : (qd[a]?, Nat.blt a 64) = (some (5, n, x), false)) (e : qE S d M (pc + 1, lv, r0, (x1, σ', y1)) r) : qE S d M (pc, lv, .int v :: .int j :: .ref a :: r0, (x1, σ, y1)) r := by
  obtain ⟨h1, rfl⟩ := aput_inv hv
  have hq1 : qd[a]? = some (5, n, x) := congrArg Prod.fst hq
  have hq2 : Nat.blt a 64 = false := congrArg Prod.snd hq
  refine qE.hp hd f rfl rfl rfl ?_ e
  unfold qhp
  try dsimp only
  rw [hq1]
  refine (if_neg h1).trans ?_
  unfold qpa
  rw [hq2]
  rfl
theorem qE.castC (hd : 9 ≤ d) (hv : aput σ a n j (vp_nar .char v) = some σ') (f : M.2.2.2.2.2.2.1 pc = some (.castore, 1)) (hq : (qd[a]?, Nat.blt a 64) = (some (4, n, x), true)) (e : qE S d M (pc + 1, lv, r0, (σ', y)) r) : qE S d M (pc, lv, .int v :: .int j :: .ref a :: r0, (σ, y)) r := by
  obtain ⟨h1, rfl⟩ := aput_inv hv
  have hq1 : qd[a]? = some (4, n, x) := congrArg Prod.fst hq
  have hq2 : Nat.blt a 64 = true := congrArg Prod.snd hq
  refine qE.hp hd f rfl rfl rfl ?_ e
  unfold qhp
  try dsimp only
  rw [hq1]
  refine (if_neg h1).trans ?_
  unfold qpa
  rw [hq2]
  rfl
/-- a Table's word that may fail -/
theorem qE.tab {idx z : Nat} {st as : List Value} {o : Option Value} {g' : qG} (hd : 9 ≤ d) (hv : qtab z as g = some (o, g')) (f : M.2.2.2.2.2.2.1 pc = some (.invokevirtual idx, 3)) (hq : qcall jT0.2.1 M.2.2.2.2.1 (.invokevirtual idx) 3 st = some (z, as, r0)) (hc : (qisT z && qcat r0) = true) (e : qE S d M (pc + 3, lv, o.toList ++ r0, g') r) : qE S d M (pc, lv, st, g) r := by
  refine qE.step hd ?_ e
  unfold qstep
  try dsimp only
  rw [f]
  have e1 : jstk (.invokevirtual idx) st = none := rfl
  have e2 : jloc (.invokevirtual idx) M.2.2.1 lv st = none := rfl
  have e3 : jjmp (.invokevirtual idx) pc 3 st = none := rfl
  have e4 : qhp jT0.1 S M.2.2.2.2.1 (.invokevirtual idx) st g = none := rfl
  simp only [e1, e2, e3, e4, hq, hc, hv]
  rfl
theorem qtab_put {row col : Int32} (hv : tputO σ t w row col v = some σ') (hq : qd[t]? = some (6, w, x)) : qtab 30 [.ref t, .int row, .int col, .int v] (σ, y) = some (none, (σ', y)) := by
  unfold tputO at hv
  split at hv
  · cases hv
  · rename_i hb
    cases hv
    unfold qtab
    try dsimp only
    rw [hq]
    exact if_neg hb
theorem qtab_app {b1 b2 b3 b4 : Int32} (hv : tappO σ t w b1 b2 b3 b4 = some σ') (hq : qd[t]? = some (6, w, x)) : qtab 61 [.ref t, .int b1, .int b2, .int b3, .int b4] (σ, y) = some (some (.int (σ.1 (100 * t + 2))), (σ', y)) := by
  unfold tappO at hv
  split at hv
  · cases hv
  · rename_i hb
    cases hv
    unfold qtab
    try dsimp only
    rw [hq]
    exact if_neg hb
/-- a jump that must be looked at -/
theorem qE.jmp {i : Instr} {len pc' : Nat} {st st' : List Value} (hd : 9 ≤ d) (a3 : jjmp i pc len st = some (pc', st')) (f : M.2.2.2.2.2.2.1 pc = some (i, len)) (a1 : jstk i st = none) (a2 : jloc i M.2.2.1 lv st = none) (e : qE S d M (pc', lv, st', g) r) : qE S d M (pc, lv, st, g) r := by
  refine qE.step hd ?_ e
  unfold qstep
  try dsimp only
  rw [f]
  try dsimp only
  rw [a1]
  try dsimp only
  rw [a2]
  try dsimp only
  rw [a3]
theorem qE.stk {i : Instr} {len : Nat} {st st' : List Value} (hd : 9 ≤ d) (a1 : jstk i st = some (st', len)) (f : M.2.2.2.2.2.2.1 pc = some (i, len)) (e : qE S d M (pc + len, lv, st', g) r) : qE S d M (pc, lv, st, g) r := by
  refine qE.step hd ?_ e
  unfold qstep
  try dsimp only
  rw [f]
  try dsimp only
  rw [a1]
  try dsimp only
  rw [show Nat.beq len len = true from Nat.beq_refl len]
  rfl
theorem qE.acmp {c : ACond} {off : Int} {o1 o2 tg : Nat} (hd : 9 ≤ d) (hc : (1 ≤ o1 ∧ o1 < 11) ∧ (1 ≤ o2 ∧ o2 < 11)) (f : M.2.2.2.2.2.2.1 pc = some (.if_acmp c off, 3)) (ht : jtgt pc off = some tg) (e : qE S d M (jbrA c o1 o2 tg (pc + 3), lv, r0, g) r) : qE S d M (pc, lv, .ref o2 :: .ref o1 :: r0, g) r := by
  refine qE.jmp hd ?_ f rfl rfl e
  unfold jjmp
  try dsimp only
  rw [if_pos ⟨rfl, hc⟩, ht]
  rfl
theorem aget_of {A : Nat → Int32} (h1 : ¬ j < 0) (h2 : ¬ Int32.ofNat n ≤ j) (hn : n < 1000) : aget A n j = some (A j.toNatClampNeg) := by
  unfold aget
  have e1 : (Int32.ofNat n).toInt = n := by
    rw [Int32.toInt_ofNat_of_lt (by omega)]
  rw [Int32.lt_iff_toInt_lt] at h1
  rw [Int32.le_iff_toInt_le, e1] at h2
  have e0 : (0 : Int32).toInt = 0 := rfl
  rw [if_neg]
  unfold qob
  simp only [Bool.or_eq_true, decide_eq_true_eq, not_or]
  refine ⟨by rw [Int32.lt_iff_toInt_lt]; exact h1, fun z => ?_⟩
  have := Nat.le_of_ble_eq_true z
  have e2 : (j.toNatClampNeg : Int) = j.toInt := by
    show ((j.toInt.toNat : Nat) : Int) = j.toInt
    omega
  omega
end QE
/-! what a run with fewer locals comes to, one with more comes to -/
def jsub : List (Nat × Value) → List (Nat × Value) → Prop
  | [], _ => True
  | q :: r, lv => jld q.1 lv = some q.2 ∧ jsub r lv
def jnd : List (Nat × Value) → Bool
  | [] => true
  | q :: r => r.all (fun p => !(Nat.beq p.1 q.1)) && jnd r
def lsub (a b : List (Nat × Value)) : Prop := ∀ i v, jld i a = some v → jld i b = some v
theorem jsub_lsub : ∀ {a b : List (Nat × Value)}, jsub a b → lsub a b
  | [], _, _ => fun i v h => by cases h
  | q :: r, b, h => fun i v hi => by
    unfold jld at hi
    by_cases e : q.1 = i
    · rw [if_pos e] at hi
      cases hi
      rw [← e]
      exact h.1
    · rw [if_neg e] at hi
      exact jsub_lsub h.2 i v hi
theorem jnd_mem : ∀ {a : List (Nat × Value)} {i : Nat} {v : Value}, jnd a = true → (i, v) ∈ a → jld i a = some v
  | q :: r, i, v, hn, hm => by
    unfold jnd at hn
    rw [Bool.and_eq_true, List.all_eq_true] at hn
    unfold jld
    by_cases e : q.1 = i
    · rw [if_pos e]
      rcases List.mem_cons.mp hm with h | h
      · rw [← h]
      · have := hn.1 _ h
        rw [e] at this
        simp at this
    · rw [if_neg e]
      rcases List.mem_cons.mp hm with h | h
      · rw [← h] at e
        exact absurd rfl e
      · exact jnd_mem hn.2 h
theorem jnd_filter {f : Nat × Value → Bool} : ∀ {a : List (Nat × Value)}, jnd a = true → jnd (a.filter f) = true
  | [], h => h
  | q :: r, h => by
    unfold jnd at h
    rw [Bool.and_eq_true, List.all_eq_true] at h
    rw [List.filter_cons]
    split
    · unfold jnd
      rw [Bool.and_eq_true, List.all_eq_true]
      exact ⟨fun p hp => h.1 p (List.mem_filter.mp hp).1, jnd_filter h.2⟩
    · exact jnd_filter h.2
theorem jld_filter {f : Nat × Value → Bool} {i : Nat} {v : Value} : ∀ {a : List (Nat × Value)}, jld i a = some v → f (i, v) = true → jld i (a.filter f) = some v
  | q :: r, h, hf => by
    unfold jld at h
    rw [List.filter_cons]
    by_cases e : q.1 = i
    · rw [if_pos e] at h
      cases h
      subst e
      rw [if_pos hf]
      unfold jld
      rw [if_pos rfl]
    · rw [if_neg e] at h
      have := jld_filter h hf
      split
      · unfold jld
        rw [if_neg e]
        exact this
      · exact this
theorem jst_sub {f : Nat × Value → Bool} {i : Nat} {v : Value} {a b : List (Nat × Value)} (hn : jnd a = true) (hs : lsub a b) (hf : ∀ q, q.1 = i → f q = false) : jnd ((i, v) :: a.filter f) = true ∧ lsub ((i, v) :: a.filter f) ((i, v) :: b.filter f) := by
  constructor
  · unfold jnd
    rw [Bool.and_eq_true, List.all_eq_true]
    refine ⟨fun p hp => ?_, jnd_filter hn⟩
    have h1 := (List.mem_filter.mp hp).2
    cases h2 : Nat.beq p.1 i with
    | false => rfl
    | true =>
      rw [hf p (Nat.eq_of_beq_eq_true h2)] at h1
      cases h1
  · intro k w h
    unfold jld at h ⊢
    by_cases e : i = k
    · rw [if_pos e] at h ⊢
      exact h
    · rw [if_neg e] at h ⊢
      have h1 := List.mem_filter.mp (jld_mem h)
      exact jld_filter (hs _ _ (jnd_mem hn h1.1)) h1.2
theorem jst1_sub {i : Nat} {v : Value} {a b : List (Nat × Value)} (hn : jnd a = true) (hs : lsub a b) : jnd (jst1 i v a) = true ∧ lsub (jst1 i v a) (jst1 i v b) :=
  jst_sub hn hs (fun q e => by simp [e])
theorem jst2_sub {i : Nat} {v : Value} {a b : List (Nat × Value)} (hn : jnd a = true) (hs : lsub a b) : jnd (jst2 i v a) = true ∧ lsub (jst2 i v a) (jst2 i v b) :=
  jst_sub hn hs (fun q e => by simp [e])
set_option maxHeartbeats 1000000 in
theorem jloc_sub {i : Instr} {nL k : Nat} {a b a' : List (Nat × Value)} {st st' : List Value} (hn : jnd a = true) (hs : lsub a b) (h : jloc i nL a st = some (a', st', k)) : ∃ b', jloc i nL b st = some (b', st', k) ∧ jnd a' = true ∧ lsub a' b' := by
  unfold jloc at h ⊢
  split at h
  · split at h
    · rename_i hq
      cases h
      exact ⟨b, by simp only [hs _ _ hq], hn, hs⟩
    · cases h
  · split at h
    · rename_i hq
      cases h
      exact ⟨b, by simp only [hs _ _ hq], hn, hs⟩
    · cases h
  · split at h
    · rename_i hq
      cases h
      exact ⟨b, by simp only [hs _ _ hq], hn, hs⟩
    · cases h
  · split at h
    · rename_i hq
      cases h
      exact ⟨b, by simp only [hs _ _ hq], hn, hs⟩
    · cases h
  · split at h
    · rename_i hq
      cases h
      exact ⟨b, by simp only [hs _ _ hq], hn, hs⟩
    · rename_i hq
      cases h
      exact ⟨b, by simp only [hs _ _ hq], hn, hs⟩
    · cases h
  · split at h
    · rename_i hq
      cases h
      exact ⟨b, by simp only [hs _ _ hq], hn, hs⟩
    · rename_i hq
      cases h
      exact ⟨b, by simp only [hs _ _ hq], hn, hs⟩
    · cases h
  · split at h
    · split at h
      · rename_i hk
        cases h
        exact ⟨_, if_pos hk, jst1_sub hn hs⟩
      · cases h
    · cases h
  · split at h
    · split at h
      · rename_i hk
        cases h
        exact ⟨_, if_pos hk, jst1_sub hn hs⟩
      · cases h
    · cases h
  · split at h
    · split at h
      · rename_i hk
        cases h
        exact ⟨_, if_pos hk, jst2_sub hn hs⟩
      · cases h
    · cases h
  · split at h
    · split at h
      · rename_i hk
        cases h
        exact ⟨_, if_pos hk, jst2_sub hn hs⟩
      · cases h
    · cases h
  · split at h
    · split at h
      · rename_i hk
        cases h
        exact ⟨_, if_pos hk, jst1_sub hn hs⟩
      · cases h
    · split at h
      · rename_i hk
        cases h
        exact ⟨_, if_pos hk, jst1_sub hn hs⟩
      · cases h
    · cases h
  · split at h
    · split at h
      · rename_i hk
        cases h
        exact ⟨_, if_pos hk, jst1_sub hn hs⟩
      · cases h
    · split at h
      · rename_i hk
        cases h
        exact ⟨_, if_pos hk, jst1_sub hn hs⟩
      · cases h
    · cases h
  · split at h
    · rename_i hq
      split at h
      · rename_i hk
        cases h
        refine ⟨_, ?_, jst1_sub hn hs⟩
        simp only [hs _ _ hq]
        exact if_pos hk
      · cases h
    · cases h
  · cases h
section QW
variable {S : Nat × (Nat → Int32)} {M : jM} {i : Instr} {nL len pc : Nat} {a b : List (Nat × Value)} {st : List Value} {g : qG}
theorem jloc_end {ret : Option FieldType} {v : Option Value} (h : jend ret i len st = some v) : jloc i nL b st = none := by
  unfold jend at h
  split at h
  · rfl
  · rfl
  · rfl
  · rfl
  · cases h
theorem jloc_qcall {gM : jL} {cn : Nat} {q : Nat × List Value × List Value} (h : qcall gM cn i len st = some q) : jloc i nL b st = none := by
  unfold qcall at h
  split at h
  · rfl
  · rfl
  · cases h
theorem jloc_jthr {T : jT} {K ci : Nat} (h : jthr T K M i len pc st = some ci) : jloc i nL b st = none := by
  unfold jthr at h
  split at h
  · rfl
  · cases h
theorem jloc_qat {q : Option Value ⊕ (Nat × List Value × List Value)} (h : qat jT0 M (pc, a, st, g) = some q) (f : M.2.2.2.2.2.2.1 pc = some (i, len)) : jloc i nL b st = none := by
  unfold qat at h
  try dsimp only at h
  rw [f] at h
  try dsimp only at h
  cases h1 : jend M.2.2.2.1 i len st with
  | some v => exact jloc_end h1
  | none =>
    rw [h1] at h
    try dsimp only at h
    cases h2 : qcall jT0.2.1 M.2.2.2.2.1 i len st with
    | some q => exact jloc_qcall h2
    | none => rw [h2] at h; cases h
theorem jloc_qthr {ci : Nat} (h : qthr jT0 M (pc, a, st, g) = some ci) (f : M.2.2.2.2.2.2.1 pc = some (i, len)) : jloc i nL b st = none := by
  unfold qthr at h
  try dsimp only at h
  rw [f] at h
  exact jloc_jthr h
theorem qstep_sub {pc1 : Nat} {a1 : List (Nat × Value)} {st1 : List Value} {g1 : qG} (hn : jnd a = true) (hs : lsub a b) (h : qstep jT0 S M (pc, a, st, g) = some (pc1, a1, st1, g1)) : ∃ b1, qstep jT0 S M (pc, b, st, g) = some (pc1, b1, st1, g1) ∧ jnd a1 = true ∧ lsub a1 b1 := by
  unfold qstep at h ⊢
  try dsimp only at h ⊢
  cases f : M.2.2.2.2.2.2.1 pc with
  | none => rw [f] at h; cases h
  | some q =>
    obtain ⟨i, len⟩ := q
    rw [f] at h
    try dsimp only at h ⊢
    cases h1 : jstk i st with
    | some q =>
      obtain ⟨st', k⟩ := q
      rw [h1] at h
      try dsimp only at h ⊢
      cases hk : Nat.beq k len with
      | false => rw [hk] at h; cases h
      | true => rw [hk] at h; cases h; exact ⟨b, rfl, hn, hs⟩
    | none =>
      rw [h1] at h
      try dsimp only at h ⊢
      cases h2 : jloc i M.2.2.1 a st with
      | some q =>
        obtain ⟨a', st', k⟩ := q
        rw [h2] at h
        try dsimp only at h ⊢
        obtain ⟨b', e, n1, s1⟩ := jloc_sub hn hs h2
        rw [e]
        try dsimp only
        cases hk : Nat.beq k len with
        | false => rw [hk] at h; cases h
        | true => rw [hk] at h; cases h; exact ⟨b', rfl, n1, s1⟩
      | none =>
        rw [h2] at h
        try dsimp only at h ⊢
        cases h3 : jloc i M.2.2.1 b st with
        | none =>
          try dsimp only
          cases h4 : jjmp i pc len st with
          | some q => rw [h4] at h; dsimp only at h ⊢; cases h; exact ⟨b, rfl, hn, hs⟩
          | none =>
            rw [h4] at h
            try dsimp only at h ⊢
            cases h5 : qhp jT0.1 S M.2.2.2.2.1 i st g with
            | some q =>
              rw [h5] at h
              try dsimp only at h ⊢
              cases hk : Nat.beq q.2.2 len with
              | false => rw [hk] at h; cases h
              | true => rw [hk] at h; cases h; exact ⟨b, rfl, hn, hs⟩
            | none =>
              rw [h5] at h
              try dsimp only at h ⊢
              cases h6 : qcall jT0.2.1 M.2.2.2.2.1 i len st with
              | none => rw [h6] at h; cases h
              | some q =>
                rw [h6] at h
                try dsimp only at h ⊢
                cases h7 : (qisT q.1 && qcat q.2.2) with
                | false => rw [h7] at h; cases h
                | true =>
                  rw [h7] at h
                  try dsimp only [cond] at h ⊢
                  cases h8 : qtab q.1 q.2.1 g with
                  | none => rw [h8] at h; cases h
                  | some q => rw [h8] at h; cases h; exact ⟨b, rfl, hn, hs⟩
        | some q3 =>
          exfalso
          have hh : ∀ {x : Option qS}, x = some (pc1, a1, st1, g1) → x ≠ none := fun e e2 => by rw [e2] at e; cases e
          have e4 : jjmp i pc len st = none := by
            unfold jloc at h3
            split at h3 <;> first | rfl | (cases h3; done)
          have e5 : qhp jT0.1 S M.2.2.2.2.1 i st g = none := by
            unfold jloc at h3
            split at h3 <;> first | rfl | (cases h3; done)
          have e6 : qcall jT0.2.1 M.2.2.2.2.1 i len st = none := by
            unfold jloc at h3
            split at h3 <;> first | rfl | (cases h3; done)
          rw [e4] at h
          try dsimp only at h
          rw [e5] at h
          try dsimp only at h
          rw [e6] at h
          cases h
theorem qstep_none_sub (hn : jnd a = true) (hs : lsub a b) (h : qstep jT0 S M (pc, a, st, g) = none) (hl : ∀ i len, M.2.2.2.2.2.2.1 pc = some (i, len) → jloc i M.2.2.1 b st = none ∧ jloc i M.2.2.1 a st = none) : qstep jT0 S M (pc, b, st, g) = none := by
  unfold qstep at h ⊢
  try dsimp only at h ⊢
  cases f : M.2.2.2.2.2.2.1 pc with
  | none => rfl
  | some q =>
    obtain ⟨i, len⟩ := q
    rw [f] at h
    try dsimp only at h ⊢
    obtain ⟨l1, l2⟩ := hl i len f
    rw [l2] at h
    rw [l1]
    cases h1 : jstk i st with
    | some q =>
      rw [h1] at h
      try dsimp only at h ⊢
      cases hk : Nat.beq q.2 len with
      | false => rfl
      | true => rw [hk] at h; cases h
    | none =>
      rw [h1] at h
      try dsimp only at h ⊢
      cases h4 : jjmp i pc len st with
      | some q => rw [h4] at h; cases h
      | none =>
        rw [h4] at h
        try dsimp only at h ⊢
        cases h5 : qhp jT0.1 S M.2.2.2.2.1 i st g with
        | some q =>
          rw [h5] at h
          try dsimp only at h ⊢
          cases hk : Nat.beq q.2.2 len with
          | false => rfl
          | true => rw [hk] at h; cases h
        | none =>
          rw [h5] at h
          try dsimp only at h ⊢
          cases h6 : qcall jT0.2.1 M.2.2.2.2.1 i len st with
          | none => rfl
          | some q =>
            rw [h6] at h
            try dsimp only at h ⊢
            cases h7 : (qisT q.1 && qcat q.2.2) with
            | false => rfl
            | true =>
              rw [h7] at h
              try dsimp only [cond] at h ⊢
              cases h8 : qtab q.1 q.2.1 g with
              | none => rfl
              | some q => rw [h8] at h; cases h
theorem qrun_weak : ∀ (n : Nat) {d : Nat} {M : jM} {pc : Nat} {a b : List (Nat × Value)} {st : List Value} {g : qG} {r : qO}, jnd a = true → lsub a b → qrun jT0 S n d M (pc, a, st, g) = some r → qrun jT0 S n d M (pc, b, st, g) = some r
  | 0, _, _, _, _, _, _, _, _, _, _, h => by cases h
  | n + 1, d, M, pc, a, b, st, g, r, hn, hs, h => by
    have h : qbody jT0 S (qrun jT0 S n) d M (pc, a, st, g) = some r := h
    show qbody jT0 S (qrun jT0 S n) d M (pc, b, st, g) = some r
    unfold qbody at h ⊢
    by_cases hd : d < 9
    · rw [if_pos hd] at h; cases h
    rw [if_neg hd] at h ⊢
    cases h1 : qstep jT0 S M (pc, a, st, g) with
    | some s1 =>
      obtain ⟨pc1, a1, st1, g1⟩ := s1
      obtain ⟨b1, e, n1, s1⟩ := qstep_sub hn hs h1
      rw [h1] at h
      rw [e]
      exact qrun_weak n n1 s1 h
    | none =>
      rw [h1] at h
      try dsimp only at h
      have eq : qat jT0 M (pc, b, st, g) = qat jT0 M (pc, a, st, g) := rfl
      have et : qthr jT0 M (pc, b, st, g) = qthr jT0 M (pc, a, st, g) := rfl
      cases h2 : qat jT0 M (pc, a, st, g) with
      | some q =>
        have e0 := qstep_none_sub hn hs h1 (fun i len f => ⟨jloc_qat h2 f, jloc_qat h2 f⟩)
        rw [e0]
        try dsimp only
        rw [eq, h2]
        rw [h2] at h
        try dsimp only at h ⊢
        cases q with
        | inl v => exact h
        | inr q =>
          obtain ⟨z, as, r0⟩ := q
          try dsimp only at h ⊢
          cases h3 : jT0.2.2.1 z with
          | none => rw [h3] at h; cases h
          | some Z =>
            rw [h3] at h
            try dsimp only at h ⊢
            by_cases h4 : Z.2.2.1 < (lg_sl as).length
            · rw [if_pos h4] at h; cases h
            rw [if_neg h4] at h ⊢
            cases h5 : qrun jT0 S n (d - 1) Z (0, lv_args 0 as, [], g) with
            | none => rw [h5] at h; cases h
            | some q =>
              obtain ⟨o, g'⟩ := q
              rw [h5] at h
              cases o with
              | inl v => exact qrun_weak n hn hs h
              | inr ci => exact h
      | none =>
        rw [h2] at h
        try dsimp only at h
        cases h3 : qthr jT0 M (pc, a, st, g) with
        | none => rw [h3] at h; cases h
        | some ci =>
          have e0 := qstep_none_sub hn hs h1 (fun i len f => ⟨jloc_qthr h3 f, jloc_qthr h3 f⟩)
          rw [e0]
          try dsimp only
          rw [eq, h2]
          try dsimp only
          rw [et, h3]
          rw [h3] at h
          exact h
theorem qE.weak {d : Nat} {r : qO} (hs : jsub a b) (hn : jnd a = true) (e : qE S d M (pc, a, st, g) r) : qE S d M (pc, b, st, g) r := by
  obtain ⟨n, h⟩ := e
  exact ⟨n, qrun_weak n hn (jsub_lsub hs) h⟩
end QW
