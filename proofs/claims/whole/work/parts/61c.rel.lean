/-! the first heap stands for the first numbers -/
def lng0 : jC := .inl (.long, 1, .inr (.inl (fun _ => 0)))
def hh3 (P : jH) (L : Nat) (xs : Nat → Int32) : jH := P.set 0 (.inl (.int, L, .inl xs)) ++ (iniX ++ [lng0])
theorem iniX_len : iniX.length = 41 := rfl
theorem hh3_lo {P : jH} (hlen : P.length = 64) {L : Nat} {xs : Nat → Int32} {a : Nat} (ha : a < 64) (h0 : a ≠ 0) : (hh3 P L xs)[a]? = P[a]? := by
  unfold hh3
  rw [List.getElem?_append_left (by rw [List.length_set, hlen]; exact ha), List.getElem?_set_ne (fun z => h0 z.symm)]
theorem hh3_0 {P : jH} (hlen : P.length = 64) {L : Nat} {xs : Nat → Int32} : (hh3 P L xs)[0]? = some (.inl (.int, L, .inl xs)) := by
  unfold hh3
  rw [List.getElem?_append_left (by rw [List.length_set, hlen]; omega), List.getElem?_set_self (by rw [hlen]; omega)]
theorem hh3_hi {P : jH} (hlen : P.length = 64) {L : Nat} {xs : Nat → Int32} {j : Nat} : (hh3 P L xs)[64 + j]? = (iniX ++ [lng0])[j]? := by
  unfold hh3
  rw [List.getElem?_append_right (by rw [List.length_set, hlen]; omega), List.length_set, hlen, show 64 + j - 64 = j by omega]
def alens : List Nat := [48, 624, 12, 8, 8, 26, 26, 24000, 24000, 72000, 13000, 13000, 13000, 14000, 14000, 14000, 14000, 14000, 6000, 6000, 1200, 1200, 600, 600, 600, 2200, 2200, 600, 1200, 600, 600, 600, 600, 600, 600, 600, 600, 600, 80, 800]
theorem qarrs_eq : qarrs = alens.map (fun n => (.inl (.int, n, .inl (fun _ => 0)) : jC)) := rfl
set_option maxRecDepth 100000 in
theorem qd_arr : (List.range 40).all (fun j => decide (qd[65 + j]? = (alens[j]?).map (fun n => (5, n, [])))) = true := by decide +kernel
def qdM : List Nat := [66, 67, 68, 69, 70, 71, 72, 0, 0, 0, 0, 0, 0, 0, 73, 74, 75, 76, 77, 78, 79, 80, 81, 82, 83, 0, 0, 0, 0, 0, 0, 0, 0, 0, 0, 0, 0, 0, 0, 0, 0, 84, 85, 86, 87, 88, 89, 90, 91, 92, 93, 94, 95, 96, 97, 98, 99, 100, 101, 102, 103, 104, 105, 0]
set_option maxRecDepth 100000 in
theorem qd_mod : decide (qd[64]? = some (3, 11, qdM)) = true := by decide +kernel
def chkV (k : Nat) : List Value → Bool
  | [] => true
  | .int x :: r => decide (tau0.1 (6400 + k) = x) && chkV (k + 1) r
  | _ :: r => chkV (k + 1) r
set_option maxRecDepth 100000 in
theorem mod_chk : (chkF qdM qmod && chkV 0 qmod) = true := by decide +kernel
theorem chkV_ok : ∀ (l : List Value) (k : Nat), chkV k l = true → ∀ j x, l[j]? = some (.int x) → tau0.1 (6400 + (k + j)) = x
  | [], _, _, j, x, h => by simp at h
  | v :: r, k, hc, 0, x, h => by
    have e : v = .int x := by simpa using h
    subst e
    have hc' : (decide (tau0.1 (6400 + k) = x) && chkV (k + 1) r) = true := hc
    rw [Bool.and_eq_true, decide_eq_true_eq] at hc'
    exact hc'.1
  | v :: r, k, hc, j + 1, x, h => by
    have hr : chkV (k + 1) r = true := by
      cases v with
      | int y =>
        have hc' : (decide (tau0.1 (6400 + k) = y) && chkV (k + 1) r) = true := hc
        rw [Bool.and_eq_true] at hc'
        exact hc'.2
      | _ => exact hc
    have := chkV_ok r (k + 1) hr j x (by simpa using h)
    rw [show k + (j + 1) = k + 1 + j by omega]
    exact this
theorem sig_s {P : jH} {a k : Nat} (ha : a < 64) (hk : k < 100) : qgs (gg0 P) a k = iniS P a k := by
  unfold qgs
  rcases blt_of a with ⟨e, -⟩ | ⟨-, e⟩
  · rw [e]
    show iniS P ((100 * a + k) / 100) ((100 * a + k) % 100) = _
    rw [show (100 * a + k) / 100 = a by omega, show (100 * a + k) % 100 = k by omega]
  · exact absurd ha e
theorem sig_a {P : jH} {a : Nat} (ha : a < 64) (ht : qtabs.contains a = false) : qga (gg0 P) a = iniA P a := by
  unfold qga
  rcases blt_of a with ⟨e, -⟩ | ⟨-, e⟩
  · rw [e]
    show (bif qtabs.contains a then iniT P a else iniA P a) = _
    rw [ht]
    rfl
  · exact absurd ha e
theorem sig_t {P : jH} {a : Nat} (ha : a < 64) (ht : qtabs.contains a = true) : qga (gg0 P) a = iniT P a := by
  unfold qga
  rcases blt_of a with ⟨e, -⟩ | ⟨-, e⟩
  · rw [e]
    show (bif qtabs.contains a then iniT P a else iniA P a) = _
    rw [ht]
    rfl
  · exact absurd ha e
theorem ini_at {P : jH} (hchk : chkA P = true) {a : Nat} {q : Nat × Nat × List Nat} (ha : a < 64) (hq : qd[a]? = some q) : chk1 P a q = true := by
  have h := List.all_eq_true.mp hchk
  refine h _ ?_
  rw [List.mem_iff_getElem?]
  refine ⟨a, ?_⟩
  rw [List.getElem?_mapIdx, List.getElem?_take_of_lt ha, hq]
  rfl
theorem nb {a b : Nat} (h : (!(Nat.beq a b)) = true) : a ≠ b := by
  intro z
  rw [z, Nat.beq_refl] at h
  cases h
set_option maxHeartbeats 1000000 in
theorem rel_lo {P : jH} (hlen : P.length = 64) (hchk : chkA P = true) {L : Nat} {xs : Nat → Int32} {a : Nat} {q : Nat × Nat × List Nat} (ha : a < 64) (hq : qd[a]? = some q) (h7 : q.1 < 7) : (hh3 P L xs)[a]? = some (hcell (L, xs) (gg0 P) (fun t => t + 1) a q) := by
  have hc := ini_at hchk ha hq
  have hq' := hq
  obtain ⟨k, n, fl⟩ := q
  dsimp only at h7
  rcases (by omega : k = 0 ∨ k = 1 ∨ k = 2 ∨ k = 3 ∨ k = 4 ∨ k = 5 ∨ k = 6) with rfl | rfl | rfl | rfl | rfl | rfl | rfl
  · have e : a = 0 := Nat.eq_of_beq_eq_true hc
    subst e
    rw [hh3_0 hlen]
    rfl
  · have hc : ck1 P a 98 = true := hc
    unfold ck1 at hc
    split at hc
    · rename_i k e
      rw [Bool.and_eq_true] at hc
      rw [hh3_lo hlen ha (nb hc.2), e, Nat.eq_of_beq_eq_true hc.1]
      rfl
    · cases hc
  · have hc : ck1 P a 99 = true := hc
    unfold ck1 at hc
    split at hc
    · rename_i k e
      rw [Bool.and_eq_true] at hc
      rw [hh3_lo hlen ha (nb hc.2), e, Nat.eq_of_beq_eq_true hc.1]
      rfl
    · cases hc
  · have hc : ck3 P a n fl = true := hc
    unfold ck3 at hc
    split at hc
    · rename_i ci fs e
      rw [Bool.and_eq_true, Bool.and_eq_true] at hc
      obtain ⟨c1, c2, c3⟩ := hc
      have hfl := (qd_obj hq').2.1
      rw [hh3_lo hlen ha (nb c3), e, Nat.eq_of_beq_eq_true c1]
      have hF := chkF_ok (fun k => if k < 100 then qgs (gg0 P) a k else iniS P a k) fl fs 0 c2 (fun j x hj => by
        have hS : iniS P a j = x := by
          unfold iniS
          rw [e]
          dsimp only
          rw [hj]
        rw [Nat.zero_add]
        by_cases hj100 : j < 100
        · rw [if_pos hj100, sig_s ha hj100, hS]
        · rw [if_neg hj100, hS])
      have hE : fs = fl.mapIdx (fun k x => match x with
        | 0 => .int (qgs (gg0 P) a k)
        | x + 1 => .ref x) := by
        refine hF.trans ?_
        apply List.ext_getElem?
        intro j
        rw [List.getElem?_mapIdx, List.getElem?_mapIdx]
        cases hx : fl[j]? with
        | none => rfl
        | some x =>
          have hj : j < fl.length := (List.getElem?_eq_some_iff.mp hx).1
          cases x with
          | zero =>
            simp only [Option.map_some, Nat.zero_add]
            rw [if_pos (by omega)]
          | succ x => rfl
      exact congrArg (fun z => some (Sum.inr (n, z))) hE
    · cases hc
  · have hc : ck4 P a n = true := hc
    unfold ck4 at hc
    split at hc
    · rename_i m f e
      rw [Bool.and_eq_true, Bool.and_eq_true] at hc
      obtain ⟨c1, c2, c3⟩ := hc
      have hA : qga (gg0 P) a = f := by
        rw [sig_a ha (by simpa using c3)]
        unfold iniA
        rw [e]
      rw [hh3_lo hlen ha (nb c2), e, Nat.eq_of_beq_eq_true c1]
      show _ = some (Sum.inl (FieldType.char, n, Sum.inl (qga (gg0 P) a)))
      rw [hA]
    · cases hc
  · have hc : ck5 P a n = true := hc
    unfold ck5 at hc
    split at hc
    · rename_i m f e
      rw [Bool.and_eq_true, Bool.and_eq_true] at hc
      obtain ⟨c1, c2, c3⟩ := hc
      have hA : qga (gg0 P) a = f := by
        rw [sig_a ha (by simpa using c3)]
        unfold iniA
        rw [e]
      rw [hh3_lo hlen ha (nb c2), e, Nat.eq_of_beq_eq_true c1]
      show _ = some (Sum.inl (FieldType.int, n, Sum.inl (qga (gg0 P) a)))
      rw [hA]
    · cases hc
  · have hc : ck6 P a n = true := hc
    unfold ck6 at hc
    split at hc
    · rename_i k w t z e
      rw [Bool.and_eq_true, Bool.and_eq_true, Bool.and_eq_true, decide_eq_true_eq] at hc
      obtain ⟨c1, c2, c3, c4⟩ := hc
      have hS : qgs (gg0 P) a 2 = z := by
        rw [sig_s ha (by omega)]
        unfold iniS
        rw [e]
        rfl
      rw [hh3_lo hlen ha (nb c4), e, Nat.eq_of_beq_eq_true c1, c2, Nat.eq_of_beq_eq_true c3]
      show _ = some (Sum.inr (6, [Value.int (Int32.ofNat n), Value.ref (a + 1), Value.int (qgs (gg0 P) a 2)]))
      rw [hS]
    · cases hc
