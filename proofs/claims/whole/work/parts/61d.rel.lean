/-! the first heap stands for the first numbers: the rest -/
theorem qd_len : qd.length = 106 := rfl
theorem rel_hi {P : jH} (hlen : P.length = 64) {L : Nat} {xs : Nat → Int32} {it : Nat → Nat} {a : Nat} {q : Nat × Nat × List Nat} (ha : 64 ≤ a) (hq : qd[a]? = some q) (h7 : q.1 < 7) : (hh3 P L xs)[a]? = some (hcell (L, xs) (gg0 P) it a q) := by
  obtain ⟨j, rfl⟩ : ∃ j, a = 64 + j := ⟨a - 64, by omega⟩
  have hj : 64 + j < 106 := by
    have := (List.getElem?_eq_some_iff.mp hq).1
    rw [qd_len] at this
    exact this
  rw [hh3_hi hlen]
  by_cases h0 : j = 0
  · subst h0
    have e : q = (3, 11, qdM) := by
      have h := of_decide_eq_true qd_mod
      exact Option.some.inj (hq.symm.trans h)
    subst e
    have hm := mod_chk
    rw [Bool.and_eq_true] at hm
    have hF := chkF_ok (fun k => tau0.1 (6400 + k)) qdM qmod 0 hm.1 (fun j x hj => by
      have := chkV_ok qmod 0 hm.2 j x hj
      exact this)
    have hE : qmod = qdM.mapIdx (fun k x => match x with
      | 0 => .int (qgs (gg0 P) 64 k)
      | x + 1 => .ref x) := by
      refine hF.trans ?_
      apply List.ext_getElem?
      intro j
      rw [List.getElem?_mapIdx, List.getElem?_mapIdx]
      cases hx : qdM[j]? with
      | none => rfl
      | some x =>
        cases x with
        | zero =>
          simp only [Option.map_some, Nat.zero_add]
          rfl
        | succ x => rfl
    exact congrArg (fun z => some (Sum.inr (11, z))) hE
  · by_cases h41 : j < 41
    · obtain ⟨i, rfl⟩ : ∃ i, j = i + 1 := ⟨j - 1, by omega⟩
      have hA := List.all_eq_true.mp qd_arr i (List.mem_range.mpr (by omega))
      rw [decide_eq_true_eq, show 65 + i = 64 + (i + 1) by omega, hq] at hA
      have hx : ∃ n, alens[i]? = some n ∧ q = (5, n, []) := by
        cases hz : alens[i]? with
        | none =>
          rw [hz] at hA
          cases hA
        | some n =>
          rw [hz] at hA
          exact ⟨n, rfl, Option.some.inj hA⟩
      obtain ⟨n, x1, x2⟩ := hx
      subst x2
      have e1 : (iniX ++ [lng0])[i + 1]? = qarrs[i]? := by
        rw [List.getElem?_append_left (by rw [iniX_len]; omega)]
        rfl
      rw [e1, qarrs_eq, List.getElem?_map, x1]
      have e2 : qga (gg0 P) (64 + (i + 1)) = fun _ => 0 := by
        unfold qga
        rcases blt_of (64 + (i + 1)) with ⟨-, e⟩ | ⟨e, -⟩
        · omega
        · rw [e]
          rfl
      show _ = some (Sum.inl (FieldType.int, n, Sum.inl (qga (gg0 P) (64 + (i + 1)))))
      rw [e2]
      rfl
    · exfalso
      have : j = 41 := by omega
      subst this
      have e : qd[64 + 41]? = some (8, 0, []) := rfl
      rw [e] at hq
      cases hq
      omega
theorem sum_le {l : List Nat} {f : Nat → Nat} {B : Nat} (h : ∀ t, t ∈ l → f t ≤ B) : (l.map f).sum ≤ l.length * B := by
  induction l with
  | nil => simp
  | cons a l ih =>
    have h1 := h a List.mem_cons_self
    have h2 := ih (fun t ht => h t (List.mem_cons_of_mem _ ht))
    rw [List.map_cons, List.sum_cons, List.length_cons, Nat.add_mul, Nat.one_mul]
    omega
theorem jtot_app (a b : jH) : jtot (a ++ b) = jtot a + jtot b := by
  unfold jtot
  rw [List.map_append, List.sum_append]
theorem jtot_set0 {P : jH} {c : jC} (h : P[0]? = some (.inr (97, []))) : jtot (P.set 0 c) = jtot P + jsz c := by
  cases P with
  | nil => simp at h
  | cons x r =>
    have e : x = .inr (97, []) := by simpa using h
    subst e
    show jtot (c :: r) = jtot (.inr (97, []) :: r) + jsz c
    unfold jtot
    rw [List.map_cons, List.map_cons, List.sum_cons, List.sum_cons]
    show jsz c + _ = 0 + _ + jsz c
    omega
theorem rel0 {P : jH} (hlen : P.length = 64) (hchk : chkA P = true) (htab : chkTs P = true) (htot : chkN P = true) (h0 : chk0 P = true) (L : Nat) (xs : Nat → Int32) : Rel (L, xs) (gg0 P) (hh3 P L xs) := by
  refine ⟨fun t => t + 1, fun t => iniLen P (t + 1), fun _ => 0, fun _ => 0, ?_, ?_, ?_, ?_, ?_, ?_⟩
  · intro a q hq h7
    by_cases ha : a < 64
    · exact rel_lo hlen hchk ha hq h7
    · exact rel_hi hlen (by omega) hq h7
  · refine ⟨fun _ => 0, ?_, rfl⟩
    have := hh3_hi (P := P) hlen (L := L) (xs := xs) (j := 41)
    rw [show 105 = 64 + 41 from rfl, this, List.getElem?_append_right (by rw [iniX_len]; omega), iniX_len]
    rfl
  · intro t w fl hq
    obtain ⟨q1, q2, q3, q4⟩ := qd_tab hq
    have hT := List.all_eq_true.mp htab t q4
    unfold chkT at hT
    split at hT
    · rename_i n f e
      rw [Bool.and_eq_true, Bool.and_eq_true] at hT
      obtain ⟨t1, t2, t3⟩ := hT
      have h1 := Nat.le_of_ble_eq_true t1
      have h2 := Nat.le_of_ble_eq_true t2
      have hn : iniLen P (t + 1) = n := by
        unfold iniLen
        rw [e]
      have hA : iniA P (t + 1) = f := by
        unfold iniA
        rw [e]
      have hlt : t + 1 < 64 := by
        have := (List.getElem?_eq_some_iff.mp e).1
        omega
      unfold qtb
      dsimp only
      refine ⟨by omega, ?_, ⟨f, ?_, ?_⟩, by omega, by omega, by omega, by omega⟩
      · intro q hq'
        split at t3
        · rename_i k x y e'
          have : q = (k, x, y) := Option.some.inj (hq'.symm.trans e')
          rw [this]
          exact Nat.eq_of_beq_eq_true t3
        · cases t3
      · rw [hh3_lo hlen hlt (by omega), e, hn]
      · intro i
        rw [sig_t (by omega) (by simpa using q4)]
        unfold iniT
        rw [hA]
    · cases hT
  · intro t t' _ _ h
    have h' : t + 1 = t' + 1 := h
    omega
  · unfold hh3
    rw [List.length_append, List.length_set, hlen, List.length_append, iniX_len]
    rfl
  · unfold hh3
    rw [jtot_app, jtot_set0 (chk0_ok h0), jtot_app]
    have e := Nat.eq_of_beq_eq_true htot
    have e1 : jtot [lng0] = 1 := rfl
    have e2 : (qtabs.map (fun _ => (0 : Nat))).sum = 0 := rfl
    rw [e1, e2]
    show jtot P + L + (jtot iniX + 1) = L + 259170 + 0 + 6 * 0
    omega
def A0 : As := asM (fun _ => 0) 0 (-1) [] none
theorem jj0 {P : jH} (hS : chkS P = true) : JJ (sig0 P) tau0 A0 := by
  unfold chkS at hS
  rw [Bool.and_eq_true, Bool.and_eq_true, Bool.and_eq_true, Bool.and_eq_true, Bool.and_eq_true, decide_eq_true_eq, decide_eq_true_eq, decide_eq_true_eq, decide_eq_true_eq] at hS
  obtain ⟨h1, h2, h3, h4, h5, h6⟩ := hS
  have h5' : ∀ i, i < 12 → (sig0 P).2 34 i = Int32.ofInt ((i + 1 : Nat) : Int) := fun i hi => of_decide_eq_true (List.all_eq_true.mp h5 i (List.mem_range.mpr hi))
  have h6' : ∀ t, t ∈ [36, 38, 40, 42, 45, 47, 52, 54, 60] → (sig0 P).1 (100 * t + 2) = Int32.ofInt 0 := fun t ht => of_decide_eq_true (List.all_eq_true.mp h6 t ht)
  refine ⟨⟨TXc.nil h3, h1, ?_, ⟨0, h6' 60 (by decide), by omega⟩, fun i => i + 1, ⟨h4, by show 0 ≤ 12; omega, fun i hi => ⟨h5' i hi, by show 1 ≤ i + 1; omega, by show i + 1 < 13; omega⟩, fun i j _ _ h => by have h' : i + 1 = j + 1 := h; omega, fun i hi => absurd hi (by show ¬ i < 0; omega)⟩, fun _ => h2, fun q m a z => by cases z⟩, ⟨TXm.nil rfl, ⟨rfl, by show 0 ≤ 12; omega, fun i hi => absurd hi (by show ¬ i < 0; omega)⟩, rfl, ⟨⟨0, rfl, by omega⟩, rfl⟩, fun _ => rfl, fun q m a z => by cases z⟩, ⟨⟨by show 0 ≤ 48; omega, fun _ _ => rfl, fun p hp => absurd hp (by show ¬ p < 0; omega)⟩, by show (-1 : Int) ≤ 48; omega, by show 0 ≤ 12; omega, fun i hi => absurd hi (by show ¬ i < 0; omega), fun q m a z => by cases z⟩⟩
  rintro t (rfl | rfl | rfl | rfl | rfl | rfl | rfl | rfl)
  · exact ⟨0, h6' 36 (by decide), by omega⟩
  · exact ⟨0, h6' 38 (by decide), by omega⟩
  · exact ⟨0, h6' 40 (by decide), by omega⟩
  · exact ⟨0, h6' 42 (by decide), by omega⟩
  · exact ⟨0, h6' 45 (by decide), by omega⟩
  · exact ⟨0, h6' 47 (by decide), by omega⟩
  · exact ⟨0, h6' 52 (by decide), by omega⟩
  · exact ⟨0, h6' 54 (by decide), by omega⟩
