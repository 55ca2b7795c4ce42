/-! the heap that the numbers stand for -/
def qtabs : List Nat := [28, 30, 36, 38, 40, 42, 45, 47, 52, 54, 60]
def hcell (S : Nat × (Nat → Int32)) (g : qG) (it : Nat → Nat) (a : Nat) (q : Nat × Nat × List Nat) : jC := match q.1 with
  | 0 => .inl (.int, S.1, .inl S.2)
  | 1 => .inr (98, [])
  | 2 => .inr (99, [])
  | 3 => .inr (q.2.1, q.2.2.mapIdx (fun k x => match x with
    | 0 => .int (qgs g a k)
    | x + 1 => .ref x))
  | 4 => .inl (.char, q.2.1, .inl (qga g a))
  | 5 => .inl (.int, q.2.1, .inl (qga g a))
  | _ => .inr (6, [.int (Int32.ofNat q.2.1), .ref (it a), .int (qgs g a 2)])
def qtb (g : qG) (h : jH) (it len cnt made : Nat → Nat) (t w : Nat) : Prop :=
  24 ≤ it t ∧ (∀ q, qd[it t]? = some q → q.1 = 7) ∧ (∃ f, h[it t]? = some (.inl (.int, len t, .inl f)) ∧ ∀ i, qga g t i = if i < len t then f i else 0) ∧ 32 ≤ len t ∧ len t ≤ 262144 ∧ 32 * cnt t ≤ len t ∧ made t ≤ 2 * len t
def Rel (S : Nat × (Nat → Int32)) (g : qG) (h : jH) : Prop := ∃ (it len cnt made : Nat → Nat),
  (∀ a q, qd[a]? = some q → q.1 < 7 → h[a]? = some (hcell S g it a q)) ∧ (∃ f, h[105]? = some (.inl (.long, 1, .inr (.inl f))) ∧ f 0 = g.2.2.1) ∧
  (∀ t w fl, qd[t]? = some (6, w, fl) → qtb g h it len cnt made t w) ∧ (∀ t t', t ∈ qtabs → t' ∈ qtabs → it t = it t' → t = t') ∧
  h.length = 106 + (qtabs.map cnt).sum + g.2.2.2 ∧ jtot h = S.1 + 259170 + (qtabs.map made).sum + 6 * g.2.2.2
/-- what the layout is, by program -/
def qchk (a : Nat) (q : Nat × Nat × List Nat) : Bool := match q.1 with
  | 0 => Nat.beq a 0
  | 1 => Nat.ble 1 a && Nat.blt a 11
  | 2 => Nat.ble 11 a && Nat.blt a 24
  | 3 => Nat.ble 24 a && Nat.blt q.2.2.length 100 && Nat.blt a 105
  | 4 => Nat.ble 24 a && Nat.blt a 105
  | 5 => Nat.ble 24 a && Nat.blt a 105
  | 6 => Nat.ble 24 a && Nat.blt a 64 && (Nat.beq q.2.1 4 || Nat.beq q.2.1 9) && qtabs.any (fun t => Nat.beq t a)
  | 7 => Nat.ble 24 a && Nat.blt a 105
  | 8 => Nat.beq a 105
  | _ => false
theorem qd_all : (qd.mapIdx (fun a q => qchk a q)).all (fun b => b) = true := by decide +kernel
theorem qd_tabs : qtabs.all (fun t => match qd[t]? with
  | some (6, _, _) => true
  | _ => false) = true := by decide +kernel
theorem qd_chk {a : Nat} {q : Nat × Nat × List Nat} (h : qd[a]? = some q) : qchk a q = true := by
  refine List.all_eq_true.mp qd_all _ ?_
  refine List.mem_of_getElem? (i := a) ?_
  rw [List.getElem?_mapIdx, h]
  rfl
theorem qd_obj {a ci : Nat} {fl : List Nat} (h : qd[a]? = some (3, ci, fl)) : 24 ≤ a ∧ fl.length < 100 ∧ a < 105 := by
  have := qd_chk h
  simp only [qchk, Bool.and_eq_true] at this
  exact ⟨Nat.le_of_ble_eq_true this.1.1, by simpa using this.1.2, by simpa using this.2⟩
theorem qd_ca {a n : Nat} {fl : List Nat} (h : qd[a]? = some (4, n, fl)) : 24 ≤ a ∧ a < 105 := by
  have := qd_chk h
  simp only [qchk, Bool.and_eq_true] at this
  exact ⟨Nat.le_of_ble_eq_true this.1, by simpa using this.2⟩
theorem qd_ia {a n : Nat} {fl : List Nat} (h : qd[a]? = some (5, n, fl)) : 24 ≤ a ∧ a < 105 := by
  have := qd_chk h
  simp only [qchk, Bool.and_eq_true] at this
  exact ⟨Nat.le_of_ble_eq_true this.1, by simpa using this.2⟩
theorem qd_tab {a w : Nat} {fl : List Nat} (h : qd[a]? = some (6, w, fl)) : 24 ≤ a ∧ a < 64 ∧ (w = 4 ∨ w = 9) ∧ a ∈ qtabs := by
  have := qd_chk h
  simp only [qchk, Bool.and_eq_true, Bool.or_eq_true] at this
  obtain ⟨⟨⟨h1, h2⟩, h3⟩, h4⟩ := this
  refine ⟨Nat.le_of_ble_eq_true h1, by simpa using h2, h3.imp (fun z => by simpa using z) (fun z => by simpa using z), ?_⟩
  obtain ⟨t, ht, he⟩ := List.any_eq_true.mp h4
  have : t = a := by simpa using he
  rw [← this]
  exact ht
theorem qd_out {a n : Nat} {fl : List Nat} (h : qd[a]? = some (8, n, fl)) : a = 105 := by
  have := qd_chk h
  simpa [qchk] using this
theorem qd_scr {a n : Nat} {fl : List Nat} (h : qd[a]? = some (0, n, fl)) : a = 0 := by
  have := qd_chk h
  simpa [qchk] using this
theorem qd_in {t : Nat} (h : t ∈ qtabs) : ∃ w fl, qd[t]? = some (6, w, fl) := by
  have h1 := List.all_eq_true.mp qd_tabs t h
  split at h1
  · rename_i w fl e
    exact ⟨w, fl, e⟩
  · cases h1
section QUp
variable {g : qG} {a k a' k' i : Nat} {v : Int32}
theorem blt_of (a : Nat) : (Nat.blt a 64 = true ∧ a < 64) ∨ (Nat.blt a 64 = false ∧ ¬ a < 64) := by
  by_cases h : a < 64
  · exact Or.inl ⟨by simpa using h, h⟩
  · exact Or.inr ⟨Bool.eq_false_iff.mpr (fun z => h (by simpa using z)), h⟩
theorem beq_ne {a b : Nat} (h : a ≠ b) : Nat.beq a b = false := by
  cases e : Nat.beq a b with
  | false => rfl
  | true => exact absurd (Nat.eq_of_beq_eq_true e) h
theorem qgs_qps (hk : k < 100) (hk' : k' < 100) : qgs (qps g a k v) a' k' = if a = a' ∧ k = k' then v else qgs g a' k' := by
  unfold qgs qps upS
  rcases blt_of a with ⟨b1, c1⟩ | ⟨b1, c1⟩ <;> rcases blt_of a' with ⟨b2, c2⟩ | ⟨b2, c2⟩ <;> simp only [b1, b2, cond_true, cond_false]
  · by_cases e : a = a' ∧ k = k'
    · obtain ⟨rfl, rfl⟩ := e
      simp
    · rw [if_neg e, beq_ne (by omega)]
      rfl
  · rw [if_neg (by omega)]
  · rw [if_neg (by omega)]
  · by_cases e : a = a' ∧ k = k'
    · obtain ⟨rfl, rfl⟩ := e
      simp
    · rw [if_neg e, beq_ne (by omega)]
      rfl
theorem qga_qps : qga (qps g a k v) a' = qga g a' := by
  unfold qga qps upS
  rcases blt_of a with ⟨b1, c1⟩ | ⟨b1, c1⟩ <;> simp only [b1, cond_true, cond_false]
theorem qgs_qpa : qgs (qpa g a i v) a' k' = qgs g a' k' := by
  unfold qgs qpa upA
  rcases blt_of a with ⟨b1, c1⟩ | ⟨b1, c1⟩ <;> simp only [b1, cond_true, cond_false]
theorem qga_qpa : qga (qpa g a i v) a' = if a = a' then upd (qga g a) i v else qga g a' := by
  unfold qga qpa upA
  rcases blt_of a with ⟨b1, c1⟩ | ⟨b1, c1⟩ <;> rcases blt_of a' with ⟨b2, c2⟩ | ⟨b2, c2⟩ <;> simp only [b1, b2, cond_true, cond_false]
  · by_cases e : a = a'
    · subst e
      simp
    · rw [if_neg e, beq_ne (fun z => e z.symm)]
      rfl
  · rw [if_neg (by omega)]
  · rw [if_neg (by omega)]
  · by_cases e : a = a'
    · subst e
      simp
    · rw [if_neg e, beq_ne (fun z => e z.symm)]
      rfl
theorem qps_rest : (qps g a k v).2.2 = g.2.2 := by
  unfold qps
  rcases blt_of a with ⟨b1, c1⟩ | ⟨b1, c1⟩ <;> simp only [b1, cond_true, cond_false]
theorem qpa_rest : (qpa g a i v).2.2 = g.2.2 := by
  unfold qpa
  rcases blt_of a with ⟨b1, c1⟩ | ⟨b1, c1⟩ <;> simp only [b1, cond_true, cond_false]
theorem qsum {l : List Nat} (hn : l.Nodup) {t : Nat} (ht : t ∈ l) (c : Nat → Nat) (e : Nat) : (l.map (fun x => if x = t then c x + e else c x)).sum = (l.map c).sum + e := by
  induction l with
  | nil => cases ht
  | cons y l ih =>
    rw [List.nodup_cons] at hn
    rw [List.map_cons, List.map_cons, List.sum_cons, List.sum_cons]
    by_cases hy : y = t
    · subst hy
      rw [if_pos rfl]
      have : l.map (fun x => if x = y then c x + e else c x) = l.map c := List.map_congr_left (fun x hx => by
        rw [if_neg (fun z : x = y => hn.1 (z ▸ hx))])
      rw [this]
      omega
    · rw [if_neg hy, ih hn.2 ((List.mem_cons.mp ht).resolve_left (fun z => hy z.symm))]
      omega
theorem qtabs_nodup : qtabs.Nodup := by decide
end QUp
section QRel
variable {S : Nat × (Nat → Int32)} {g g' : qG} {h : jH}
/-- cells other than the changed one -/
theorem hcell_same {it : Nat → Nat} {a : Nat} {q : Nat × Nat × List Nat} (hq : qd[a]? = some q) (h1 : ∀ k, k < 100 → qgs g' a k = qgs g a k) (h2 : qga g' a = qga g a) : hcell S g' it a q = hcell S g it a q := by
  have hc := qd_chk hq
  unfold hcell
  split
  · rfl
  · rfl
  · rfl
  · rename_i e
    congr 2
    have hl : q.2.2.length < 100 := by
      unfold qchk at hc
      rw [e] at hc
      simp only [Bool.and_eq_true] at hc
      simpa using hc.1.2
    apply List.ext_getElem?
    intro i
    rw [List.getElem?_mapIdx, List.getElem?_mapIdx]
    cases hx : q.2.2[i]? with
    | none => rfl
    | some x =>
      have hi : i < 100 := Nat.lt_trans (List.getElem?_eq_some_iff.mp hx).1 hl
      cases x with
      | zero => simp [h1 i hi]
      | succ x => rfl
  · rw [h2]
  · rw [h2]
  · rw [h1 2 (by decide)]
/-- a scalar is put -/
theorem Rel.scalar (hR : Rel S g h) {a ci k : Nat} {fl : List Nat} (hq : qd[a]? = some (3, ci, fl)) (hk : fl[k]? = some 0) (v : Int32) : ∃ fs, h[a]? = some (.inr (ci, fs)) ∧ k < fs.length ∧ Rel S (qps g a k v) (h.set a (.inr (ci, fs.set k (.int v)))) := by
  obtain ⟨it, len, cnt, made, r1, r2, r3, r4, r5, r6⟩ := hR
  obtain ⟨o1, o2, o3⟩ := qd_obj hq
  have hkl := (List.getElem?_eq_some_iff.mp hk).1
  have ha := r1 a _ hq (by decide : 3 < 7)
  have hal := (List.getElem?_eq_some_iff.mp ha).1
  refine ⟨_, ha, by rw [List.length_mapIdx]; exact hkl, it, len, cnt, made, fun b q hb h7 => ?_, ?_, fun t w fl' ht => ?_, r4, ?_, ?_⟩
  · by_cases e : b = a
    · subst e
      cases Option.some.inj (hb.symm.trans hq)
      rw [List.getElem?_set_self hal]
      unfold hcell
      congr 3
      apply List.ext_getElem?
      intro i
      rw [List.getElem?_set, List.length_mapIdx, List.getElem?_mapIdx, List.getElem?_mapIdx]
      by_cases ei : k = i
      · subst ei
        rw [if_pos rfl, if_pos hkl, hk]
        simp only [Option.map_some]
        rw [qgs_qps (by omega) (by omega), if_pos ⟨rfl, rfl⟩]
      · rw [if_neg ei]
        cases hx : fl[i]? with
        | none => rfl
        | some x =>
          have hi := (List.getElem?_eq_some_iff.mp hx).1
          cases x with
          | zero =>
            simp only [Option.map_some]
            rw [qgs_qps (by omega) (by omega), if_neg (fun z => ei z.2)]
          | succ x => rfl
    · rw [List.getElem?_set_ne (fun z => e z.symm), r1 b q hb h7]
      congr 1
      exact (hcell_same hb (fun k' hk' => by rw [qgs_qps (by omega) hk', if_neg (fun z => e z.1.symm)]) qga_qps).symm
  · obtain ⟨f, f1, f2⟩ := r2
    exact ⟨f, by rw [List.getElem?_set_ne (by omega)]; exact f1, by rw [qps_rest]; exact f2⟩
  · obtain ⟨b1, b2, ⟨f, f1, f2⟩, b3⟩ := r3 t w fl' ht
    refine ⟨b1, b2, ⟨f, ?_, fun i => by rw [qga_qps]; exact f2 i⟩, b3⟩
    rw [List.getElem?_set_ne (fun z => ?_)]
    · exact f1
    · rw [← z] at b2
      exact absurd (b2 _ hq) (show ¬ (3 : Nat) = 7 by decide)
  · rw [List.length_set, qps_rest]
    exact r5
  · rw [jtot_set ha (by simp [hcell, jsz]), qps_rest]
    exact r6
/-- an element is put -/
theorem Rel.elem (hR : Rel S g h) {a n kd : Nat} {fl : List Nat} (hq : qd[a]? = some (kd, n, fl)) (h45 : kd = 4 ∨ kd = 5) (i : Nat) (v : Int32) : h[a]? = some (.inl (if kd = 4 then FieldType.char else FieldType.int, n, .inl (qga g a))) ∧ 24 ≤ a ∧ Rel S (qpa g a i v) (h.set a (.inl (if kd = 4 then FieldType.char else FieldType.int, n, .inl (upd (qga g a) i v)))) := by
  obtain ⟨it, len, cnt, made, r1, r2, r3, r4, r5, r6⟩ := hR
  have o : 24 ≤ a ∧ a < 105 := by
    rcases h45 with rfl | rfl
    · exact qd_ca hq
    · exact qd_ia hq
  have ha : h[a]? = some (.inl (if kd = 4 then FieldType.char else FieldType.int, n, .inl (qga g a))) := by
    have := r1 a _ hq (show kd < 7 by omega)
    rcases h45 with rfl | rfl <;> exact this
  have hal := (List.getElem?_eq_some_iff.mp ha).1
  refine ⟨ha, o.1, it, len, cnt, made, fun b q hb h7 => ?_, ?_, fun t w fl' ht => ?_, r4, ?_, ?_⟩
  · by_cases e : b = a
    · subst e
      cases Option.some.inj (hb.symm.trans hq)
      rw [List.getElem?_set_self hal]
      have e9 : qga (qpa g b i v) b = upd (qga g b) i v := by rw [qga_qpa, if_pos rfl]
      rcases h45 with rfl | rfl
      · show _ = some (Sum.inl (FieldType.char, n, Sum.inl (qga (qpa g b i v) b)))
        rw [e9]
        rfl
      · show _ = some (Sum.inl (FieldType.int, n, Sum.inl (qga (qpa g b i v) b)))
        rw [e9]
        rfl
    · rw [List.getElem?_set_ne (fun z => e z.symm), r1 b q hb h7]
      congr 1
      exact (hcell_same hb (fun k' hk' => qgs_qpa) (by rw [qga_qpa, if_neg (fun z => e z.symm)])).symm
  · obtain ⟨f, f1, f2⟩ := r2
    exact ⟨f, by rw [List.getElem?_set_ne (by omega)]; exact f1, by rw [qpa_rest]; exact f2⟩
  · obtain ⟨b1, b2, ⟨f, f1, f2⟩, b3⟩ := r3 t w fl' ht
    have hta : a ≠ t := fun z => by
      subst z
      cases Option.some.inj (ht.symm.trans hq)
      rcases h45 with z | z <;> exact absurd z (by decide)
    refine ⟨b1, b2, ⟨f, ?_, fun j => by rw [qga_qpa, if_neg hta]; exact f2 j⟩, b3⟩
    rw [List.getElem?_set_ne (fun z => ?_)]
    · exact f1
    · rw [← z] at b2
      have e9 : kd = 7 := b2 _ hq
      omega
  · rw [List.length_set, qpa_rest]
    exact r5
  · rw [jtot_set ha (by simp [jsz]), qpa_rest]
    exact r6
/-- the law's out is put -/
theorem Rel.out (hR : Rel S g h) : ∃ f, h[105]? = some (.inl (.long, 1, .inr (.inl f))) ∧ f 0 = g.2.2.1 ∧ ∀ x, Rel S (g.1, g.2.1, x, g.2.2.2) (h.set 105 (.inl (.long, 1, .inr (.inl (vp_updL f 0 x))))) := by
  obtain ⟨it, len, cnt, made, r1, ⟨f, f1, f2⟩, r3, r4, r5, r6⟩ := hR
  have hal := (List.getElem?_eq_some_iff.mp f1).1
  refine ⟨f, f1, f2, fun x => ⟨it, len, cnt, made, fun b q hb h7 => ?_, ?_, fun t w fl' ht => ?_, r4, ?_, ?_⟩⟩
  · rw [List.getElem?_set_ne (fun z => ?_), r1 b q hb h7]
    · rfl
    · subst z
      have hc := qd_chk hb
      have hq : qd[105]? = some (8, 0, []) := by decide +kernel
      cases Option.some.inj (hb.symm.trans hq)
      exact absurd h7 (by decide)
  · exact ⟨_, List.getElem?_set_self hal, by simp [vp_updL]⟩
  · obtain ⟨b1, b2, ⟨f', f1', f2'⟩, b3⟩ := r3 t w fl' ht
    refine ⟨b1, b2, ⟨f', ?_, f2'⟩, b3⟩
    rw [List.getElem?_set_ne (fun z => ?_)]
    · exact f1'
    · rw [← z] at f1'
      rw [f1] at f1'
      cases f1'
  · rw [List.length_set]
    exact r5
  · rw [jtot_set f1 (by simp [jsz])]
    exact r6
/-- something is thrown -/
theorem Rel.thrown (hR : Rel S g h) (ci : Nat) : Rel S (g.1, g.2.1, g.2.2.1, g.2.2.2 + 1) (h ++ [.inr (ci, [.null, .null, .null, .null, .null, .null])]) := by
  obtain ⟨it, len, cnt, made, r1, ⟨f, f1, f2⟩, r3, r4, r5, r6⟩ := hR
  refine ⟨it, len, cnt, made, fun b q hb h7 => ?_, ⟨f, ?_, f2⟩, fun t w fl' ht => ?_, r4, ?_, ?_⟩
  · have := r1 b q hb h7
    rw [List.getElem?_append_left (List.getElem?_eq_some_iff.mp this).1, this]
    rfl
  · rw [List.getElem?_append_left (List.getElem?_eq_some_iff.mp f1).1]
    exact f1
  · obtain ⟨b1, b2, ⟨f', f1', f2'⟩, b3⟩ := r3 t w fl' ht
    exact ⟨b1, b2, ⟨f', by rw [List.getElem?_append_left (List.getElem?_eq_some_iff.mp f1').1]; exact f1', f2'⟩, b3⟩
  · rw [List.length_append, r5]
    show _ = 106 + _ + (g.2.2.2 + 1)
    simp
    omega
  · rw [jtot_push, r6]
    show _ = S.1 + 259170 + _ + 6 * (g.2.2.2 + 1)
    simp [jsz]
    omega
/-- a Table's word -/
theorem Rel.table (hR : Rel S g h) {t w : Nat} {fl : List Nat} (hq : qd[t]? = some (6, w, fl)) : ∃ a len f, h[t]? = some (.inr (6, [.int (Int32.ofNat w), .ref a, .int (qgs g t 2)])) ∧ h[a]? = some (.inl (.int, len, .inl f)) ∧ 24 ≤ a ∧ t ≠ a ∧ 32 ≤ len ∧ len ≤ 262144 ∧ (∀ i, qga g t i = if i < len then f i else 0) ∧
    ∀ (h' : jH) (g' : qG) (a' len' : Nat) (f' : Nat → Int32), tUp h h' t a len (Int32.ofNat w) (qgs g' t 2) a' len' f' → (∀ i, qga g' t i = if i < len' then f' i else 0) → (∀ b k, k < 100 → b ≠ t → qgs g' b k = qgs g b k) → (∀ b, b ≠ t → qga g' b = qga g b) → g'.2.2 = g.2.2 → Rel S g' h' := by
  obtain ⟨it, len, cnt, made, r1, ⟨f0, f01, f02⟩, r3, r4, r5, r6⟩ := hR
  obtain ⟨t1, t2, t3, t4⟩ := qd_tab hq
  obtain ⟨b1, b2, ⟨f, f1, f2⟩, b3, b4, b5, b6⟩ := r3 t w fl hq
  have ht := r1 t _ hq (by decide : 6 < 7)
  have htn : t ≠ it t := fun z => by
    have := b2 _ (z ▸ hq)
    exact absurd this (show ¬ (6 : Nat) = 7 by decide)
  refine ⟨it t, len t, f, ht, f1, b1, htn, b3, b4, f2, fun h' g' a' len' f' hu hc hs ha hr => ?_⟩
  obtain ⟨u1, u2, u3, u4⟩ := hu
  have h105 : 105 < h.length := (List.getElem?_eq_some_iff.mp f01).1
  have ha'x : ∀ b q, qd[b]? = some q → q.1 ≠ 7 → b ≠ a' := fun b q hb h7 z => by
    rcases u4 with ⟨e, -⟩ | ⟨e, -⟩
    · rw [z, e] at hb
      exact h7 (b2 _ hb)
    · have : b < 106 := by
        have := (List.getElem?_eq_some_iff.mp hb).1
        have e2 : qd.length = 106 := by decide +kernel
        omega
      omega
  refine ⟨fun x => if x = t then a' else it x, fun x => if x = t then len' else len x, fun x => if x = t then cnt x + (if a' = it t then 0 else 1) else cnt x, fun x => if x = t then made x + (if a' = it t then 0 else len') else made x, fun b q hb h7 => ?_, ?_, fun t' w' fl' ht' => ?_, fun x y hx hy hxy => ?_, ?_, ?_⟩
  · have hbl : b < h.length := (List.getElem?_eq_some_iff.mp (r1 b q hb h7)).1
    by_cases e : b = t
    · subst e
      cases Option.some.inj (hb.symm.trans hq)
      rw [u1]
      unfold hcell
      simp
    · rw [u3 b e (ha'x b q hb (by omega)) hbl, r1 b q hb h7]
      congr 1
      have e1 := hcell_same (S := S) (it := it) hb (fun k hk => hs b k hk e) (ha b e)
      rw [← e1]
      unfold hcell
      simp [e]
  · have hq8 : qd[105]? = some (8, 0, []) := by decide +kernel
    refine ⟨f0, ?_, by rw [hr]; exact f02⟩
    rw [u3 105 (by omega) (ha'x 105 _ hq8 (by decide)) h105]
    exact f01
  · obtain ⟨s1, s2, s3, s4⟩ := qd_tab ht'
    by_cases e : t' = t
    · subst e
      cases Option.some.inj (ht'.symm.trans hq)
      unfold qtb
      simp only [if_true]
      rcases u4 with ⟨rfl, rfl, -, -⟩ | ⟨rfl, hl', -, q1, q2⟩
      · simp only [if_true]
        exact ⟨b1, b2, ⟨f', u2, hc⟩, b3, b4, by omega, by omega⟩
      · have hne : ¬ h.length = it t' := by
          have := (List.getElem?_eq_some_iff.mp f1).1
          omega
        simp only [hne, if_false]
        refine ⟨by omega, fun q hq9 => ?_, ⟨f', u2, hc⟩, by omega, by omega, by omega, by omega⟩
        have := (List.getElem?_eq_some_iff.mp hq9).1
        have e2 : qd.length = 106 := by decide +kernel
        omega
    · obtain ⟨c1, c2, ⟨f3, f31, f32⟩, c3, c4, c5, c6⟩ := r3 t' w' fl' ht'
      unfold qtb
      simp only [e, if_false]
      refine ⟨c1, c2, ⟨f3, ?_, fun i => by rw [ha t' e]; exact f32 i⟩, c3, c4, c5, c6⟩
      rw [u3 (it t') (fun z => ?_) (fun z => ?_) (List.getElem?_eq_some_iff.mp f31).1]
      · exact f31
      · have := c2 _ (z ▸ hq)
        exact absurd this (show ¬ (6 : Nat) = 7 by decide)
      · rcases u4 with ⟨e9, -⟩ | ⟨e9, -⟩
        · exact e (r4 t' t s4 t4 (z.trans e9))
        · have := (List.getElem?_eq_some_iff.mp f31).1
          omega
  · have key : ∀ y, y ∈ qtabs → y ≠ t → it y ≠ a' := fun y hy hyt z => by
      obtain ⟨w9, fl9, hq9⟩ := qd_in hy
      obtain ⟨c1, c2, ⟨f3, f31, f32⟩, -⟩ := r3 y w9 fl9 hq9
      rcases u4 with ⟨e9, -⟩ | ⟨e9, -⟩
      · exact hyt (r4 y t hy t4 (z.trans e9))
      · have := (List.getElem?_eq_some_iff.mp f31).1
        omega
    simp only at hxy
    by_cases e1 : x = t
    · by_cases e2 : y = t
      · rw [e1, e2]
      · rw [if_pos e1, if_neg e2] at hxy
        exact absurd hxy.symm (key y hy e2)
    · by_cases e2 : y = t
      · rw [if_neg e1, if_pos e2] at hxy
        exact absurd hxy (key x hx e1)
      · rw [if_neg e1, if_neg e2] at hxy
        exact r4 x y hx hy hxy
  · rw [qsum qtabs_nodup t4, hr]
    rcases u4 with ⟨e9, -, e10, -⟩ | ⟨e9, e10, -⟩
    · rw [if_pos e9, e10, r5]
      omega
    · have := (List.getElem?_eq_some_iff.mp f1).1
      rw [if_neg (by omega), e10, r5]
      omega
  · rw [qsum qtabs_nodup t4, hr]
    rcases u4 with ⟨e9, -, -, e10⟩ | ⟨e9, -, e10, -⟩
    · rw [if_pos e9, e10, r6]
      omega
    · have := (List.getElem?_eq_some_iff.mp f1).1
      rw [if_neg (by omega), e10, r6]
      omega
end QRel
