section JCat
def jHp (k : Nat) : Nat := match k with
  | 13 => 2101
  | 15 => 2102
  | 28 => 3114
  | _ => 3115
def jcH (M : jM) : Bool := M.2.2.2.2.2.2.2.all (fun q => match q.2 with
  | [ci] => Nat.ble 12 ci && Nat.blt ci 16 && !(Nat.beq q.1.2.2.2 0) && jIn (jHp q.1.2.2.2) (.classLink M.1.cls q.1.2.2.2 (jEx.getD (ci - 12) ""))
  | _ => false)
set_option maxRecDepth 20000 in
theorem jcH_ok : (jd_m.flatMap (fun q => q.2)).all (fun e => jcH e.2.1) = true := by decide +kernel
theorem jcX_ok : ∀ i, i < 4 → jAt (([2112, 2181, 4181, 4197] : List Nat).getD i 0) (.castable (jEx.getD i "") (jEx.getD i "")) = true ∧ (cl0[12 + i]?).map (fun z => z.1) = some (jEx.getD i "") := by decide +kernel
theorem jAt_use {b L : Nat} {xs : Nat → Int32} {ad st : Nat → Nat} {sz : Nat} {s : State} {args : Array Value} (hts : ∀ w ∈ TB0, w.before args s = true) (hSP : jSP b L xs ad st sz s) {p : Nat} {w : Jvm.Cond} (hp : jAt p w = true) : w.before args s = true := by
  unfold jAt at hp
  rw [Bool.and_eq_true, Bool.or_eq_true, decide_eq_true_eq] at hp
  rcases hp.2 with h | h
  · exact hts w (List.mem_filter.mpr ⟨jw_mem hp.1, h⟩)
  · have h9 := hSP.2.2.2.2.1 w (jw_mem hp.1) h
    rw [Bool.and_eq_true] at h
    exact va_Nw.use h.1 h9
theorem jcH_in {M : jM} (h : jcH M = true) {q : (Nat × Nat × Nat × Nat) × List Nat} (hq : q ∈ M.2.2.2.2.2.2.2) : ∃ i, i < 4 ∧ q.2 = [12 + i] ∧ q.1.2.2.2 ≠ 0 ∧ Jvm.Cond.classLink M.1.cls q.1.2.2.2 (jEx.getD i "") ∈ TB0 := by
  unfold jcH at h
  have h1 := List.all_eq_true.mp h q hq
  split at h1
  · rename_i ci hci
    simp only [Bool.and_eq_true, Bool.not_eq_true'] at h1
    obtain ⟨⟨⟨k1, k2⟩, k3⟩, k4⟩ := h1
    have k1 := Nat.le_of_ble_eq_true k1
    have k2 : ci < 16 := by simpa using k2
    refine ⟨ci - 12, by omega, by rw [hci]; congr 1; omega, fun z => ?_, jIn_ok k4⟩
    rw [z] at k3
    cases k3
  · cases h1
variable {l : Launch} {D : va_G} {tys : List (ClassId × FieldType)} {dA : FieldType → ClassId} {b L : Nat} {xs : Nat → Int32} {ad st : Nat → Nat} {sz : Nat}
set_option maxHeartbeats 1000000 in
theorem jcatch_ok : jCatchOK l D cl0 tys (jal b ad st sz) dA 24 sz (jSP b L xs ad st sz) TB0 jT0 := by
  intro p e R s m args below meth c Q M n0 pc a q stk ls H locs cells slots h hz V hh hR k
  obtain ⟨z, hz⟩ := hz
  obtain ⟨⟨hx, hb, hml, hown, hts, hini, hK, hSP, hKn, hsz, hdec, hnL, hF, hN, hS, hC, hL⟩, hex⟩ := V
  have hH : jcH M = true := by
    have hz : jt_m z = some M := hz
    unfold jt_m at hz
    obtain ⟨q9, hq9, rfl⟩ := Option.map_eq_some_iff.mp hz
    exact List.all_eq_true.mp jcH_ok _ (jlk2_mem hq9)
  unfold jhand at hh
  split at hh
  · rename_i ci fs ha
    split at hh
    · cases hh
    · rename_i hKa
      have hKa : 24 ≤ a := by omega
      split at hh
      · rename_i q0 hq0
        cases hh
        obtain ⟨hp0, as, bs, hsplit, hpre⟩ := List.find?_eq_some_iff_append.mp hq0
        rw [hsplit, List.map_append, List.map_cons] at hex
        obtain ⟨pre, rest', e1, e2, e3⟩ := List.map_eq_append_iff.mp hex
        obtain ⟨x, rest, e4, e5, e6⟩ := List.map_eq_cons_iff.mp e3
        subst e4
        have hm0 : q0 ∈ M.2.2.2.2.2.2.2 := by rw [hsplit]; simp
        obtain ⟨i, hi, hq2, hct, hlk⟩ := jcH_in hH hm0
        rw [decide_eq_true_eq, hq2] at hp0
        obtain ⟨c1, c2, c3⟩ := hp0
        have c3 : ci = 12 + i := by simpa using c3
        subst c3
        obtain ⟨w1, w2⟩ := jcX_ok i hi
        have hent := hR.2.1 (a - 24) _ (jx_ws_get (α := jal b ad st sz) (dA := dA) ha hKa)
        obtain ⟨r, hr, cell, g1, g2, g3, -⟩ := hent
        have hrn : r.1 = jEx.getD i "" := by
          have hr : cl0[12 + i]? = some r := hr
          rw [hr] at w2
          exact Option.some.inj w2
        have hcl : s.vm.findClass (jEx.getD i "") = some cell.cls := by
          rw [← hrn, g2]
          exact (hK.1 _ _ hr).2.1
        obtain ⟨d1, d2, hd1, hd2, hfit⟩ := Cond.castable_spec (jAt_use hts hSP w1)
        cases hcl.symm.trans hd1
        cases hcl.symm.trans hd2
        have hx1 : x.startPc = q0.1.1 ∧ x.endPc = q0.1.2.1 ∧ x.handlerPc = q0.1.2.2.1 ∧ x.catchType = q0.1.2.2.2 := by
          rw [← e5]
          exact ⟨rfl, rfl, rfl, rfl⟩
        obtain ⟨x1, x2, x3, x4⟩ := hx1
        intro T hT X
        have hpl : e.platform.magicAccessors = ({} : Platform).magicAccessors := by rw [X.admits.platform]
        have hlk' : (Jvm.Cond.classLink M.1.cls x.catchType (jEx.getD i "")).before args s = true := by
          rw [x4]
          exact hts _ hlk
        obtain ⟨hend, hk0⟩ := X.catches_of_link hown (by rw [x4]; exact hct) hlk' hcl hfit
        have hpass : ∀ y ∈ pre, RowPassed e.platform s m.cls pc cell.cls y := by
          intro y hy
          have hy9 : (y.startPc, y.endPc, y.handlerPc, y.catchType) ∈ as.map (fun q => q.1) := by
            rw [← e2]
            exact List.mem_map.mpr ⟨y, hy, rfl⟩
          obtain ⟨y', hy', he⟩ := List.mem_map.mp hy9
          have hnp := hpre y' hy'
          have hmy : y' ∈ M.2.2.2.2.2.2.2 := by rw [hsplit]; exact List.mem_append_left _ hy'
          obtain ⟨j, hj, hq3, hct3, hlk3⟩ := jcH_in hH hmy
          by_cases hcov : covers y pc = true
          · have he1 : y'.1.1 = y.startPc ∧ y'.1.2.1 = y.endPc ∧ y'.1.2.2.2 = y.catchType := by rw [he]; exact ⟨rfl, rfl, rfl⟩
            have hij : i ≠ j := by
              intro hij
              subst hij
              rw [Bool.not_eq_true', decide_eq_false_iff_not, hq3] at hnp
              apply hnp
              simp only [covers, Bool.and_eq_true, decide_eq_true_eq] at hcov
              refine ⟨by rw [he1.1]; exact hcov.1, by rw [he1.2.1]; exact hcov.2, by simp⟩
            refine RowPassed.of_words hpl hown (by rw [← he1.2.2]; exact hct3) (name := jEx.getD j "") (tn := jEx.getD i "") (by rw [← he1.2.2]; exact hts _ hlk3) hcl ((hSP.2.2.2.2.2.2.2.2.2 i hi j hj hij).word)
          · exact Or.inl (by simpa using hcov)
        have hcx : covers x pc = true := by
          simp only [covers, Bool.and_eq_true, decide_eq_true_eq]
          exact ⟨by rw [x1]; exact c1, by rw [x2]; exact c2⟩
        obtain ⟨vm', X', stV⟩ := X.caughtThrough (jal b ad st sz a) (g := F0 m pc ls stk) rfl (cell := cell) (by rw [hT]; exact g1) (by rw [g3]; rfl) hk0 pre x rest e1 hpass hcx hend
        obtain ⟨t, s1, s2⟩ := k (T.setVm vm') hT X'
        refine ⟨t, ?_, s2⟩
        rw [X.pushThrowing_eq]
        refine stV t ?_
        rw [x3]
        exact s1
      · cases hh
  · cases hh
end JCat
