section QSound
variable {S : Nat × (Nat → Int32)} {h : jH}
theorem jstep_inv_none {G : jG} {K cn nL : Nat} {ini : Bool} {len pc : Nat} {lv : List (Nat × Value)} {st : List Value} {h : jH} (i : Instr) (h1 : jstk i st = none) (h2 : jloc i nL lv st = none) (h3 : jjmp i pc len st = none) (h4 : jhp G K cn ini i st h = none) : jstep G K cn nL ini i len pc lv st h = none := by
  unfold jstep
  simp only [h1, h2, h3, h4]
theorem qcall_inv {gM : jL} {cn : Nat} {i : Instr} {len z : Nat} {st as r : List Value} (hq : qcall gM cn i len st = some (z, as, r)) : len = 3 ∧
    ((∃ idx n ci b bs, i = .invokevirtual idx ∧ gM cn idx = some (0, z, n, ci) ∧ n ≤ st.length ∧ (st.take n).reverse = as ∧ st.drop n = r ∧ as = .ref b :: bs ∧ qcls b = some ci) ∨
     (∃ idx n q, i = .invokestatic idx ∧ gM cn idx = some (2, z, n, q) ∧ n ≤ st.length ∧ (st.take n).reverse = as ∧ st.drop n = r)) := by
  unfold qcall at hq
  split at hq
  · rename_i idx
    split at hq
    · rename_i z0 n ci hg
      cases hb : Nat.beq len 3 && Nat.ble n st.length with
      | false => rw [hb] at hq; cases hq
      | true =>
        rw [hb] at hq
        rw [Bool.and_eq_true] at hb
        simp only [cond_true] at hq
        split at hq
        · rename_i b bs hbs
          split at hq
          · rename_i cj hcj
            cases hb2 : Nat.beq cj ci with
            | false => rw [hb2] at hq; cases hq
            | true =>
              rw [hb2] at hq
              cases hq
              have := Nat.eq_of_beq_eq_true hb2
              subst this
              exact ⟨Nat.eq_of_beq_eq_true hb.1, Or.inl ⟨idx, n, cj, b, bs, rfl, hg, Nat.le_of_ble_eq_true hb.2, hbs, rfl, rfl, hcj⟩⟩
          · cases hq
        · cases hq
    · cases hq
  · rename_i idx
    split at hq
    · rename_i z0 n q hg
      cases hb : Nat.beq len 3 && Nat.ble n st.length with
      | false => rw [hb] at hq; cases hq
      | true =>
        rw [hb] at hq
        rw [Bool.and_eq_true] at hb
        cases hq
        exact ⟨Nat.eq_of_beq_eq_true hb.1, Or.inr ⟨idx, n, q, rfl, hg, Nat.le_of_ble_eq_true hb.2, rfl, rfl⟩⟩
    · cases hq
  · cases hq
theorem Rel.cls {g : qG} (hR : Rel S g h) {b ci : Nat} (hc : qcls b = some ci) : 24 ≤ b ∧ ∃ fs, h[b]? = some (.inr (ci, fs)) := by
  unfold qcls at hc
  split at hc
  · rename_i cj fl hd
    cases hc
    obtain ⟨it, ha⟩ := hR.get hd (Nat.le_of_ble_eq_true rfl)
    exact ⟨(qd_obj hd).1, _, ha⟩
  · rename_i w fl hd
    cases hc
    obtain ⟨it, ha⟩ := hR.get hd (Nat.le_of_ble_eq_true rfl)
    exact ⟨(qd_tab hd).1, _, ha⟩
  · cases hc
/-- a call of the second machine is one of the first -/
theorem qcall_ok {g : qG} {cn nL : Nat} {ini : Bool} {ret : Option FieldType} {i : Instr} {len pc z : Nat} {lv : List (Nat × Value)} {st as r : List Value} (hq : qcall jT0.2.1 cn i len st = some (z, as, r)) (hR : Rel S g h) :
    ∃ kd, kd ≠ 3 ∧ kd ≠ 5 ∧ jcall jT0.2.1 24 cn i len st h = some (kd, z, as, r) ∧ jstep jT0.1 24 cn nL ini i len pc lv st h = none ∧ jend ret i len st = none := by
  obtain ⟨rfl, hc⟩ := qcall_inv hq
  rcases hc with ⟨idx, n, ci, b, bs, rfl, hg, hn, e1, e2, e3, hcl⟩ | ⟨idx, n, q, rfl, hg, hn, e1, e2⟩
  · obtain ⟨hKb, fs, hb⟩ := hR.cls hcl
    refine ⟨0, by decide, by decide, ?_, rfl, rfl⟩
    unfold jcall
    simp only [hg]
    rw [if_pos ⟨trivial, hn⟩, e1, e3]
    simp only [hb]
    rw [if_pos ⟨trivial, hKb⟩, ← e2]
  · refine ⟨2, by decide, by decide, ?_, rfl, rfl⟩
    rw [jcall_s hg hn, e1, e2]
theorem qcat_ok {r : List Value} (h : qcat r = true) : (r.map fun v => v.category).sum ≤ 8 := Nat.le_of_ble_eq_true h
set_option maxHeartbeats 1000000 in
theorem qstep_ok {d : Nat} (hd : 9 ≤ d) {M : jM} {s s' : qS} (hq : qstep jT0 S M s = some s') (hR : Rel S s.2.2.2 h) :
    ∃ h', Rel S s'.2.2.2 h' ∧ ∀ r, jEv jT0 24 d M (s'.1, s'.2.1, s'.2.2.1, h') r → jEv jT0 24 d M (s.1, s.2.1, s.2.2.1, h) r := by
  obtain ⟨pc, lv, st, g⟩ := s
  unfold qstep at hq
  dsimp only at hq hR ⊢
  split at hq
  · cases hq
  · rename_i i len hf
    split at hq
    · rename_i st' k hs
      cases hb : Nat.beq k len with
      | false => rw [hb] at hq; cases hq
      | true =>
        rw [hb] at hq
        cases hq
        have e := Nat.eq_of_beq_eq_true hb
        refine ⟨h, hR, fun r kk => jEv.steps 1 ?_ kk⟩
        unfold jit
        simp only [hf]
        unfold jstep
        simp only [hs, if_pos e]
        rfl
    · rename_i hs
      split at hq
      · rename_i lv' st' k hl
        cases hb : Nat.beq k len with
        | false => rw [hb] at hq; cases hq
        | true =>
          rw [hb] at hq
          cases hq
          have e := Nat.eq_of_beq_eq_true hb
          refine ⟨h, hR, fun r kk => jEv.steps 1 ?_ kk⟩
          unfold jit
          simp only [hf]
          unfold jstep
          simp only [hs, hl, if_pos e]
          rfl
      · rename_i hl
        split at hq
        · rename_i pc' st' hj
          cases hq
          refine ⟨h, hR, fun r kk => jEv.steps 1 ?_ kk⟩
          unfold jit
          simp only [hf]
          unfold jstep
          simp only [hs, hl, hj]
          rfl
        · rename_i hj
          split at hq
          · rename_i st' g' k hp
            cases hb : Nat.beq k len with
            | false => rw [hb] at hq; cases hq
            | true =>
              rw [hb] at hq
              cases hq
              have e := Nat.eq_of_beq_eq_true hb
              subst e
              obtain ⟨h', r1, r2⟩ := qhp_ok (ini := M.2.2.2.2.2.1) hp hR
              exact ⟨h', r1, fun r kk => jEv.hp hf hs hl hj r2 kk⟩
          · rename_i hp
            split at hq
            · rename_i z as r hc
              cases hb : qisT z && qcat r with
              | false => rw [hb] at hq; cases hq
              | true =>
                rw [hb] at hq
                rw [Bool.and_eq_true] at hb
                simp only [cond_true] at hq
                split at hq
                · rename_i v g' ht
                  cases hq
                  obtain ⟨d', rfl⟩ : ∃ d', d = (d' + 3) + 1 := ⟨d - 4, by omega⟩
                  obtain ⟨Z, h', z1, z2, z3, z4⟩ := qtab_ok (d := d') ht hR
                  obtain ⟨kd, k1, k2, k3, k4, k5⟩ := qcall_ok (nL := M.2.2.1) (ini := M.2.2.2.2.2.1) (ret := M.2.2.2.1) (pc := pc) (lv := lv) hc hR
                  exact ⟨h', z3, fun r kk => jEv.callJ hf k4 k5 k3 (qcat_ok hb.2) k1 k2 z1 z2 z4 kk⟩
                · cases hq
            · cases hq
theorem jend_step {G : jG} {K cn nL : Nat} {ini : Bool} {i : Instr} {len pc : Nat} {lv : List (Nat × Value)} {st : List Value} {h : jH} {ret : Option FieldType} {v : Option Value} (he : jend ret i len st = some v) : jstep G K cn nL ini i len pc lv st h = none := by
  unfold jend at he
  split at he
  · rfl
  · rfl
  · rfl
  · rfl
  · cases he
theorem jx_new : jd_x.all (fun q => (jT0.1.2.1 0 (q.1 / 1000)).isNone) = true := by decide +kernel
theorem jthr_step {M : jM} {i : Instr} {len pc : Nat} {lv : List (Nat × Value)} {st : List Value} {ci : Nat} (ht : jthr jT0 24 M i len pc st = some ci) : jstep jT0.1 24 M.2.2.2.2.1 M.2.2.1 M.2.2.2.2.2.1 i len pc lv st h = none ∧ jend M.2.2.2.1 i len st = none ∧ jcall jT0.2.1 24 M.2.2.2.2.1 i len st h = none := by
  obtain ⟨idx, k, ic, a, rfl, rfl, f3, f4, f6, f9, hk, hcat, hx4⟩ := jthr_inv ht
  have hcn := jx_cn hx4
  refine ⟨jstep_inv_none _ rfl rfl rfl ?_, rfl, rfl⟩
  rw [hcn] at hx4
  have h0 : (bif Nat.blt ic 1000 then (jlk jd_x (idx * 1000 + ic)).map (fun q => q.1) else none) = some ci := hx4
  cases hj : Nat.blt ic 1000 with
  | false => rw [hj] at h0; cases h0
  | true =>
    rw [hj] at h0
    obtain ⟨q, hq, -⟩ := Option.map_eq_some_iff.mp h0
    have h1 := List.all_eq_true.mp jx_new _ (jlk_mem hq)
    dsimp only at h1
    rw [(jkey (c := idx) hj).1] at h1
    unfold jhp
    rw [hcn]
    have h2 := Option.isNone_iff_eq_none.mp h1
    simp only [h2]
/-- a handler that answers a number -/
theorem qhand_ok {M : jM} {pc ci a d : Nat} {c : Int32} {lv : List (Nat × Value)} (hq : qhand M pc ci = some c) {h' : jH} {fs : List Value} (ha : h'[a]? = some (.inr (ci, fs))) (hK : 24 ≤ a) :
    ∃ q, jhand M.2.2.2.2.2.2.2 pc h' a = some q ∧ jEv jT0 24 d M (q, lv, [.ref a], h') (.inl (some (.int c)), h') := by
  unfold qhand at hq
  split at hq
  · rename_i q hfi
    have hjh : jhand M.2.2.2.2.2.2.2 pc h' a = some q.1.2.2.1 := by
      unfold jhand
      simp only [ha]
      rw [if_neg (by omega)]
      have e : (fun q : (Nat × Nat × Nat × Nat) × List Nat => decide (q.1.1 ≤ pc ∧ pc < q.1.2.1 ∧ ci ∈ q.2)) = (fun q => Nat.ble q.1.1 pc && (Nat.blt pc q.1.2.1 && (q.2.any (fun c => Nat.beq c ci)))) := by
        funext q
        rw [Bool.eq_iff_iff]
        simp [Nat.ble_eq]
      rw [e, hfi]
    refine ⟨_, hjh, ?_⟩
    split at hq
    · rename_i k f1
      split at hq
      · rename_i c0 f2 f3 fr
        cases hb : Nat.blt k.val M.2.2.1 with
        | false => rw [hb] at hq; cases hq
        | true =>
          rw [hb] at hq
          cases hq
          have hk : k.val < M.2.2.1 := by simpa using hb
          refine jEv.steps 1 (s' := (q.1.2.2.1 + 1, jst1 k.val (.ref a) lv, [], h')) ?_ ?_
          · unfold jit
            simp only [f1]
            unfold jstep
            have e1 : jstk (.astore_n k) [.ref a] = none := rfl
            have e2 : jloc (.astore_n k) M.2.2.1 lv [.ref a] = some (jst1 k.val (.ref a) lv, [], 1) := by
              unfold jloc
              simp only [if_pos hk]
            simp only [e1, e2, if_true]
            rfl
          · refine jEv.steps 1 (s' := (q.1.2.2.1 + 2, jst1 k.val (.ref a) lv, [.int (Int32.ofInt c0)], h')) ?_ ?_
            · unfold jit
              simp only [f2]
              unfold jstep
              have e1 : jstk (.iconst c0) [] = some ([.int (Int32.ofInt c0)], 1) := rfl
              simp only [e1, if_true]
              rfl
            · refine jEv.ret (s := (q.1.2.2.1 + 2, jst1 k.val (.ref a) lv, [.int (Int32.ofInt c0)], h')) ?_
              unfold jat
              simp only [f3, fr]
              rfl
      · cases hq
    · rename_i k f1
      split at hq
      · rename_i c0 f2 f3 fr
        cases hb : Nat.blt k M.2.2.1 with
        | false => rw [hb] at hq; cases hq
        | true =>
          rw [hb] at hq
          cases hq
          have hk : k < M.2.2.1 := by simpa using hb
          refine jEv.steps 1 (s' := (q.1.2.2.1 + 2, jst1 k (.ref a) lv, [], h')) ?_ ?_
          · unfold jit
            simp only [f1]
            unfold jstep
            have e1 : jstk (.astore k) [.ref a] = none := rfl
            have e2 : jloc (.astore k) M.2.2.1 lv [.ref a] = some (jst1 k (.ref a) lv, [], 2) := by
              unfold jloc
              simp only [if_pos hk]
            simp only [e1, e2, if_true]
            rfl
          · refine jEv.steps 1 (s' := (q.1.2.2.1 + 3, jst1 k (.ref a) lv, [.int (Int32.ofInt c0)], h')) ?_ ?_
            · unfold jit
              simp only [f2]
              unfold jstep
              have e1 : jstk (.iconst c0) [] = some ([.int (Int32.ofInt c0)], 1) := rfl
              simp only [e1, if_true]
              rfl
            · refine jEv.ret (s := (q.1.2.2.1 + 3, jst1 k (.ref a) lv, [.int (Int32.ofInt c0)], h')) ?_
              unfold jat
              simp only [f3, fr]
              rfl
      · cases hq
    · cases hq
  · cases hq
def jnull : List Value := [.null, .null, .null, .null, .null, .null]
/-- how the first machine ends where the second does -/
def qend (S : Nat × (Nat → Int32)) (d : Nat) (M : jM) (s : jS) (r : qO) : Prop := ∃ h', Rel S r.2 h' ∧ (∀ v, r.1 = .inl v → jEv jT0 24 d M s (.inl v, h')) ∧ (∀ ci, r.1 = .inr ci → 106 < h'.length ∧ h'[h'.length - 1]? = some (.inr (ci, jnull)) ∧ jEv jT0 24 d M s (.inr (h'.length - 1), h'))
set_option maxHeartbeats 1000000 in
theorem qsound : ∀ (n d : Nat) (M : jM) (s : qS) (r : qO), qrun jT0 S n d M s = some r → ∀ h, Rel S s.2.2.2 h → qend S d M (s.1, s.2.1, s.2.2.1, h) r := by
  intro n
  induction n with
  | zero =>
    intro d M s r hr
    have hr : (none : Option qO) = some r := hr
    cases hr
  | succ n ih =>
    intro d M s r hr h hR
    have hr : qbody jT0 S (qrun jT0 S n) d M s = some r := hr
    unfold qbody at hr
    split at hr
    · cases hr
    · rename_i hd
      have hd : 9 ≤ d := by omega
      split at hr
      · rename_i s' hs
        obtain ⟨h1, r1, r2⟩ := qstep_ok hd hs hR
        obtain ⟨h2, q1, q2, q3⟩ := ih d M s' r hr h1 r1
        exact ⟨h2, q1, fun v hv => r2 _ (q2 v hv), fun ci hc => ⟨(q3 ci hc).1, (q3 ci hc).2.1, r2 _ (q3 ci hc).2.2⟩⟩
      · obtain ⟨pc, lv, st, g⟩ := s
        split at hr
        · rename_i v hat
          cases hr
          refine ⟨h, hR, fun v' hv => ?_, fun ci hc => by cases hc⟩
          cases hv
          refine jEv.ret (s := (pc, lv, st, h)) ?_
          unfold qat at hat
          unfold jat
          dsimp only at hat ⊢
          split at hat
          · cases hat
          · rename_i i len hf
            try simp only [hf]
            split at hat
            · rename_i w hw
              cases hat
              simp only [jend_step hw, hw]
            · split at hat
              · cases hb : qisT ‹_› <;> rw [hb] at hat
                · simp only [cond_false] at hat
                  cases hb2 : qcat ‹_› <;> rw [hb2] at hat <;> cases hat
                · cases hat
              · cases hat
        · rename_i z as r0 hat
          unfold qat at hat
          dsimp only at hat
          split at hat
          · cases hat
          · rename_i i len hf
            split at hat
            · cases hat
            · split at hat
              · rename_i z1 as1 r1 hc
                cases hb : qisT z1 with
                | true => rw [hb] at hat; cases hat
                | false =>
                  rw [hb] at hat
                  simp only [cond_false] at hat
                  cases hb2 : qcat r1 with
                  | false => rw [hb2] at hat; cases hat
                  | true =>
                    rw [hb2] at hat
                    cases hat
                    obtain ⟨kd, k1, k2, k3, k4, k5⟩ := qcall_ok (nL := M.2.2.1) (ini := M.2.2.2.2.2.1) (ret := M.2.2.2.1) (pc := pc) (lv := lv) hc hR
                    split at hr
                    · cases hr
                    · rename_i Z hz
                      split at hr
                      · cases hr
                      · rename_i hl
                        obtain ⟨d', rfl⟩ : ∃ d', d = d' + 1 := ⟨d - 1, by omega⟩
                        have hl := Nat.le_of_not_lt hl
                        split at hr
                        · rename_i v g' hrun
                          obtain ⟨h1, q1, q2, q3⟩ := ih _ Z _ _ hrun h hR
                          obtain ⟨h2, p1, p2, p3⟩ := ih _ M _ _ hr h1 q1
                          refine ⟨h2, p1, fun v' hv => ?_, fun ci hci => ⟨(p3 ci hci).1, (p3 ci hci).2.1, ?_⟩⟩
                          · exact jEv.callJ hf k4 k5 k3 (qcat_ok hb2) k1 k2 hz hl (q2 v rfl) (p2 v' hv)
                          · exact jEv.callJ hf k4 k5 k3 (qcat_ok hb2) k1 k2 hz hl (q2 v rfl) (p3 ci hci).2.2
                        · rename_i ci g' hrun
                          obtain ⟨h1, q1, q2, q3⟩ := ih _ Z _ _ hrun h hR
                          obtain ⟨q4, q5, q6⟩ := q3 ci rfl
                          split at hr
                          · rename_i hnil
                            cases hr
                            refine ⟨h1, q1, fun v' hv => (by cases hv), fun ci' hci => ?_⟩
                            cases hci
                            exact ⟨q4, q5, jEv.callT hf k4 k5 k3 (qcat_ok hb2) k1 k2 hz hl q6 hnil⟩
                          · rename_i b0 hs0 hcons
                            split at hr
                            · rename_i c hqh
                              cases hr
                              refine ⟨h1, q1, fun v' hv => ?_, fun ci' hci => by cases hci⟩
                              cases hv
                              obtain ⟨q, w1, w2⟩ := qhand_ok (d := d' + 1) (lv := lv) hqh q5 (by omega)
                              rw [hcons] at w1
                              exact jEv.callC hf k4 k5 k3 (qcat_ok hb2) k1 k2 hz hl q6 hcons w1 w2
                            · cases hr
                        · cases hr
              · cases hat
        · split at hr
          · rename_i ci hth
            cases hr
            refine ⟨_, hR.thrown ci, fun v hv => (by cases hv), fun ci' hci => ?_⟩
            cases hci
            unfold qthr at hth
            dsimp only at hth
            split at hth
            · cases hth
            · rename_i i len hf
              obtain ⟨w1, w2, w3⟩ := jthr_step (h := h) (lv := lv) hth
              have hlen : 106 ≤ h.length := by
                obtain ⟨it, len, cnt, made, -, -, -, -, r5, -⟩ := hR
                omega
              have hl1 : (h ++ [.inr (ci, [.null, .null, .null, .null, .null, .null])] : jH).length - 1 = h.length := by
                rw [List.length_append]
                simp
              refine ⟨by rw [List.length_append]; simp; omega, ?_, ?_⟩
              · rw [hl1, List.getElem?_append_right (Nat.le_refl _), Nat.sub_self]
                rfl
              · rw [hl1]
                exact jEv.thr hf w1 w2 w3 hth (by omega)
          · cases hr
end QSound
