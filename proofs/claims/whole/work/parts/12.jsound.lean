section JSnd
variable {l : Launch} {D : va_G} {cl : List vw_C} {tys : List (ClassId × FieldType)} {α : Nat → Nat} {dA : FieldType → ClassId} {K sz : Nat} {SP : State → Prop} {TB : List Jvm.Cond} {hd0 : jH} {T : jT}
set_option maxHeartbeats 4000000 in
/-- THE MAIN ROW: what the small machine does, the machine does -/
theorem jsound (O : jOK D cl tys α dA K sz SP TB hd0 T) (hThr : jThrowOK l D cl tys α dA K sz SP TB T) (hCat : jCatchOK l D cl tys α dA K sz SP TB T) :
    ∀ (n d : Nat) (M : jM) (pc : Nat) (lv : List (Nat × Value)) (st : List Value) (h : jH) (o : Option Value ⊕ Nat) (h' : jH), jKn cl α sz SP TB T M → (M.2.2.2.2.2.2.2 = [] ∨ ∃ z, T.2.2.1 z = some M) →
      jrun T K n d M (pc, lv, st, h) = some (o, h') → h.take K = hd0 → K ≤ h.length → jRow l D cl tys α dA K sz SP TB hd0 T d M pc lv st h o h' := by
  intro n
  induction n with
  | zero =>
    intro d M pc lv st h o h' _ _ hr
    have hr : (none : Option jO) = some (o, h') := hr
    cases hr
  | succ n ih =>
    intro d M pc lv st h o h' hkn hhs hr hh hKl
    have hr : jbody T K (jrun T K n) d M (pc, lv, st, h) = some (o, h') := hr
    unfold jbody at hr
    dsimp only at hr
    cases h1 : M.2.2.2.2.2.2.1 pc with
    | none => simp only [h1] at hr; cases hr
    | some q =>
      obtain ⟨i, len⟩ := q
      simp only [h1] at hr
      cases h2 : jstep T.1 K M.2.2.2.2.1 M.2.2.1 M.2.2.2.2.2.1 i len pc lv st h with
      | some s' =>
        simp only [h2] at hr
        obtain ⟨pc1, lv1, st1, h3⟩ := s'
        obtain ⟨g1, g2, g3⟩ := jstep_grow h2 hKl
        dsimp only at g1 g2 g3
        obtain ⟨r1, r2, r3, r4⟩ := ih d M pc1 lv1 st1 h3 o h' hkn hhs hr (g1.trans hh) (by omega)
        refine ⟨r1, by omega, by omega, fun p e R s m args below meth c Q n0 t0 V hn0 ht0 hf hlo hc hs hF hFT => ?_⟩
        obtain ⟨-, -, -, hst⟩ := jstep_ok (l := l) (e := e) (R := R) (below := below) (Q := Q) (t0 := t0) O V.1 h1 h2 hh hn0 ht0 hKl
        exact hst (by omega) (by omega) (r4 p e R s m args below meth c Q n0 t0 V (by omega) (by omega) hf hlo hc hs hF hFT)
      | none =>
        simp only [h2] at hr
        cases h3 : jend M.2.2.2.1 i len st with
        | some v =>
          simp only [h3] at hr
          cases hr
          refine ⟨hh, Nat.le_refl _, Nat.le_refl _, fun p e R s m args below meth c Q n0 t0 V hn0 ht0 hf hlo hc hs hF hFT ls H locs hl hR => ?_⟩
          exact hF v rfl i len pc st ls H locs h3 (hkn.1 pc i len h1) hR
        | none =>
          simp only [h3] at hr
          cases h4 : jcall T.2.1 K M.2.2.2.2.1 i len st h with
          | none =>
            simp only [h4] at hr
            cases h5 : jthr T K M i len pc st with
            | none => simp only [h5] at hr; cases hr
            | some ci =>
              simp only [h5] at hr
              split at hr
              · cases hr
              · rename_i hd8
                cases hr
                refine ⟨by rw [List.take_append_of_le_length hKl]; exact hh, by rw [List.length_append]; omega, by rw [jtot_push]; omega, fun p e R s m args below meth c Q n0 t0 V hn0 ht0 hf hlo hc hs hF hFT ls H locs hl hR => ?_⟩
                have hα := O.1
                obtain ⟨V1, V2⟩ := id V
                obtain ⟨hx, hb, hml, hown, hts, hini, hK, hSP, hKn, hsz, -⟩ := V1
                have hhs0 : M.2.2.2.2.2.2.2 = [] := by
                  unfold jthr at h5
                  split at h5
                  · split at h5
                    · rename_i hhs1
                      exact hhs1
                    · cases h5
                  · cases h5
                have hex : c.exceptionTable.toList = [] := by
                  rw [hhs0] at V2
                  exact List.map_eq_nil_iff.mp V2
                refine W.jsized (fun hub => ?_)
                have hz : H.size = α h.length := by
                  rw [hR.size hα (by omega) (by omega), ← hα]
                  congr 1
                  omega
                rw [List.length_append] at hc
                rw [jtot_push] at hs
                simp only [jsz, List.length_cons, List.length_nil] at hc hs
                refine hThr p e R s m args below meth c Q M n0 i len pc ci st ls H locs (h.length - n0) (jtot h - t0) h V hl.1 h1 h5 hR hz (by omega) (by omega) (by omega) (by omega) (fun H1 locs1 st1 hR1 => ?_)
                have k := hFT h.length rfl (pc + 9) st1 ls H1 locs1 hex hR1
                rw [List.length_append, jtot_push] at k
                simp only [jsz, List.length_cons, List.length_nil] at k
                rw [show h.length - n0 + 1 = h.length + (0 + 1) - n0 by omega, show jtot h - t0 + 6 = jtot h + (0 + 1 + 1 + 1 + 1 + 1 + 1) - t0 by omega]
                exact k
          | some q =>
            obtain ⟨kd, z, as, r⟩ := q
            simp only [h4] at hr
            cases d with
            | zero => cases hr
            | succ d' =>
              simp only at hr
              by_cases h8 : 8 < (r.map fun v => v.category).sum
              · simp only [h8, if_true] at hr; cases hr
              simp only [h8, if_false] at hr
              by_cases h6 : kd = 3
              · simp only [h6, if_true] at hr
                subst h6
                obtain ⟨rfl, hst, hc⟩ := jcall_inv h4
                obtain ⟨idx, n', ci', b, rfl, hg, rfl⟩ : ∃ idx n ci b, i = .invokespecial idx ∧ T.2.1 M.2.2.2.2.1 idx = some (3, n, ci) ∧ as = [.ref b] := by
                  rcases hc with ⟨q, -⟩ | ⟨q, -⟩ | ⟨q, -⟩ | ⟨-, q⟩ | ⟨q, -⟩ | ⟨q, -⟩
                  · exact absurd q (by decide)
                  · exact absurd q (by decide)
                  · exact absurd q (by decide)
                  · exact q
                  · exact absurd q (by decide)
                  · exact absurd q (by decide)
                obtain ⟨r1, r2, r3, r4⟩ := ih (d' + 1) M (pc + 3) lv r h o h' hkn hhs hr hh hKl
                refine ⟨r1, r2, r3, fun p e R s m args below meth c Q n0 t0 V hn0 ht0 hf hlo hc hs hF hFT ls H locs hl hR => ?_⟩
                obtain ⟨⟨hx, hb, hml, hown, hts, hini, hK, hSP, hKn, hsz, hdec, hnL, hF1, hN1, hS1, hC1, hL1⟩, V2⟩ := id V
                obtain ⟨w1, w2, w3⟩ := (hL1 _ _ _ _ _ hg).2.2.2.1 rfl
                have k := r4 p e R s m args below meth c Q n0 t0 V hn0 ht0 hf hlo hc hs hF hFT ls H locs hl hR
                rw [hst]
                refine W.objInit (g := F0 m pc ls (List.map (jx_V α) ([Value.ref b].reverse ++ r))) (a := α b) (rest := r.map (jx_V α)) hx hb hown (hts _ w1) (hts _ w2) (hts _ w3) rfl (hl.1.trans hml.symm) rfl (hkn.1 pc _ _ h1) (by omega) ?_ k
                rw [jsum_map]
                show 2 * 0 + _ + 12 ≤ _
                omega
              simp only [h6, if_false] at hr
              by_cases h66 : kd = 5
              · simp only [h66, if_true] at hr
                subst h66
                cases h67 : jcopy K as h with
                | none => simp only [h67] at hr; cases hr
                | some h3 =>
                  simp only [h67] at hr
                  obtain ⟨rfl, hst, hc⟩ := jcall_inv h4
                  obtain ⟨idx, q', rfl, hg⟩ : ∃ idx q, i = .invokestatic idx ∧ T.2.1 M.2.2.2.2.1 idx = some (5, q) := by
                    rcases hc with ⟨q, -⟩ | ⟨q, -⟩ | ⟨q, -⟩ | ⟨q, -⟩ | ⟨q, -⟩ | ⟨-, q⟩
                    · exact absurd q (by decide)
                    · exact absurd q (by decide)
                    · exact absurd q (by decide)
                    · exact absurd q (by decide)
                    · exact absurd q (by decide)
                    · exact q
                  obtain ⟨a0, sp, a, dp, n', m0, m1, f, g, rfl, e1, e2, e3, e4, e5, e6, e7, e8, e9, rfl⟩ := jcopy_inv h67
                  have gt : (h.set a (.inl (.int, m1, .inl (va_cpy f g sp.toNatClampNeg dp.toNatClampNeg n'.toNatClampNeg)))).take K = hd0 := by rw [List.take_set_of_le e9]; exact hh
                  have gs : jtot (h.set a (.inl (.int, m1, .inl (va_cpy f g sp.toNatClampNeg dp.toNatClampNeg n'.toNatClampNeg)))) = jtot h := jtot_set e2 rfl
                  obtain ⟨r1, r2, r3, r4⟩ := ih (d' + 1) M (pc + 3) lv r _ o h' hkn hhs hr gt (by rw [List.length_set]; exact hKl)
                  rw [List.length_set] at r2
                  rw [gs] at r3
                  refine ⟨r1, r2, r3, fun p e R s m args below meth c Q n0 t0 V hn0 ht0 hf hlo hc hs hF hFT ls H locs hl hR => ?_⟩
                  obtain ⟨⟨hx, hb, hml, hown, hts, hini, hK, hSP, hKn, hsz, hdec, hnL, hF1, hN1, hS1, hC1, hL1⟩, V2⟩ := id V
                  obtain ⟨w1, w2, w3, w4⟩ := (hL1 _ _ _ _ _ hg).2.2.2.2.2 rfl
                  obtain ⟨t1, ht1⟩ := (O.2.2.2.1 .int 0 _ rfl).1
                  rw [hst]
                  refine va_copyi (rest := r.map (jx_V α)) (q0 := a0 - K) (q1 := a - K) (t0 := t1) (t1 := t1) (ty := .int) hx hb (hml.trans hl.1.symm) hown (hts _ w1) (hts _ w2) (hts _ w3) (hts _ w4) hK hR.2.1 (jx_D O.1 h) hR.2.2 (jx_ws_get e1 e8) (jx_ws_get e2 e9) ht1 ht1 rfl e3 e4 e5 e6 e7 (fun _ _ => rfl) (by omega) ?_ (hkn.1 pc _ _ h1) (fun H1 locs1 q1 _ q3 => ?_)
                  · rw [jsum_map]
                    have : nativeFrameWords "java/lang/System" "arraycopy" 5 = 7 := by decide +kernel
                    omega
                  · have k := r4 p e R s m args below meth c Q n0 t0 V (by rw [List.length_set]; exact hn0) (by rw [gs]; exact ht0) hf hlo hc hs hF hFT ls H1 locs1 hl (jRel_set hR e9 rfl q1 q3)
                    rw [List.length_set, gs] at k
                    exact k
              simp only [h66, if_false] at hr
              cases h7 : T.2.2.1 z with
              | none => simp only [h7] at hr; cases hr
              | some Z =>
                simp only [h7] at hr
                by_cases h9 : Z.2.2.1 < (lg_sl as).length
                · simp only [h9, if_true] at hr; cases hr
                simp only [h9, if_false] at hr
                cases h10 : jrun T K n d' Z (0, lv_args 0 as, [], h) with
                | none => simp only [h10] at hr; cases hr
                | some q9 =>
                  simp only [h10] at hr
                  obtain ⟨o1, hv3⟩ := q9
                  have hmtZ := O.2.2.2.2.2.2 z Z h7
                  have row1 := ih d' Z 0 (lv_args 0 as) [] h o1 hv3 hmtZ.2.2.2.2.2 (Or.inr ⟨z, h7⟩) h10 hh hKl
                  have hM := jmet (l := l) O h7 row1 hKl h9
                  obtain ⟨u1, u2, u3, -⟩ := row1
                  have hwsG : ∀ w ∈ jWs TB Z, w ∈ TB := fun w hw => by
                    rcases List.mem_cons.mp hw with rfl | hw
                    · exact hmtZ.2.2.2.1
                    · exact hw
                  have key : ∀ (p : Program) (e : Env) (R : Room) (s : State) (m : MethodId) (args : Array Value) (below : List Frame) (meth : Method) (c : Code) (Q : State → Prop) (n0 t0 : Nat), jEnvM D cl tys α K sz SP TB T p s m args meth c M n0 → n0 ≤ h.length → t0 ≤ jtot h → d' + 1 ≤ R.frames → 64 * (d' + 1) ≤ R.locals → hv3.length - n0 ≤ R.cells → jtot hv3 - t0 ≤ R.slots →
                      ∀ (ls : Array Slot) (H : Heap) (locs : List Loc), lv_has ls M.2.2.1 (lv.map (jx_L α)) → jRel D cl α dA K sz h s H locs →
                      (∀ v, o1 = .inl v → ∀ (H1 : Heap) (locs1 : List Loc), jRel D cl α dA K sz hv3 s H1 locs1 → W p l e R s m args below meth c H1 locs1 (hv3.length - n0) (jtot hv3 - t0) Q (F0 m (pc + 3) ls ((v.toList ++ r).map (jx_V α)))) →
                      (∀ a, o1 = .inr a → ∀ (H1 : Heap) (locs1 : List Loc), jRel D cl α dA K sz hv3 s H1 locs1 → WT p l e R s m args below meth c H1 locs1 (hv3.length - n0) (jtot hv3 - t0) Q (F0 m pc ls (r.map (jx_V α))) (α a)) →
                      W p l e R s m args below meth c H locs (h.length - n0) (jtot h - t0) Q (F0 m pc ls (st.map (jx_V α))) := by
                    intro p e R s m args below meth c Q n0 t0 V hn0 ht0 hf hlo hc hs ls H locs hl hR kr kt
                    obtain ⟨⟨hx, hb, hml, hown, hts, hini, hK, hSP, hKn, hsz, -⟩, V2⟩ := id V
                    obtain ⟨rfl, hst, -⟩ := jcall_inv h4
                    have hd := hkn.1 pc _ _ h1
                    rw [← hb] at hd
                    refine W.jsized (fun hub => ?_)
                    have ec : h.length - n0 + (hv3.length - h.length) = hv3.length - n0 := by omega
                    have es : jtot h - t0 + (jtot hv3 - jtot h) = jtot hv3 - t0 := by omega
                    refine jcallW (hh := Z.2.2.2.2.2.2.2.map (fun q => q.1)) (bytes := Z.2.1) (maxL := Z.2.2.1) (ret := Z.2.2.2.1) (g := F0 m pc ls (st.map (jx_V α))) (rest := r.map (jx_V α)) (av := (as.map (jx_V α)).toArray) hM (jB_blind O.2.2.2.2.1 as h) rfl rfl (by show d' + 1 ≤ _; exact hf) ?_ (pay_in hts (fun w hw => ⟨hwsG w hw, O.2.2.1 w (hwsG w hw)⟩)) List.mem_cons_self
                      (fun a' U hW => word_at hW (O.2.2.1 _ hmtZ.2.2.2.2.1) (hts _ hmtZ.2.2.2.2.1)) rfl (hl.1.trans hml.symm) hd ?_ (by rw [ec]; exact hc) (by rw [es]; exact hs) (fun U hU hW => ?_) hR.2.2 (fun U hU X => jinvk O V h1 h4 h6 h66 h7 hR U hU X) (fun v hv H1 locs1 hR1 => ?_) (fun a ha H1 locs1 hR1 => ?_)
                    · show 8 + (Z.2.2.1 + 11) + 64 * d' ≤ _
                      have := hmtZ.2.2.2.2.2.2.1
                      omega
                    · rw [jsum_map]
                      show 2 * 0 + _ ≤ 8
                      omega
                    · refine ⟨rfl, hKl, by rw [hU]; exact hR.size O.1 (by omega) (by omega), by rw [hU]; exact hR.2.1, va_K.moved hW.alike hK, O.2.2.2.2.1 s U hW (fun q hq => ?_) hSP⟩
                      rw [hU]
                      exact hR.2.2.2.1 q (by omega) (by omega)
                    · rw [ec, es]
                      have k := kr v hv H1 locs1 hR1
                      cases v with
                      | none => exact k
                      | some w => exact k
                    · rw [ec, es]
                      exact kt a ha H1 locs1 hR1
                  cases o1 with
                  | inl v =>
                    simp only at hr
                    obtain ⟨r1, r2, r3, r4⟩ := ih (d' + 1) M (pc + 3) lv (v.toList ++ r) hv3 o h' hkn hhs hr u1 (by omega)
                    refine ⟨r1, by omega, by omega, fun p e R s m args below meth c Q n0 t0 V hn0 ht0 hf hlo hc hs hF hFT ls H locs hl hR => ?_⟩
                    refine key p e R s m args below meth c Q n0 t0 V hn0 ht0 hf hlo (by omega) (by omega) ls H locs hl hR (fun v' hv H1 locs1 hR1 => ?_) (fun a ha => by cases ha)
                    cases hv
                    exact r4 p e R s m args below meth c Q n0 t0 V (by omega) (by omega) hf hlo hc hs hF hFT ls H1 locs1 hl hR1
                  | inr a =>
                    simp only at hr
                    cases h11 : M.2.2.2.2.2.2.2 with
                    | nil =>
                      simp only [h11] at hr
                      cases hr
                      refine ⟨u1, u2, u3, fun p e R s m args below meth c Q n0 t0 V hn0 ht0 hf hlo hc hs hF hFT ls H locs hl hR => ?_⟩
                      refine key p e R s m args below meth c Q n0 t0 V hn0 ht0 hf hlo hc hs ls H locs hl hR (fun v hv => by cases hv) (fun a' ha H1 locs1 hR1 => ?_)
                      cases ha
                      refine hFT a rfl pc (r.map (jx_V α)) ls H1 locs1 ?_ hR1
                      have V2 := V.2
                      rw [h11] at V2
                      exact List.map_eq_nil_iff.mp V2
                    | cons b hs0 =>
                      simp only [h11] at hr
                      cases h12 : jhand (b :: hs0) pc hv3 a with
                      | none => simp only [h12] at hr; cases hr
                      | some q =>
                        simp only [h12] at hr
                        obtain ⟨r1, r2, r3, r4⟩ := ih (d' + 1) M q lv [.ref a] hv3 o h' hkn hhs hr u1 (by omega)
                        refine ⟨r1, by omega, by omega, fun p e R s m args below meth c Q n0 t0 V hn0 ht0 hf hlo hc hs hF hFT ls H locs hl hR => ?_⟩
                        refine key p e R s m args below meth c Q n0 t0 V hn0 ht0 hf hlo (by omega) (by omega) ls H locs hl hR (fun v hv => by cases hv) (fun a' ha H1 locs1 hR1 => ?_)
                        cases ha
                        refine hCat p e R s m args below meth c Q M n0 pc a q _ ls H1 locs1 _ _ hv3 (hhs.resolve_left (by rw [h11]; intro z; cases z)) V (by rw [h11]; exact h12) hR1 ?_
                        exact r4 p e R s m args below meth c Q n0 t0 V (by omega) (by omega) hf hlo hc hs hF hFT ls H1 locs1 hl hR1
end JSnd
