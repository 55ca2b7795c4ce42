section JThr4
variable {l : Launch} {D : va_G} {tys : List (ClassId × FieldType)} {dA : FieldType → ClassId} {b L : Nat} {xs : Nat → Int32} {ad st : Nat → Nat} {sz : Nat}
theorem jthr_inv {T : jT} {K : Nat} {M : jM} {i : Instr} {len pc : Nat} {st : List Value} {ci : Nat} (h : jthr T K M i len pc st = some ci) :
    ∃ idx k ic a, i = .new idx ∧ len = 3 ∧ M.2.2.2.2.2.2.1 (pc + 3) = some (.dup, 1) ∧ M.2.2.2.2.2.2.1 (pc + 4) = some (.ldc k, 2) ∧ M.2.2.2.2.2.2.1 (pc + 6) = some (.invokespecial ic, 3) ∧ M.2.2.2.2.2.2.1 (pc + 9) = some (.athrow, 1) ∧ T.1.2.2.2 M.2.2.2.2.1 k = some (.ref a) ∧ (st.map fun v => v.category).sum ≤ 8 ∧ T.2.2.2 M.2.2.2.2.1 idx ic = some ci := by
  unfold jthr at h
  split at h
  · rename_i idx
    split at h
    · rename_i k ic h1 h2 h3 h4 h5
      split at h
      · rename_i a h6
        split at h
        · rename_i h7
          exact ⟨idx, k, ic, a, rfl, h7.1, h1, h2, h3, h4, h6, h7.2, h⟩
        · cases h
      · cases h
    · cases h
  · cases h
set_option maxHeartbeats 2000000 in
theorem jthrow_ok (hfl : l.flags = pinnedFlags ++ [noTraceFlag]) (O : jOK D cl0 tys (jal b ad st sz) dA 24 sz (jSP b L xs ad st sz) TB0 (jhd L xs) jT0) : jThrowOK l D cl0 tys (jal b ad st sz) dA 24 sz (jSP b L xs ad st sz) TB0 jT0 := by
  intro p e R s m args below meth c Q M n0 i len pc ci stk ls H locs cells slots h V hls hft hth hR hz hfr hlo hce hsl kk
  obtain ⟨⟨hx, hb, hml, hown, hts, hini, hK, hSP, hKn, hsz, hdec, hnL, hF, hN, hS, hC, hL⟩, hex⟩ := V
  obtain ⟨idx, k, ic, a0, rfl, rfl, f3, f4, f6, f9, hk, hcat, hx4⟩ := jthr_inv hth
  have hcn := jx_cn hx4
  rw [hcn] at hx4
  obtain ⟨q, hq, e1, e2, e3⟩ := jx_look hx4
  have hqc := List.all_eq_true.mp jXr_ok q hq
  unfold jXc at hqc
  simp only [Bool.and_eq_true, decide_eq_true_eq] at hqc
  obtain ⟨⟨⟨⟨⟨⟨⟨⟨⟨g1, g2⟩, g3⟩, g4⟩, g5⟩, g6⟩, g7⟩, g8⟩, g9⟩, g10⟩ := hqc
  have hOwn : M.1.cls = "GoalDesk" := by
    have hF1 := hF 10 10 0 11 (by rw [hcn]; rfl)
    obtain ⟨C, T, N, ty, hc, -, -, -, -, -, -, hf2, -⟩ := hF1
    have hc9 : some ("GoalDesk", jU jfl_10, 12) = some (C, T, N) := hc
    cases hc9
    exact ((hf2 (by decide)).2).symm
  rw [hOwn] at hown
  obtain ⟨qC, hqC, hqe⟩ := Option.map_eq_some_iff.mp g6
  obtain ⟨C, T9, N9⟩ := qC
  have hqe : (C, N9) = (q.2.1, 0) := hqe
  cases hqe
  rw [e1] at hqC
  have hKc := hK.1 ci _ hqC
  have hmsg : ∃ tx, ∀ s9, jSP b L xs ad st sz s9 → vk_R "GoalDesk" k tx (jal b ad st sz a0) s9 := by
    rcases hC _ _ hk with ⟨x', w, -⟩ | ⟨x', w, -⟩ | ⟨a, tx, w, hw⟩
    · cases w
    · cases w
    · cases w
      rw [hOwn] at hw
      exact ⟨tx, hw⟩
  obtain ⟨tx, hmsg⟩ := hmsg
  have hcl : (Jvm.Cond.classLink "GoalDesk" idx q.2.1).before args s = true := by
    have := hts _ (jIn_ok g2)
    rw [e2] at this
    exact this
  have hα := O.1
  refine W.newcK hx hb hown hcl (hts _ (jIn_ok g4)) (hts _ (jIn_ok g3)) rfl (hdec _ _ _ hft) hce hsl hKc.2.1 hz fun H1 kC hkC c1 z1 o1 => ?_
  refine lv_dup hx hb (hdec _ _ _ f3) rfl ?_
  refine va_ldcS hx hb hown (hmsg s hSP) (hdec _ _ _ f4) ?_
  intro U hU X
  have hatoms := jXall hts hSP g1
  have hS9 := hR.2.2
  have hnew : s.heap.size ≤ jal b ad st sz h.length := by rw [← hz]; exact hS9.1
  have hcell : U.heap[jal b ad st sz h.length]? = some (freshCell (D.1 ci) kC) := by rw [hU]; exact c1
  have hd6 := hdec _ _ _ f6
  have hd9 := hdec _ _ _ f9
  rw [← hb] at hd6 hd9
  unfold jXa at hatoms
  rw [e3] at hatoms
  obtain ⟨T', Lc, ce, X', hLc, hT', hcc, hcv, hgo⟩ := jy_throw (sz := sz) X hx (Launch.traces_off hfl X.admits) g7 g8 g9 g10 hown g5 hatoms hS9.2.2 hSP.2.2.2.2.2.1 hKc.2.1 hkC hcell hnew
    (t := jal b ad st sz a0) (pc := pc) (ls := ls) (st := stk.map (jx_V (jal b ad st sz))) (by rw [hml]; exact hls) hd6 hd9 (by omega) (by rw [jsum_map]; omega)
  have hsz' : sz ≤ s.heap.size := by omega
  have ha0 : sz ≤ jal b ad st sz h.length := Nat.le_trans hsz' hnew
  have hl1 : jal b ad st sz h.length < H1.size := by rw [z1]; omega
  have hR1 : jRel D cl0 (jal b ad st sz) dA 24 sz (h ++ [.inr (ci, [.null, .null, .null, .null, .null, .null])]) s T'.heap (locs ++ Lc) := by
    have hR0 : jRel D cl0 (jal b ad st sz) dA 24 sz (h ++ [.inr (ci, [.null, .null, .null, .null, .null, .null])]) s T'.heap locs := by
      refine jRel_push hR hsz' hz ?_ (fun q9 hq9 => ?_) ?_
      · rw [hT', hU, Array.size_setIfInBounds, z1, hz]
      · rw [hT', hU, Array.getElem?_setIfInBounds, if_neg (by rw [hz] at hq9; omega)]
        exact o1 q9 (by rw [← hz]; exact hq9)
      · refine ⟨_, hqC, ce, ?_, hcc, hcv, fun k9 hk9 => absurd hk9 (Nat.not_lt_zero _)⟩
        rw [hT', hU, Array.getElem?_setIfInBounds, if_pos rfl, if_pos hl1]
    exact ⟨hR0.1, hR0.2.1, hR0.2.2.1, hR0.2.2.2.1, fun y hy => by
      rcases List.mem_append.mp hy with hy | hy
      · exact hR0.2.2.2.2 y hy
      · rw [hLc y hy]; exact ha0⟩
  obtain ⟨t, s1, s2⟩ := kk T'.heap (locs ++ Lc) (stk.map (jx_V (jal b ad st sz))) hR1 T' rfl X'
  exact ⟨t, hgo t s1, s2⟩
end JThr4
