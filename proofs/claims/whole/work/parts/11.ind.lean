section JInd
variable {l : Launch} {D : va_G} {cl : List vw_C} {tys : List (ClassId × FieldType)} {α : Nat → Nat} {dA : FieldType → ClassId} {K sz : Nat} {SP : State → Prop} {TB : List Jvm.Cond} {hd0 : jH} {T : jT}
theorem jcopy_inv {as : List Value} {h h' : jH} (hq : jcopy K as h = some h') : ∃ a0 sp a dp n n0 n1 f g, as = [.ref a0, .int sp, .ref a, .int dp, .int n] ∧ h[a0]? = some (.inl (.int, n0, .inl f)) ∧ h[a]? = some (.inl (.int, n1, .inl g)) ∧ ¬ sp < 0 ∧ ¬ dp < 0 ∧ ¬ n < 0 ∧ sp.toNatClampNeg + n.toNatClampNeg ≤ n0 ∧ dp.toNatClampNeg + n.toNatClampNeg ≤ n1 ∧ K ≤ a0 ∧ K ≤ a ∧
    h' = h.set a (.inl (.int, n1, .inl (va_cpy f g sp.toNatClampNeg dp.toNatClampNeg n.toNatClampNeg))) := by
  unfold jcopy at hq
  split at hq
  · rename_i a0 sp a dp n
    split at hq
    · rename_i n0 f n1 g h1 h2
      split at hq
      · cases hq
      · rename_i hc
        cases hq
        refine ⟨a0, sp, a, dp, n, n0, n1, f, g, rfl, h1, h2, fun z => hc (Or.inl (Or.inl z)), fun z => hc (Or.inl (Or.inr (Or.inl z))), fun z => hc (Or.inl (Or.inr (Or.inr z))), ?_, ?_, ?_, ?_, rfl⟩
        · exact Nat.le_of_not_lt (fun z => hc (Or.inr (Or.inl (Or.inl z))))
        · exact Nat.le_of_not_lt (fun z => hc (Or.inr (Or.inl (Or.inr z))))
        · exact Nat.le_of_not_lt (fun z => hc (Or.inr (Or.inr (Or.inl z))))
        · exact Nat.le_of_not_lt (fun z => hc (Or.inr (Or.inr (Or.inr z))))
    · cases hq
  · cases hq
/-- the callee stands before its entry, by whatever word -/
theorem jinvk (O : jOK D cl tys α dA K sz SP TB hd0 T) {p : Program} {e : Env} {R : Room} {s : State} {m : MethodId} {args : Array Value} {below : List Frame} {meth : Method} {c : Code} {H : Heap} {locs : List Loc} {cells slots : Nat} {M Z : jM} {n0 : Nat} (V : jEnvM D cl tys α K sz SP TB T p s m args meth c M n0)
    {i : Instr} {len pc : Nat} {st : List Value} {h : jH} {kd z : Nat} {as r : List Value} {ls : Array Slot} (hft : M.2.2.2.2.2.2.1 pc = some (i, len)) (hcl : jcall T.2.1 K M.2.2.2.2.1 i len st h = some (kd, z, as, r)) (h3 : kd ≠ 3) (h5 : kd ≠ 5) (hz : T.2.2.1 z = some Z) (hR : jRel D cl α dA K sz h s H locs)
    (U : State) (hU : U.heap = H) (X : Stand p l e R s m args below meth c U locs cells slots) : jInvk p l e R s m args below meth c U locs cells slots (F0 m pc ls (st.map (jx_V α))) (r.map (jx_V α)) Z.1 (as.map (jx_V α)).toArray := by
  obtain ⟨hα, ⟨hd0l, hinj⟩, hgood, harr, hSPm, hscr, hmt⟩ := O
  obtain ⟨⟨hx, hb, hml, hown, hts, hini, hK, hSP, hKn, hsz, hdec, hnL, hF, hN, hS, hC, hL⟩, hex⟩ := V
  obtain ⟨hpl, hyn, hin, hcd, hini2, hmk⟩ := hmt z Z hz
  have hd := hdec pc i len hft
  rw [← hb] at hd
  obtain ⟨rfl, hst, hc⟩ := jcall_inv hcl
  rcases hc with ⟨rfl, idx, n, ci, b, as', fs, rfl, hg, has, hn, hcell, hKb⟩ | ⟨rfl, idx, n, ci, b, as', rfl, hg, has, hn⟩ | ⟨rfl, idx, n, ci, rfl, hg, hn⟩ | ⟨rfl, -⟩ | ⟨rfl, idx, n, ci, b, as', rfl, hg, has, hn⟩ | ⟨rfl, -⟩
  · obtain ⟨k0, -⟩ := hL _ _ _ _ _ hg
    obtain ⟨Z', T', N', q1, q2, q3, q4, q5, q6⟩ := k0 rfl
    cases hz.symm.trans q1
    subst has
    obtain ⟨cell, g1, g2, g3⟩ := va_recv hK hR.2.1 q2 (jx_ws_get (α := α) (dA := dA) hcell hKb)
    refine jInvkV X hx hown (hts _ q3) (hts _ q4) (hts _ q5) hyn (fun mk methM h1 h2 => ?_) (by rw [hU]; exact g1) g2 g3 rfl (argsL := as'.map (jx_V α)) (fun sig hsig => ?_) ?_ hd
    · obtain ⟨meth9, c9, w1, -, -, -, -, -, -, w2⟩ := jCode_spec h1 (hts _ hcd)
      cases h2.symm.trans w1
      exact w2
    · rw [hsig] at q6
      have q7 : sig.parameters.length = n - 1 := Option.some.inj q6
      simp at hn ⊢
      omega
    · show st.map (jx_V α) = _
      rw [hst]
      simp [jx_V]
  · obtain ⟨-, k1, -⟩ := hL _ _ _ _ _ hg
    obtain ⟨Z', q1, q2, q3, qh, q4, q5, q6⟩ := k1 rfl
    cases hz.symm.trans q1
    subst has
    have hcd2 := hts _ hcd
    rw [qh, q3, List.map_nil, if_pos rfl] at hcd2
    · refine jInvkI X hx hown q2 (hts _ q4) (hts _ q5) hcd2 hyn rfl (argsL := as'.map (jx_V α)) (fun sig hsig => ?_) ?_ hd
      · rw [hsig] at q6
        have q7 : sig.parameters.length = n - 1 := Option.some.inj q6
        simp at hn ⊢
        omega
      · show st.map (jx_V α) = _
        rw [hst]
        simp [jx_V]
  · obtain ⟨-, -, k2, -⟩ := hL _ _ _ _ _ hg
    obtain ⟨Z', q1, q4, q5, q6⟩ := k2 rfl
    cases hz.symm.trans q1
    have hcd2 := hts _ hcd
    obtain ⟨mk, hmk9⟩ : ∃ mk, s.methodNamed? Z.1 = some mk := by
      split at hcd2
      · exact Cond.code_named hcd2
      · obtain ⟨mk, -, -, w, -⟩ := Cond.codeWith_spec hcd2
        exact ⟨mk, w⟩
    obtain ⟨meth9, c9, w1, -, -, -, -, -, -, w2⟩ := jCode_spec hmk9 (hts _ hcd)
    refine jInvkS X hx hown (hts _ q4) (hts _ q5) (hts _ hini2) hyn hmk9 w1 w2 rfl (argsL := as.map (jx_V α)) (fun sig hsig => ?_) ?_ hd
    · rw [hsig] at q6
      have q7 : sig.parameters.length = n := Option.some.inj q6
      simp at hn ⊢
      omega
    · show st.map (jx_V α) = _
      rw [hst]
      simp
  · exact absurd rfl h3
  · obtain ⟨-, -, -, -, k4, -⟩ := hL _ _ _ _ _ hg
    obtain ⟨Z', host, q1, q2, q3, qh, q4, q5, q6⟩ := k4 rfl
    cases hz.symm.trans q1
    subst has
    have hcd2 := hts _ hcd
    rw [qh, q3, List.map_nil, if_pos rfl] at hcd2
    · refine jInvkIN X hx hown q2 (va_Nw.use rfl (q4 s hSP)) (hts _ q5) hcd2 hyn rfl (argsL := as'.map (jx_V α)) (fun sig hsig => ?_) ?_ hd
      · rw [hsig] at q6
        have q7 : sig.parameters.length = n - 1 := Option.some.inj q6
        simp at hn ⊢
        omega
      · show st.map (jx_V α) = _
        rw [hst]
        simp [jx_V]
  · exact absurd rfl h5
end JInd
