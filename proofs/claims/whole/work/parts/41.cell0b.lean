section JC0b
variable {T : jT} {K : Nat} {c : jC}
theorem jstep_c0 {G : jG} {cn nL : Nat} {ini : Bool} {i : Instr} {len pc : Nat} {lv : List (Nat × Value)} {st : List Value} {h : jH} {s' : jS} (hz : jz0 h) (hs : jstep G K cn nL ini i len pc lv st h = some s') : jz0 s'.2.2.2 ∧ jstep G K cn nL ini i len pc lv st (h.set 0 c) = some (s'.1, s'.2.1, s'.2.2.1, s'.2.2.2.set 0 c) := by
  unfold jstep at hs ⊢
  cases h1 : jstk i st with
  | some q =>
    obtain ⟨st', k⟩ := q
    simp only [h1] at hs ⊢
    split at hs
    · rename_i e
      cases hs
      exact ⟨hz, by rw [if_pos e]⟩
    · cases hs
  | none =>
    simp only [h1] at hs ⊢
    cases h2 : jloc i nL lv st with
    | some q =>
      obtain ⟨lv', st', k⟩ := q
      simp only [h2] at hs ⊢
      split at hs
      · rename_i e
        cases hs
        exact ⟨hz, by rw [if_pos e]⟩
      · cases hs
    | none =>
      simp only [h2] at hs ⊢
      cases h3 : jjmp i pc len st with
      | some q =>
        obtain ⟨pc', st'⟩ := q
        simp only [h3] at hs ⊢
        cases hs
        exact ⟨hz, rfl⟩
      | none =>
        simp only [h3] at hs ⊢
        cases h4 : jhp G K cn ini i st h with
        | none => simp only [h4] at hs; cases hs
        | some q =>
          obtain ⟨st', h', k⟩ := q
          simp only [h4] at hs
          obtain ⟨z1, z2⟩ := jhp_c0 (c := c) hz h4
          simp only [z2]
          split at hs
          · rename_i e
            cases hs
            exact ⟨z1, by rw [if_pos e]⟩
          · cases hs
theorem jstep_inv' {G : jG} {cn nL : Nat} {ini : Bool} {i : Instr} {len pc : Nat} {lv : List (Nat × Value)} {st : List Value} {h h2 : jH} (hi : ∀ st, jhp G K cn ini i st h = none → jhp G K cn ini i st h2 = none) (hi2 : ∀ st st' h' k, jhp G K cn ini i st h = some (st', h', k) → ∃ h'', jhp G K cn ini i st h2 = some (st', h'', k)) (hs : jstep G K cn nL ini i len pc lv st h = none) : jstep G K cn nL ini i len pc lv st h2 = none := by
  unfold jstep at hs ⊢
  cases h1 : jstk i st with
  | some q =>
    obtain ⟨st', k⟩ := q
    simp only [h1] at hs ⊢
    split at hs
    · cases hs
    · rename_i e
      rw [if_neg e]
  | none =>
    simp only [h1] at hs ⊢
    cases h2' : jloc i nL lv st with
    | some q =>
      obtain ⟨lv', st', k⟩ := q
      simp only [h2'] at hs ⊢
      split at hs
      · cases hs
      · rename_i e
        rw [if_neg e]
    | none =>
      simp only [h2'] at hs ⊢
      cases h3 : jjmp i pc len st with
      | some q => simp only [h3] at hs; cases hs
      | none =>
        simp only [h3] at hs ⊢
        cases h4 : jhp G K cn ini i st h with
        | none => simp only [hi st h4]
        | some q =>
          obtain ⟨st', h', k⟩ := q
          obtain ⟨h'', e2⟩ := hi2 st st' h' k h4
          simp only [h4] at hs
          simp only [e2]
          split at hs
          · cases hs
          · rename_i e
            rw [if_neg e]
theorem jcall_i {gM : jL} {cn : Nat} {i : Instr} {len : Nat} {st : List Value} {h : jH} {q : Nat × Nat × List Value × List Value} (hq : jcall gM K cn i len st h = some q) : (∃ idx, i = .invokevirtual idx) ∨ (∃ idx, i = .invokespecial idx) ∨ ∃ idx, i = .invokestatic idx := by
  unfold jcall at hq
  split at hq
  · exact Or.inl ⟨_, rfl⟩
  · exact Or.inr (Or.inl ⟨_, rfl⟩)
  · exact Or.inr (Or.inr ⟨_, rfl⟩)
  · cases hq
theorem jcall_c0 {gM : jL} {cn : Nat} {i : Instr} {len : Nat} {st : List Value} {h : jH} {q : Nat × Nat × List Value × List Value} (hK : 1 ≤ K) (hz : jz0 h) (hq : jcall gM K cn i len st h = some q) : jcall gM K cn i len st (h.set 0 c) = some q := by
  rcases jcall_i hq with ⟨idx, rfl⟩ | ⟨idx, rfl⟩ | ⟨idx, rfl⟩
  · unfold jcall at hq ⊢
    dsimp only at hq ⊢
    split at hq
    · rename_i z n ci hg
      split at hq
      · rename_i hl
        rw [if_pos hl]
        split at hq
        · rename_i b bs hb
          split at hq
          · rename_i cj fs hc
            split at hq
            · rename_i h2
              rw [jz0_ne hz (by omega), hc]
              simp only
              rw [if_pos h2]
              exact hq
            · cases hq
          · cases hq
        · cases hq
      · cases hq
    · cases hq
  · exact hq
  · exact hq
theorem jcopy_c0 {as : List Value} {h h' : jH} (hK : 1 ≤ K) (hz : jz0 h) (hq : jcopy K as h = some h') : jz0 h' ∧ jcopy K as (h.set 0 c) = some (h'.set 0 c) := by
  obtain ⟨a0, sp, a, dp, n, n0, n1, f, g, rfl, h1, h2, q1, q2, q3, q4, q5, q6, q7, rfl⟩ := jcopy_inv hq
  have ha0 : a ≠ 0 := Nat.pos_iff_ne_zero.mp (Nat.lt_of_lt_of_le hK q7)
  have ha1 : a0 ≠ 0 := Nat.pos_iff_ne_zero.mp (Nat.lt_of_lt_of_le hK q6)
  obtain ⟨s1, s2⟩ := jz0_set (c := c) hz ha0 (.inl (.int, n1, .inl (va_cpy f g sp.toNatClampNeg dp.toNatClampNeg n.toNatClampNeg)))
  refine ⟨s1, ?_⟩
  rw [← s2]
  unfold jcopy
  dsimp only
  rw [jz0_ne hz ha1, jz0_ne hz ha0, h1, h2]
  dsimp only
  rw [if_neg]
  rintro ((z | z | z) | (z | z) | z | z)
  · exact q1 z
  · exact q2 z
  · exact q3 z
  · omega
  · omega
  · exact absurd z (Nat.not_lt.mpr q6)
  · exact absurd z (Nat.not_lt.mpr q7)
theorem jhand_c0 {hs : List ((Nat × Nat × Nat × Nat) × List Nat)} {pc a q : Nat} {h : jH} (hz : jz0 h) (hq : jhand hs pc h a = some q) : jhand hs pc (h.set 0 c) a = some q := by
  by_cases ha : a = 0
  · subst ha
    have hz' : h[0]? = some (.inr (97, [])) := hz
    unfold jhand at hq
    simp only [hz'] at hq
    rw [if_pos (by decide)] at hq
    cases hq
  · unfold jhand at hq ⊢
    rw [jz0_ne hz ha]
    exact hq
set_option maxHeartbeats 1000000 in
theorem jrun_c0 (hK : 1 ≤ K) : ∀ (n d : Nat) (M : jM) (pc : Nat) (lv : List (Nat × Value)) (st : List Value) (h : jH) (o : Option Value ⊕ Nat) (h' : jH), jz0 h → jrun T K n d M (pc, lv, st, h) = some (o, h') → jz0 h' ∧ jrun T K n d M (pc, lv, st, h.set 0 c) = some (o, h'.set 0 c) := by
  intro n
  induction n with
  | zero =>
    intro d M pc lv st h o h' _ hr
    have hr : (none : Option jO) = some (o, h') := hr
    cases hr
  | succ n ih =>
    intro d M pc lv st h o h' hz hr
    have hr : jbody T K (jrun T K n) d M (pc, lv, st, h) = some (o, h') := hr
    show jz0 h' ∧ jbody T K (jrun T K n) d M (pc, lv, st, h.set 0 c) = some (o, h'.set 0 c)
    unfold jbody at hr ⊢
    dsimp only at hr ⊢
    cases h1 : M.2.2.2.2.2.2.1 pc with
    | none => simp only [h1] at hr; cases hr
    | some q =>
      obtain ⟨i, len⟩ := q
      simp only [h1] at hr ⊢
      cases h2 : jstep T.1 K M.2.2.2.2.1 M.2.2.1 M.2.2.2.2.2.1 i len pc lv st h with
      | some s' =>
        simp only [h2] at hr
        obtain ⟨z1, z2⟩ := jstep_c0 (c := c) hz h2
        simp only [z2]
        obtain ⟨pc1, lv1, st1, h3⟩ := s'
        exact ih d M pc1 lv1 st1 h3 o h' z1 hr
      | none =>
        simp only [h2] at hr
        cases h3 : jend M.2.2.2.1 i len st with
        | some v =>
          simp only [h3] at hr
          cases hr
          simp only [jend_step h3]
          exact ⟨hz, trivial⟩
        | none =>
          simp only [h3] at hr
          cases h4 : jcall T.2.1 K M.2.2.2.2.1 i len st h with
          | none =>
            simp only [h4] at hr
            cases h5 : jthr T K M i len pc st with
            | none => simp only [h5] at hr; cases hr
            | some ci =>
              simp only [h5] at hr
              obtain ⟨idx, k, ic, a, rfl, rfl, -⟩ := jthr_inv h5
              have e1 : jstep T.1 K M.2.2.2.2.1 M.2.2.1 M.2.2.2.2.2.1 (.new idx) 3 pc lv st (h.set 0 c) = none := by
                refine jstep_inv' (h := h) (fun st h9 => ?_) (fun st st' h' k h9 => ?_) h2
                · unfold jhp at h9 ⊢
                  dsimp only at h9 ⊢
                  split at h9
                  · cases h9
                  · rename_i hG
                    simp only [hG]
                · obtain ⟨z1, z2⟩ := jhp_c0 (c := c) hz h9
                  exact ⟨_, z2⟩
              have e2 : jcall T.2.1 K M.2.2.2.2.1 (.new idx) 3 st (h.set 0 c) = none := rfl
              simp only [e1, e2]
              split at hr
              · cases hr
              · rename_i h8
                cases hr
                obtain ⟨s1, s2⟩ := jz0_push (c := c) hz (.inr (ci, [.null, .null, .null, .null, .null, .null]))
                refine ⟨s1, ?_⟩
                simp only [h3, h5, if_neg h8, List.length_set, s2]
          | some q =>
            obtain ⟨kd, z, as, r⟩ := q
            simp only [h4] at hr
            have e1 : jstep T.1 K M.2.2.2.2.1 M.2.2.1 M.2.2.2.2.2.1 i len pc lv st (h.set 0 c) = none := by
              rcases jcall_i h4 with ⟨idx, rfl⟩ | ⟨idx, rfl⟩ | ⟨idx, rfl⟩ <;> rfl
            simp only [e1, jcall_c0 (c := c) hK hz h4]
            cases d with
            | zero => cases hr
            | succ d' =>
              simp only at hr ⊢
              by_cases h8 : 8 < (r.map fun v => v.category).sum
              · simp only [h8, if_true] at hr; cases hr
              simp only [h8, if_false] at hr ⊢
              by_cases h6 : kd = 3
              · simp only [h6, if_true] at hr ⊢
                exact ih _ _ _ _ _ _ _ _ hz hr
              · simp only [h6, if_false] at hr ⊢
                by_cases h66 : kd = 5
                · simp only [h66, if_true] at hr ⊢
                  cases h67 : jcopy K as h with
                  | none => simp only [h67] at hr; cases hr
                  | some h9 =>
                    simp only [h67] at hr
                    obtain ⟨z1, z2⟩ := jcopy_c0 (c := c) hK hz h67
                    simp only [z2]
                    exact ih _ _ _ _ _ _ _ _ z1 hr
                simp only [h66, if_false] at hr ⊢
                cases h7 : T.2.2.1 z with
                | none => simp only [h7] at hr; cases hr
                | some Z =>
                  simp only [h7] at hr ⊢
                  by_cases h9 : Z.2.2.1 < (lg_sl as).length
                  · simp only [h9, if_true] at hr; cases hr
                  · simp only [h9, if_false] at hr ⊢
                    cases h10 : jrun T K n d' Z (0, lv_args 0 as, [], h) with
                    | none => simp only [h10] at hr; cases hr
                    | some q9 =>
                      obtain ⟨o1, h11⟩ := q9
                      obtain ⟨z1, z2⟩ := ih _ _ _ _ _ _ _ _ hz h10
                      simp only [h10] at hr
                      simp only [z2]
                      cases o1 with
                      | inl v => exact ih _ _ _ _ _ _ _ _ z1 hr
                      | inr a =>
                        simp only at hr ⊢
                        cases h12 : M.2.2.2.2.2.2.2 with
                        | nil =>
                          simp only [h12] at hr ⊢
                          cases hr
                          exact ⟨z1, rfl⟩
                        | cons b hs =>
                          simp only [h12] at hr ⊢
                          cases h13 : jhand (b :: hs) pc h11 a with
                          | none => simp only [h13] at hr; cases hr
                          | some q =>
                            simp only [h13] at hr
                            simp only [jhand_c0 (c := c) z1 h13]
                            exact ih _ _ _ _ _ _ _ _ z1 hr
end JC0b
