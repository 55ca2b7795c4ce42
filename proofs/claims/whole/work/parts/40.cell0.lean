/-! a run that meets no script runs on beside any -/
section JC0
variable {T : jT} {K : Nat} {c : jC}
/-- a heap whose first cell nobody can use -/
def jz0 (h : jH) : Prop := h[0]? = some (.inr (97, []))
theorem jz0_ne {h : jH} (hz : jz0 h) {a : Nat} (ha : a ≠ 0) : (h.set 0 c)[a]? = h[a]? := List.getElem?_set_ne (fun z => ha z.symm)
theorem jz0_set {h : jH} (hz : jz0 h) {a : Nat} (ha : a ≠ 0) (x : jC) : jz0 (h.set a x) ∧ (h.set 0 c).set a x = (h.set a x).set 0 c := by
  refine ⟨?_, ?_⟩
  · unfold jz0
    rw [List.getElem?_set_ne ha]
    exact hz
  · exact List.set_comm _ _ (fun z => ha z.symm)
theorem jz0_push {h : jH} (hz : jz0 h) (x : jC) : jz0 (h ++ [x]) ∧ (h.set 0 c) ++ [x] = (h ++ [x]).set 0 c := by
  have hl := (List.getElem?_eq_some_iff.mp hz).1
  refine ⟨?_, ?_⟩
  · unfold jz0
    rw [List.getElem?_append_left hl]
    exact hz
  · rw [List.set_append_left _ _ hl]
set_option maxHeartbeats 1000000 in
theorem jhp_c0 {G : jG} {cn : Nat} {ini : Bool} {i : Instr} {st st' : List Value} {h h' : jH} {k : Nat} (hz : jz0 h) (hq : jhp G K cn ini i st h = some (st', h', k)) : jz0 h' ∧ jhp G K cn ini i st (h.set 0 c) = some (st', h'.set 0 c, k) := by
  have hz' : h[0]? = some (.inr (97, [])) := hz
  unfold jhp at hq
  split at hq
  · split at hq
    · rename_i a r
      split at hq
      · rename_i ci k0 kd hG
        split at hq
        · rename_i cj fs ha
          split at hq
          · rename_i hc
            split at hq
            · rename_i v hv
              cases hq
              have h0 : a ≠ 0 := fun z => by
                subst z
                rw [hz'] at ha
                cases ha
                cases hv
              obtain ⟨rfl, hK⟩ := hc
              exact ⟨hz, jhp_get hG (by rw [jz0_ne hz h0]; exact ha) hK hv⟩
            · cases hq
          · cases hq
        · cases hq
      · cases hq
    · cases hq
  · split at hq
    · rename_i v a r
      split at hq
      · rename_i ci k0 kd hG
        split at hq
        · rename_i cj fs ha
          split at hq
          · rename_i hc
            cases hq
            obtain ⟨rfl, hK, hk, hf, hd⟩ := hc
            have h0 : a ≠ 0 := fun z => by
              subst z
              rw [hz'] at ha
              cases ha
              cases hk
            obtain ⟨s1, s2⟩ := jz0_set (c := c) hz h0 (.inr (cj, fs.set k0 v))
            refine ⟨s1, ?_⟩
            rw [← s2]
            exact jhp_put hG (by rw [jz0_ne hz h0]; exact ha) hK hk hf hd
          · cases hq
        · cases hq
      · cases hq
    · cases hq
  · split at hq
    · rename_i v hG
      cases hq
      refine ⟨hz, ?_⟩
      unfold jhp
      simp only [hG]
    · cases hq
  · split at hq
    · rename_i x hG
      cases hq
      refine ⟨hz, ?_⟩
      unfold jhp
      simp only [hG]
    · rename_i x hG
      cases hq
      refine ⟨hz, ?_⟩
      unfold jhp
      simp only [hG]
    · cases hq
  · split at hq
    · rename_i x hG
      cases hq
      refine ⟨hz, ?_⟩
      unfold jhp
      simp only [hG]
    · cases hq
  · split at hq
    · rename_i x hG
      cases hq
      refine ⟨hz, ?_⟩
      unfold jhp
      simp only [hG]
    · cases hq
  · split at hq
    · rename_i ci fs hG
      cases hq
      obtain ⟨s1, s2⟩ := jz0_push (c := c) hz (.inr (ci, fs))
      refine ⟨s1, ?_⟩
      rw [← s2]
      unfold jhp
      simp only [hG, List.length_set]
    · cases hq
  · split at hq
    · rename_i n r
      split at hq
      · cases hq
      · rename_i hn
        split at hq
        · rename_i c1 hc1
          cases hq
          obtain ⟨s1, s2⟩ := jz0_push (c := c) hz c1
          refine ⟨s1, ?_⟩
          rw [← s2]
          unfold jhp
          simp only [if_neg hn, hc1, List.length_set]
        · cases hq
    · cases hq
  · split at hq
    · rename_i a r
      split at hq
      · rename_i ty n x ha
        split at hq
        · rename_i ht
          cases hq
          have h0 : a ≠ 0 := fun z => by
            subst z
            rw [hz'] at ha
            cases ha
          exact ⟨hz, jhp_len (x := (n, x)) (by rw [jz0_ne hz h0]; exact ha) ht⟩
        · cases hq
      · cases hq
    · cases hq
  · split at hq
    · rename_i j a r
      split at hq
      · rename_i n f ha
        split at hq
        · cases hq
        · rename_i hj
          cases hq
          have h0 : a ≠ 0 := fun z => by
            subst z
            rw [hz'] at ha
            cases ha
          exact ⟨hz, jhp_iald (by rw [jz0_ne hz h0]; exact ha) hj⟩
      · cases hq
    · cases hq
  · split at hq
    · rename_i j a r
      split at hq
      · rename_i n f ha
        split at hq
        · cases hq
        · rename_i hj
          cases hq
          have h0 : a ≠ 0 := fun z => by
            subst z
            rw [hz'] at ha
            cases ha
          exact ⟨hz, jhp_cald (by rw [jz0_ne hz h0]; exact ha) hj⟩
      · cases hq
    · cases hq
  · split at hq
    · rename_i j a r
      split at hq
      · rename_i n f ha
        split at hq
        · cases hq
        · rename_i hj
          cases hq
          have h0 : a ≠ 0 := fun z => by
            subst z
            rw [hz'] at ha
            cases ha
          exact ⟨hz, jhp_lald (by rw [jz0_ne hz h0]; exact ha) hj⟩
      · cases hq
    · cases hq
  · split at hq
    · rename_i x j a r
      split at hq
      · rename_i n f ha
        split at hq
        · cases hq
        · rename_i hj
          cases hq
          have h0 : a ≠ 0 := fun z => by
            subst z
            rw [hz'] at ha
            cases ha
          obtain ⟨s1, s2⟩ := jz0_set (c := c) hz h0 (.inl (.int, n, .inl (upd f j.toNatClampNeg x)))
          refine ⟨s1, ?_⟩
          rw [← s2]
          exact jhp_iast (by rw [jz0_ne hz h0]; exact ha) (fun z => hj (Or.inl z)) (Nat.le_of_not_lt (fun z => hj (Or.inr z)))
      · cases hq
    · cases hq
  · split at hq
    · rename_i x j a r
      split at hq
      · rename_i n f ha
        split at hq
        · cases hq
        · rename_i hj
          cases hq
          have h0 : a ≠ 0 := fun z => by
            subst z
            rw [hz'] at ha
            cases ha
          obtain ⟨s1, s2⟩ := jz0_set (c := c) hz h0 (.inl (.char, n, .inl (upd f j.toNatClampNeg (vp_nar .char x))))
          refine ⟨s1, ?_⟩
          rw [← s2]
          exact jhp_cast (by rw [jz0_ne hz h0]; exact ha) (fun z => hj (Or.inl z)) (Nat.le_of_not_lt (fun z => hj (Or.inr z)))
      · cases hq
    · cases hq
  · split at hq
    · rename_i x j a r
      split at hq
      · rename_i n f ha
        split at hq
        · cases hq
        · rename_i hj
          cases hq
          have h0 : a ≠ 0 := fun z => by
            subst z
            rw [hz'] at ha
            cases ha
          obtain ⟨s1, s2⟩ := jz0_set (c := c) hz h0 (.inl (.long, n, .inr (.inl (vp_updL f j.toNatClampNeg x))))
          refine ⟨s1, ?_⟩
          rw [← s2]
          exact jhp_last (by rw [jz0_ne hz h0]; exact ha) (fun z => hj (Or.inl z)) (Nat.le_of_not_lt (fun z => hj (Or.inr z)))
      · cases hq
    · cases hq
  · cases hq
end JC0
