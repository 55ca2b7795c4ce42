/-! D22: SLEEP, CALL -/
theorem SlOK.sleep {nv ns v : Nat} {u : Us} (h : SlOK nv ns u) (hv : u.1 v = none) (hvn : v < nv) (hw : u.2.2.2.2.2 = []) : SlOK nv (ns + 1) (uJoin (u.1, u.2.1, u.2.2.1, gup u.2.2.2.1 ns (-1), u.2.2.2.2) v ns ns [ns]) := by
  have tv := h.tail hv
  obtain ⟨h1, h2, h3, h4, h5, h6, h7⟩ := h
  have hn0 : ¬ (ns : Int) < 0 := by omega
  have hout : ∀ w, ns ∉ u.2.2.2.2.1 w := fun w z => by have := (h2 w).2.1 ns z; omega
  have hg : ∀ (w : Nat), u.1 w = none → chn (gup u.2.2.2.1 ns (-1)) (u.2.1 w) (u.2.2.2.2.1 w) := fun w z => chn_gup (hout w) (h1 w z).1
  by_cases c2 : u.2.2.1 v < 0
  · have e0 : u.2.2.2.2.1 v = [] := by
      rcases tv with ⟨-, -, e⟩ | ⟨e, -⟩
      · exact e
      · omega
    have eJ : uJoin (u.1, u.2.1, u.2.2.1, gup u.2.2.2.1 ns (-1), u.2.2.2.2) v ns ns [ns] = (u.1, gup u.2.1 v ns, gup u.2.2.1 v ns, gup u.2.2.2.1 ns (-1), gup u.2.2.2.2.1 v [ns], u.2.2.2.2.2) := (if_neg hn0).trans (if_pos c2)
    rw [eJ]
    refine ⟨fun w hw' => ?_, fun w => ?_, fun w w' hww e he => ?_, fun w e he => ?_, h5, fun e he => ?_, fun e he => ?_⟩
    · dsimp only at hw' ⊢
      simp only [gup_at]
      by_cases e : w = v
      · rw [if_pos e, if_pos e, if_pos e]
        refine ⟨⟨rfl, ?_⟩, rfl⟩
        show (if ns = ns then (-1 : Int) else _) = -1
        rw [if_pos rfl]
      · rw [if_neg e, if_neg e, if_neg e]
        exact ⟨hg w hw', (h1 w hw').2⟩
    · dsimp only
      simp only [gup_at]
      by_cases e : w = v
      · rw [if_pos e]
        refine ⟨by simp, fun x hx => by simp at hx; omega, fun z => by omega, fun z => ?_⟩
        rw [e] at z
        exact absurd hv z
      · rw [if_neg e]
        exact ⟨(h2 w).1, fun x hx => by have := (h2 w).2.1 x hx; omega, (h2 w).2.2.1, (h2 w).2.2.2⟩
    · dsimp only at he ⊢
      simp only [gup_at] at he ⊢
      by_cases e1 : w = v
      · rw [if_pos e1] at he
        rw [if_neg (by omega)]
        simp at he
        rw [he]
        exact hout w'
      · rw [if_neg e1] at he
        by_cases e2 : w' = v
        · rw [if_pos e2]
          intro z
          simp at z
          rw [z] at he
          exact hout w he
        · rw [if_neg e2]
          exact h3 w w' hww e he
    · dsimp only
      rw [hw]
      simp
    · exact Nat.lt_succ_of_lt (h6 e he)
    · dsimp only
      rw [gup_at, if_neg (by omega)]
      exact h7 e (by omega)
  · obtain ⟨j1, j2, j3, j4, j5, j6, j7⟩ : 0 ≤ u.2.2.1 v ∧ u.2.2.1 v < ns ∧ 0 ≤ u.2.1 v ∧ u.2.1 v < ns ∧ u.2.2.2.1 (u.2.2.1 v).toNat = -1 ∧ u.2.2.2.2.1 v ≠ [] ∧ (u.2.2.1 v).toNat ∈ u.2.2.2.2.1 v := by
      rcases tv with ⟨e, -⟩ | e
      · omega
      · exact e
    have eJ : uJoin (u.1, u.2.1, u.2.2.1, gup u.2.2.2.1 ns (-1), u.2.2.2.2) v ns ns [ns] = (u.1, u.2.1, gup u.2.2.1 v ns, gup (gup u.2.2.2.1 ns (-1)) (u.2.2.1 v).toNat ns, gup u.2.2.2.2.1 v (u.2.2.2.2.1 v ++ [ns]), u.2.2.2.2.2) := (if_neg hn0).trans (if_neg c2)
    rw [eJ]
    refine ⟨fun w hw' => ?_, fun w => ?_, fun w w' hww e he => ?_, fun w e he => ?_, h5, fun e he => ?_, fun e he => ?_⟩
    · dsimp only at hw' ⊢
      by_cases e : w = v
      · subst e
        rw [gup_at, if_pos rfl, gup_at, if_pos rfl]
        refine ⟨chn_join j6 (h2 w).1 ?_ ?_ (hg w hw') ⟨rfl, ?_⟩, ?_⟩
        · rw [Int.toNat_of_nonneg j1]
          exact (h1 w hw').2.symm
        · simp
          omega
        · rw [gup_at, if_pos rfl]
          rfl
        · rw [lstI_app (by simp)]
          rfl
      · rw [gup_at, if_neg e, gup_at, if_neg e]
        exact ⟨chn_gup (fun z => h3 w v e _ z j7) (hg w hw'), (h1 w hw').2⟩
    · dsimp only
      simp only [gup_at]
      by_cases e : w = v
      · rw [if_pos e]
        refine ⟨?_, fun x hx => ?_, fun z => by omega, fun z => ?_⟩
        · rw [List.nodup_append]
          refine ⟨(h2 v).1, by simp, fun a ha b hb hab => ?_⟩
          simp at hb
          rw [hab, hb] at ha
          exact hout v ha
        · rcases List.mem_append.mp hx with z | z
          · have := (h2 v).2.1 x z
            omega
          · simp at z
            omega
        · rw [e] at z
          exact absurd hv z
      · rw [if_neg e]
        exact ⟨(h2 w).1, fun x hx => by have := (h2 w).2.1 x hx; omega, (h2 w).2.2.1, (h2 w).2.2.2⟩
    · dsimp only at he ⊢
      simp only [gup_at] at he ⊢
      by_cases e1 : w = v
      · rw [if_pos e1] at he
        rw [if_neg (by omega)]
        rcases List.mem_append.mp he with z | z
        · exact h3 v w' (by omega) e z
        · simp at z
          rw [z]
          exact hout w'
      · rw [if_neg e1] at he
        by_cases e2 : w' = v
        · rw [if_pos e2]
          intro z
          rcases List.mem_append.mp z with z | z
          · exact h3 w v e1 e he z
          · simp at z
            rw [z] at he
            exact hout w he
        · rw [if_neg e2]
          exact h3 w w' hww e he
    · dsimp only
      rw [hw]
      simp
    · exact Nat.lt_succ_of_lt (h6 e he)
    · dsimp only
      rw [gup_at, if_neg (by omega), gup_at, if_neg (by omega)]
      exact h7 e (by omega)
theorem uJoin_b {u : Us} {v : Nat} {a z : Int} {l : List Nat} : (uJoin u v a z l).1 = u.1 ∧ (uJoin u v a z l).2.2.2.2.2 = u.2.2.2.2.2 := by
  unfold uJoin
  split
  · exact ⟨rfl, rfl⟩
  · split <;> exact ⟨rfl, rfl⟩
theorem pot_sleep {nv ns v : Nat} {u : Us} (h : SlOK nv ns u) (hv : u.1 v = none) (hvn : v < nv) : pot nv (uJoin (u.1, u.2.1, u.2.2.1, gup u.2.2.2.1 ns (-1), u.2.2.2.2) v ns ns [ns]).2.2.2.2.1 = pot nv u.2.2.2.2.1 + 1 := by
  have tv := h.tail hv
  have hn0 : ¬ (ns : Int) < 0 := by omega
  by_cases c2 : u.2.2.1 v < 0
  · have e0 : u.2.2.2.2.1 v = [] := by
      rcases tv with ⟨-, -, e⟩ | ⟨e, -⟩
      · exact e
      · omega
    have eJ : uJoin (u.1, u.2.1, u.2.2.1, gup u.2.2.2.1 ns (-1), u.2.2.2.2) v ns ns [ns] = (u.1, gup u.2.1 v ns, gup u.2.2.1 v ns, gup u.2.2.2.1 ns (-1), gup u.2.2.2.2.1 v [ns], u.2.2.2.2.2) := (if_neg hn0).trans (if_pos c2)
    rw [eJ]
    have := pot_gup (sl := u.2.2.2.2.1) (l := [ns]) hvn
    rw [e0] at this
    simpa using this
  · have eJ : uJoin (u.1, u.2.1, u.2.2.1, gup u.2.2.2.1 ns (-1), u.2.2.2.2) v ns ns [ns] = (u.1, u.2.1, gup u.2.2.1 v ns, gup (gup u.2.2.2.1 ns (-1)) (u.2.2.1 v).toNat ns, gup u.2.2.2.2.1 v (u.2.2.2.2.1 v ++ [ns]), u.2.2.2.2.2) := (if_neg hn0).trans (if_neg c2)
    rw [eJ]
    have := pot_gup (sl := u.2.2.2.2.1) (l := u.2.2.2.2.1 v ++ [ns]) hvn
    rw [List.length_append, List.length_singleton] at this
    dsimp only
    omega
