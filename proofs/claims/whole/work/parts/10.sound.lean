section JSound
variable {l : Launch} {D : va_G} {cl : List vw_C} {tys : List (ClassId × FieldType)} {α : Nat → Nat} {dA : FieldType → ClassId} {K sz : Nat} {SP : State → Prop} {TB : List Jvm.Cond} {hd0 : jH} {T : jT}
theorem jtake (st : List Value) (n : Nat) : st = ((st.take n).reverse).reverse ++ st.drop n := by
  rw [List.reverse_reverse, List.take_append_drop]
theorem jcall_inv {gM : jL} {cn : Nat} {i : Instr} {len : Nat} {st : List Value} {h : jH} {kd z : Nat} {as r : List Value} (hq : jcall gM K cn i len st h = some (kd, z, as, r)) : len = 3 ∧ st = as.reverse ++ r ∧
    ((kd = 0 ∧ ∃ idx n ci b as' fs, i = .invokevirtual idx ∧ gM cn idx = some (0, z, n, ci) ∧ as = .ref b :: as' ∧ as.length = n ∧ h[b]? = some (.inr (ci, fs)) ∧ K ≤ b) ∨
     (kd = 1 ∧ ∃ idx n ci b as', i = .invokespecial idx ∧ gM cn idx = some (1, z, n, ci) ∧ as = .ref b :: as' ∧ as.length = n) ∨
     (kd = 2 ∧ ∃ idx n ci, i = .invokestatic idx ∧ gM cn idx = some (2, z, n, ci) ∧ as.length = n) ∨
     (kd = 3 ∧ ∃ idx n ci b, i = .invokespecial idx ∧ gM cn idx = some (3, n, ci) ∧ as = [.ref b]) ∨
     (kd = 4 ∧ ∃ idx n ci b as', i = .invokespecial idx ∧ gM cn idx = some (4, z, n, ci) ∧ as = .ref b :: as' ∧ as.length = n) ∨
     (kd = 5 ∧ ∃ idx q, i = .invokestatic idx ∧ gM cn idx = some (5, q))) := by
  unfold jcall at hq
  split at hq
  · split at hq
    · rename_i z0 n ci hg
      split at hq
      · rename_i hl
        split at hq
        · rename_i b as' hb
          split at hq
          · rename_i cj fs hcell
            split at hq
            · rename_i hc
              obtain ⟨rfl, hKb⟩ := hc
              cases hq
              refine ⟨hl.1, jtake _ _, Or.inl ⟨rfl, _, n, cj, b, as', fs, rfl, hg, hb, ?_, hcell, hKb⟩⟩
              rw [List.length_reverse, List.length_take]; omega
            · cases hq
          · cases hq
        · cases hq
      · cases hq
    · cases hq
  · split at hq
    · rename_i z0 n ci hg
      split at hq
      · rename_i hl
        split at hq
        · rename_i b as' hb
          cases hq
          refine ⟨hl.1, jtake _ _, Or.inr (Or.inl ⟨rfl, _, n, ci, b, as', rfl, hg, hb, ?_⟩)⟩
          rw [List.length_reverse, List.length_take]; omega
        · cases hq
      · cases hq
    · rename_i z0 n ci hg
      split at hq
      · rename_i hl
        split at hq
        · rename_i b as' hb
          cases hq
          refine ⟨hl.1, jtake _ _, Or.inr (Or.inr (Or.inr (Or.inr (Or.inl ⟨rfl, _, n, ci, b, as', rfl, hg, hb, ?_⟩))))⟩
          rw [List.length_reverse, List.length_take]; omega
        · cases hq
      · cases hq
    · rename_i z0 n ci hg
      split at hq
      · split at hq
        · rename_i hl
          cases hq
          exact ⟨hl, rfl, Or.inr (Or.inr (Or.inr (Or.inl ⟨rfl, _, _, _, _, rfl, hg, rfl⟩)))⟩
        · cases hq
      · cases hq
    · cases hq
  · split at hq
    · rename_i z0 n ci hg
      split at hq
      · rename_i hl
        cases hq
        refine ⟨hl.1, jtake _ _, Or.inr (Or.inr (Or.inl ⟨rfl, _, n, ci, rfl, hg, ?_⟩))⟩
        rw [List.length_reverse, List.length_take]; omega
      · cases hq
    · rename_i z0 n ci hg
      split at hq
      · rename_i hl
        cases hq
        exact ⟨hl.1, jtake _ _, Or.inr (Or.inr (Or.inr (Or.inr (Or.inr ⟨rfl, _, _, rfl, hg⟩))))⟩
      · cases hq
    · cases hq
  · cases hq
end JSound
