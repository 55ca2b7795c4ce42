def jd_y : List Nat := [3161, 3169, 3179, 3199, 3205, 3221, 3223, 4098, 4133, 4161]
def jd_z : List Nat := [2152, 2188, 2210, 3094, 3106, 3124, 4177, 4188, 4204, 4218, 4230, 4239, 5028]
theorem jy_ok : ∀ i, i < 10 → jw (jd_y.getD i 0) = some (.laysStatic "GoalDesk$Outcome" (jnm.getD i "") "LGoalDesk$Outcome;") := by decide +kernel
theorem jz_ok : ∀ i, i < 13 → jw (jd_z.getD i 0) = some (.stringRef (jstr.getD i ("", 0, "")).1 (jstr.getD i ("", 0, "")).2.1 (jstr.getD i ("", 0, "")).2.2) := by decide +kernel
theorem jth_ok : jw 2137 = some (.laysStatic "java/lang/Throwable" "UNASSIGNED_STACK" "[Ljava/lang/StackTraceElement;") ∧ jw 2139 = some (.laysStatic "java/lang/Throwable" "SUPPRESSED_SENTINEL" "Ljava/util/List;") ∧ jw 1014 = some (.initialized "java/lang/Throwable") ∧ jw 1023 = some (.initialized "GoalDesk$Outcome") := by decide +kernel
set_option maxHeartbeats 2000000 in
theorem jentry {p : Program} {s : State} {m : MethodId} {meth : Method} {c : Code} {b L : Nat} {xs : Nat → Int32} (C0 : lw_At p s m meth c b L xs) :
    ∃ (D : va_G) (tys : List (ClassId × FieldType)) (dA : FieldType → ClassId) (ad st : Nat → Nat), jOK D cl0 tys (jal b ad st s.heap.size) dA 24 s.heap.size (jSP b L xs ad st s.heap.size) TB0 (jhd L xs) jT0 ∧ va_K D cl0 tys s ∧ jSP b L xs ad st s.heap.size s := by
  obtain ⟨hx, hb, hr, hml, hown, hts, hX, hbl, hlocks, hgv⟩ := C0
  have hfl : ∀ w ∈ jfl, w.before #[Value.ref b] s = true := flat_of_before _ hgv
  have hA : ∀ a : Nat, a < s.heap.size → ¬ (fun q : Nat => s.heap.size ≤ q) a := fun a h => Nat.not_le.mpr h
  obtain ⟨ad, hE, -⟩ := va_Enof2 (args := #[Value.ref b]) (s := s) (E := "GoalDesk$Outcome") (d := "LGoalDesk$Outcome;") (nm := jnm) (F := []) (A := fun q : Nat => s.heap.size ≤ q) (fun i hi => hts _ (jw_mem (jy_ok i hi))) (hts _ (jw_mem jth_ok.2.2.2)) (fun i hi => hfl _ (jfl_ex i hi)) (fun q hq => by cases hq)
    (fun i j hi hj hij => (jfl_ne i hi j hj hij).imp (hfl _) (hfl _)) hA
  have hst : ∀ i : Nat, ∃ a : Nat, i < jstr.length → vk_R (jstr.getD i ("", 0, "")).1 (jstr.getD i ("", 0, "")).2.1 (jstr.getD i ("", 0, "")).2.2 a s := fun i => by
    by_cases hi : i < jstr.length
    · obtain ⟨a, c9, cell, k, q1, -⟩ := Cond.exactly_spec (hfl _ (jfl_st i hi))
      exact ⟨a, fun _ => vk_R.of (A := #[Value.ref b]) (hts _ (jw_mem (jz_ok i hi))) q1⟩
    · exact ⟨0, fun h => absurd h hi⟩
  obtain ⟨st, hst⟩ : ∃ st : Nat → Nat, ∀ i, i < jstr.length → vk_R (jstr.getD i ("", 0, "")).1 (jstr.getD i ("", 0, "")).2.1 (jstr.getD i ("", 0, "")).2.2 (st i) s := ⟨fun i => Classical.choose (hst i), fun i => Classical.choose_spec (hst i)⟩
  have hSP : jSP b L xs ad st s.heap.size s := by
    refine ⟨hX, hE, hst, fun w hw hn => ?_, fun w hw hn => ?_, va_Zqof (hts _ (jw_mem jth_ok.1)) (hts _ (jw_mem jth_ok.2.2.1)) (hfl _ jfl_un.1) hA, va_Zqof (hts _ (jw_mem jth_ok.2.1)) (hts _ (jw_mem jth_ok.2.2.1)) (hfl _ jfl_un.2) hA, jLS.of (hts _ (jw_mem jth_ok.1)), jLS.of (hts _ (jw_mem jth_ok.2.1)), fun i hi j hj hij => jNC.of (hfl _ (jfl_nc i hi j hj hij))⟩
    · have h9 := hts w hw
      cases w <;> first | (cases hn; done) | exact va_Nw.of rfl h9
    · rw [Bool.and_eq_true] at hn
      exact va_Nw.of hn.1 (hts w hw)
  have htb := jtb hts
  obtain ⟨dC, dI, hKn⟩ := jchoice (s := s) cl0 (fun q hq => by
    obtain ⟨ci, hci⟩ := List.getElem?_of_mem hq
    have h1 := jcI_ok
    unfold jcI at h1
    have h2 := List.all_eq_true.mp h1 ci (List.mem_range.mpr (List.getElem?_eq_some_iff.mp hci).1)
    rw [hci] at h2
    exact u_known (ws := TB0) htb (jcls hci).1 (htb _ (jIn_ok h2)))
  obtain ⟨cI, kI, compI, i1, i2, i3⟩ := Cond.arrayClass_spec (htb _ (jIn_ok jcO_ok.2.2.2.2.2.1))
  obtain ⟨cC, kC, compC, c1, c2, c3⟩ := Cond.arrayClass_spec (htb _ (jIn_ok jcO_ok.2.2.2.2.2.2.1))
  obtain ⟨cL, kL, compL, l1, l2, l3⟩ := Cond.arrayClass_spec (htb _ (jIn_ok jcO_ok.2.2.2.2.2.2.2))
  refine ⟨(dC, dI), [(cI, .int), (cC, .char), (cL, .long)], fun ty => match ty with
    | .int => cI
    | .char => cC
    | .long => cL
    | _ => 0, ad, st, ⟨jal_hi b ad st _, ⟨rfl, fun x y hx1 hy1 he => ?_⟩, fun w hw => good_of_word (List.mem_filter.mp hw).2, fun at' N c9 hc => ?_, fun u U hW hq h => jSP_moved hbl hW hq h, fun a ty x h => ?_, fun z M h => jok_m h⟩, ⟨hKn, fun k q hk => ?_⟩, hSP⟩
  · obtain ⟨x1, x2⟩ := hx1
    obtain ⟨y1, y2⟩ := hy1
    unfold jal at he
    rw [if_neg (by omega), if_pos x2, if_neg (by omega), if_pos y2] at he
    have := hE.2 (x - 1) (y - 1) (by show x - 1 < 10; omega) (by show y - 1 < 10; omega) he
    omega
  · unfold jnewa at hc
    split at hc
    · exact ⟨⟨0, rfl⟩, jIn_ok jcO_ok.2.2.2.2.2.1⟩
    · exact ⟨⟨1, rfl⟩, jIn_ok jcO_ok.2.2.2.2.2.2.1⟩
    · exact ⟨⟨2, rfl⟩, jIn_ok jcO_ok.2.2.2.2.2.2.2⟩
    · cases hc
  · obtain ⟨rfl, rfl, rfl⟩ := jhd_arr h
    refine ⟨rfl, xs, rfl, hbl, fun s9 hs9 => hs9.1⟩
  · match k, hk with
    | 0, hk => cases hk; exact ⟨fun n z => ⟨fun k h => (by cases h), kI, i2, compI, i3⟩, i1⟩
    | 1, hk => cases hk; exact ⟨fun n z => ⟨fun k h => (by cases h), kC, c2, compC, c3⟩, c1⟩
    | 2, hk => cases hk; exact ⟨fun n z => ⟨fun k h => (by cases h), kL, l2, compL, l3⟩, l1⟩
    | k + 3, hk => simp at hk

