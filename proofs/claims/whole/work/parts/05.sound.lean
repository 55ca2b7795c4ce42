/-! what the small machine does, the machine does -/
def jLok (SP : State → Prop) (TB : List Jvm.Cond) (cl : List vw_C) (mt : Nat → Option jM) (own : String) (idx kd z n ci : Nat) : Prop :=
  (kd = 0 → ∃ (Z : jM) (T : u_T) (N : Nat), mt z = some Z ∧ cl[ci]? = some (Z.1.cls, T, N) ∧ Jvm.Cond.methodLink own idx Z.1 ∈ TB ∧ Jvm.Cond.instanceMethod Z.1 ∈ TB ∧ Jvm.Cond.selects Z.1.cls Z.1 Z.1 ∈ TB ∧ (parseMethodDescriptor Z.1.desc).map (fun d => d.parameters.length) = some (n - 1)) ∧
  (kd = 1 → ∃ Z : jM, mt z = some Z ∧ Z.1.name = "<init>" ∧ Z.2.2.2.1 = none ∧ Z.2.2.2.2.2.2.2 = [] ∧ Jvm.Cond.methodLink own idx Z.1 ∈ TB ∧ Jvm.Cond.instanceMethod Z.1 ∈ TB ∧ (parseMethodDescriptor Z.1.desc).map (fun d => d.parameters.length) = some (n - 1)) ∧
  (kd = 2 → ∃ Z : jM, mt z = some Z ∧ Jvm.Cond.methodLink own idx Z.1 ∈ TB ∧ Jvm.Cond.static Z.1 ∈ TB ∧ (parseMethodDescriptor Z.1.desc).map (fun d => d.parameters.length) = some n) ∧
  (kd = 3 → Jvm.Cond.methodLink own idx Lib.objectInit ∈ TB ∧ Jvm.Cond.instanceMethod Lib.objectInit ∈ TB ∧ Jvm.Cond.code Lib.objectInit ⟨#[0xb1]⟩ 1 none ∈ TB) ∧
  (kd = 4 → ∃ (Z : jM) (host : String), mt z = some Z ∧ Z.1.name = "<init>" ∧ Z.2.2.2.1 = none ∧ Z.2.2.2.2.2.2.2 = [] ∧ (∀ s, SP s → va_Nw (.methodLinkNest own idx Z.1 host) s) ∧ Jvm.Cond.instanceMethod Z.1 ∈ TB ∧ (parseMethodDescriptor Z.1.desc).map (fun d => d.parameters.length) = some (n - 1)) ∧
  (kd = 5 → Jvm.Cond.methodLink own idx arraycopyName ∈ TB ∧ Jvm.Cond.native arraycopyName ∈ TB ∧ Jvm.Cond.static arraycopyName ∈ TB ∧ Jvm.Cond.initialized "java/lang/System" ∈ TB)
/-- what is known of a method's tables -/
def jMok (TB : List Jvm.Cond) (cl : List vw_C) (α : Nat → Nat) (sz : Nat) (SP : State → Prop) (T : jT) (own : String) (cn : Nat) (bytes : ByteArray) (nL : Nat) (ft : Nat → Option (Instr × Nat)) : Prop :=
  (∀ pc i len, ft pc = some (i, len) → decode bytes pc = .ok (i, len)) ∧ nL ≤ 45 ∧
  (∀ idx ci k kd, T.1.1 cn idx = some (ci, k, kd) → jFok SP TB cl own idx ci k kd) ∧
  (∀ idx ci fs, T.1.2.1 cn idx = some (ci, fs) → jNok TB cl own idx ci fs) ∧
  (∀ idx v, T.1.2.2.1 cn idx = some v → ∀ s, SP s → ∃ C n d, va_Z C n d (jx_V α v) (fun q => sz ≤ q) s s.heap ∧ Jvm.Cond.fieldLink own idx C n d ∈ TB) ∧
  (∀ idx v, T.1.2.2.2 cn idx = some v → (∃ x, v = .int x ∧ Jvm.Cond.constant own idx x ∈ TB) ∨ (∃ x, v = .long x ∧ Jvm.Cond.constantLong own idx x ∈ TB) ∨ ∃ a tx, v = .ref a ∧ ∀ s, SP s → vk_R own idx tx (α a) s) ∧
  (∀ idx kd z n ci, T.2.1 cn idx = some (kd, z, n, ci) → jLok SP TB cl T.2.2.1 own idx kd z n ci)
/-- the frame of things: addresses, words, what is kept -/
def jOK (D : va_G) (cl : List vw_C) (tys : List (ClassId × FieldType)) (α : Nat → Nat) (dA : FieldType → ClassId) (K sz : Nat) (SP : State → Prop) (TB : List Jvm.Cond) (hd0 : jH) (T : jT) : Prop :=
  (∀ j, α (K + j) = sz + j) ∧ (hd0.length = K ∧ ∀ x y, jcmp x → jcmp y → α x = α y → x = y) ∧
  (∀ w ∈ TB, (w.onTables && w.keeps) = true ∨ ∃ ty, w = .arrayClass ty) ∧
  (∀ at' N c, jnewa at' N = some c → jTy tys dA (newarray.typeOf at') ∧ Jvm.Cond.arrayClass (newarray.typeOf at') ∈ TB) ∧
  (∀ (u U : State), u.WarmedH U.vm → (∀ q : Nat, q < sz → U.heap[q]? = u.heap[q]?) → SP u → SP U) ∧
  (∀ a ty x, hd0[a]? = some (.inl (ty, x)) → ty = .int ∧ ∃ xs, x.2 = .inl xs ∧ α a < sz ∧ ∀ s, SP s → va_X (α a) x.1 xs s s.heap) ∧
  (∀ z M, T.2.2.1 z = some M → plainFor M.1 = true ∧ (M.1.cls ≠ "java/lang/invoke/MethodHandle" ∧ M.1.cls ≠ "java/lang/invoke/VarHandle") ∧ (M.2.2.2.2.2.1 = true → M.1.name = "<init>") ∧
    (if M.2.2.2.2.2.2.2.map (fun q => q.1) = [] then Jvm.Cond.code M.1 M.2.1 M.2.2.1 M.2.2.2.1 else Jvm.Cond.codeWith M.1 M.2.1 M.2.2.1 M.2.2.2.1 (M.2.2.2.2.2.2.2.map (fun q => q.1))) ∈ TB ∧ Jvm.Cond.initialized M.1.cls ∈ TB ∧ jMok TB cl α sz SP T M.1.cls M.2.2.2.2.1 M.2.1 M.2.2.1 M.2.2.2.2.2.2.1)
theorem jld_take {K a : Nat} {h hd0 : jH} (hh : h.take K = hd0) (ha : a < K) : h[a]? = hd0[a]? := by
  rw [← hh, List.getElem?_take, if_pos ha]
theorem jtot_push (h : jH) (c : jC) : jtot (h ++ [c]) = jtot h + jsz c := by simp [jtot]
theorem jtot_set {h : jH} {a : Nat} {c c' : jC} (ha : h[a]? = some c) (hs : jsz c' = jsz c) : jtot (h.set a c') = jtot h := by
  unfold jtot
  rw [List.map_set, hs]
  congr 1
  apply List.ext_getElem?
  intro i
  rw [List.getElem?_set]
  by_cases hi : a = i
  · subst hi
    rw [if_pos rfl, List.length_map, List.getElem?_map, ha, if_pos ((List.getElem?_eq_some_iff.mp ha).1)]
    rfl
  · rw [if_neg hi]
theorem jhp_grow {G : jG} {K cn : Nat} {ini : Bool} {i : Instr} {st st' : List Value} {h h' : jH} {k : Nat} (hq : jhp G K cn ini i st h = some (st', h', k)) (hKl : K ≤ h.length) : h'.take K = h.take K ∧ h.length ≤ h'.length ∧ (jtot h ≤ jtot h') := by
  unfold jhp at hq
  repeat' split at hq
  all_goals first
    | (cases hq; done)
    | (cases hq; exact ⟨rfl, Nat.le_refl _, Nat.le_refl _⟩)
    | (cases hq; exact ⟨by rw [List.take_append_of_le_length hKl], by rw [List.length_append]; exact Nat.le_add_right _ _, by rw [jtot_push]; exact Nat.le_add_right _ _⟩)
    | (cases hq; exact ⟨by rw [List.take_set_of_le (by first | omega | exact Nat.le_of_not_lt (fun z => absurd (Or.inr z) (by assumption)))], by rw [List.length_set]; exact Nat.le_refl _, by rw [jtot_set (by assumption) (by first | rfl | simp [jsz])]; exact Nat.le_refl _⟩)
theorem jstep_grow {G : jG} {K cn nL : Nat} {ini : Bool} {i : Instr} {len pc : Nat} {lv : List (Nat × Value)} {st : List Value} {h : jH} {s' : jS} (hs : jstep G K cn nL ini i len pc lv st h = some s') (hKl : K ≤ h.length) : s'.2.2.2.take K = h.take K ∧ h.length ≤ s'.2.2.2.length ∧ jtot h ≤ jtot s'.2.2.2 := by
  unfold jstep at hs
  split at hs
  · split at hs
    · cases hs; exact ⟨rfl, Nat.le_refl _, Nat.le_refl _⟩
    · cases hs
  · split at hs
    · split at hs
      · cases hs; exact ⟨rfl, Nat.le_refl _, Nat.le_refl _⟩
      · cases hs
    · split at hs
      · cases hs; exact ⟨rfl, Nat.le_refl _, Nat.le_refl _⟩
      · split at hs
        · rename_i hq
          split at hs
          · cases hs; exact jhp_grow hq hKl
          · cases hs
        · cases hs
section JS
variable {p : Program} {l : Launch} {e : Env} {R : Room} {s : State} {m : MethodId} {args : Array Value} {below : List Frame} {meth : Method} {c : Code} {Q : State → Prop}
variable {D : va_G} {cl : List vw_C} {tys : List (ClassId × FieldType)} {α : Nat → Nat} {dA : FieldType → ClassId} {K sz : Nat} {SP : State → Prop} {TB : List Jvm.Cond} {hd0 : jH} {T : jT}
/-- a method's own surroundings -/
def jEnv (D : va_G) (cl : List vw_C) (tys : List (ClassId × FieldType)) (α : Nat → Nat) (K sz : Nat) (SP : State → Prop) (TB : List Jvm.Cond) (T : jT) (p : Program) (s : State) (m : MethodId) (args : Array Value) (meth : Method) (c : Code)
    (own : String) (cn : Nat) (bytes : ByteArray) (nL : Nat) (ini : Bool) (ft : Nat → Option (Instr × Nat)) (n0 : Nat) : Prop :=
  p.tables.exec = Jvm.exec ∧ c.code = bytes ∧ c.maxLocals = nL ∧ s.vm.findClass own = some m.cls ∧ (∀ w ∈ TB, w.before args s = true) ∧ (ini = true → meth.name = "<init>") ∧ va_K D cl tys s ∧ SP s ∧ K ≤ n0 ∧ s.heap.size = sz + (n0 - K) ∧
    jMok TB cl α sz SP T own cn bytes nL ft
set_option maxHeartbeats 4000000 in
theorem jhp_ok (O : jOK D cl tys α dA K sz SP TB hd0 T) {own : String} {cn : Nat} {bytes : ByteArray} {nL : Nat} {ini : Bool} {ft : Nat → Option (Instr × Nat)} {n0 t0 : Nat}
    (V : jEnv D cl tys α K sz SP TB T p s m args meth c own cn bytes nL ini ft n0) {i : Instr} {len pc : Nat} {lv : List (Nat × Value)} {st st' : List Value} {h h' : jH} (hd : decode bytes pc = .ok (i, len))
    (hq : jhp T.1 K cn ini i st h = some (st', h', len)) (hh : h.take K = hd0) (hn0 : n0 ≤ h.length) (ht0 : t0 ≤ jtot h) (hKl : K ≤ h.length) :
    h'.take K = hd0 ∧ h.length ≤ h'.length ∧ jtot h ≤ jtot h' ∧
    ((h'.length - n0 ≤ R.cells) → (jtot h' - t0 ≤ R.slots) →
      (∀ (ls : Array Slot) (H : Heap) (locs : List Loc), lv_has ls nL (lv.map (jx_L α)) → jRel D cl α dA K sz h' s H locs → W p l e R s m args below meth c H locs (h'.length - n0) (jtot h' - t0) Q (F0 m (pc + len) ls (st'.map (jx_V α)))) →
      ∀ (ls : Array Slot) (H : Heap) (locs : List Loc), lv_has ls nL (lv.map (jx_L α)) → jRel D cl α dA K sz h s H locs → W p l e R s m args below meth c H locs (h.length - n0) (jtot h - t0) Q (F0 m pc ls (st.map (jx_V α)))) := by
  obtain ⟨hα, ⟨hd0l, hinj⟩, hgood, harr, hSPm, hscr, hmt⟩ := O
  obtain ⟨hx, hb, hml, hown, hts, hini, hK, hSP, hKn, hsz, hdec, hnL, hF, hN, hS, hC, hL⟩ := V
  have hsz' : sz ≤ s.heap.size := by omega
  unfold jhp at hq
  split at hq
  · split at hq
    · split at hq
      · rename_i ci k kd hg
        split at hq
        · rename_i cj fs ha
          split at hq
          · rename_i hc
            split at hq
            · rename_i v hv
              cases hq
              obtain ⟨rfl, hKa⟩ := hc
              exact ⟨hh, Nat.le_refl _, Nat.le_refl _, fun _ _ k ls H locs hl hR => jget_ok hx hb hts hown hK hR hSP (hF _ _ _ _ hg) ha hKa hv hd (k ls H locs hl hR)⟩
            · cases hq
          · cases hq
        · cases hq
      · cases hq
    · cases hq
  · split at hq
    · split at hq
      · rename_i ci k kd hg
        split at hq
        · rename_i cj fs ha
          split at hq
          · rename_i hc
            cases hq
            obtain ⟨rfl, hKa, hkl, hft, hin2⟩ := hc
            refine ⟨by rw [List.take_set_of_le hKa]; exact hh, by rw [List.length_set]; exact Nat.le_refl _, by rw [jtot_set ha (by simp [jsz])]; exact Nat.le_refl _, fun _ _ k ls H locs hl hR => ?_⟩
            refine jput_ok hx hb hts hown hK hα hR hSP (hF _ _ _ _ hg) ha hKa hkl hft (hin2.imp id hini) hd (fun H1 locs1 hR1 => ?_)
            have k1 := k ls H1 locs1 hl hR1
            rw [List.length_set, jtot_set ha (by simp [jsz])] at k1
            exact k1
          · cases hq
        · cases hq
      · cases hq
    · cases hq
  · split at hq
    · rename_i v hg
      cases hq
      refine ⟨hh, Nat.le_refl _, Nat.le_refl _, fun _ _ k ls H locs hl hR => ?_⟩
      obtain ⟨C, n, d, hZ, hlk⟩ := hS _ _ hg s hSP
      exact jgets_ok hx hb hts hown hR hZ hlk hd (k ls H locs hl hR)
    · cases hq
  · split at hq
    · rename_i x hg
      cases hq
      refine ⟨hh, Nat.le_refl _, Nat.le_refl _, fun _ _ k ls H locs hl hR => ?_⟩
      rcases hC _ _ hg with ⟨x', e1, hw⟩ | ⟨x', e1, hw⟩ | ⟨a, tx, e1, hw⟩
      · cases e1; exact lv_ldc hx hb hown (hts _ hw) hd (k ls H locs hl hR)
      · cases e1
      · cases e1
    · rename_i x hg
      cases hq
      refine ⟨hh, Nat.le_refl _, Nat.le_refl _, fun _ _ k ls H locs hl hR => ?_⟩
      rcases hC _ _ hg with ⟨x', e1, hw⟩ | ⟨x', e1, hw⟩ | ⟨a, tx, e1, hw⟩
      · cases e1
      · cases e1
      · cases e1; exact va_ldcS hx hb hown (hw s hSP) hd (k ls H locs hl hR)
    · cases hq
  · split at hq
    · rename_i x hg
      cases hq
      refine ⟨hh, Nat.le_refl _, Nat.le_refl _, fun _ _ k ls H locs hl hR => ?_⟩
      rcases hC _ _ hg with ⟨x', e1, hw⟩ | ⟨x', e1, hw⟩ | ⟨a, tx, e1, hw⟩
      · cases e1; exact lv_ldcw hx hb hown (hts _ hw) hd (k ls H locs hl hR)
      · cases e1
      · cases e1
    · cases hq
  · split at hq
    · rename_i x hg
      cases hq
      refine ⟨hh, Nat.le_refl _, Nat.le_refl _, fun _ _ k ls H locs hl hR => ?_⟩
      rcases hC _ _ hg with ⟨x', e1, hw⟩ | ⟨x', e1, hw⟩ | ⟨a, tx, e1, hw⟩
      · cases e1
      · cases e1; exact lv_ldc2 hx hb hown (hts _ hw) hd (k ls H locs hl hR)
      · cases e1
    · cases hq
  · split at hq
    · rename_i ci fs hg
      cases hq
      refine ⟨by rw [List.take_append_of_le_length hKl]; exact hh, by rw [List.length_append]; omega, by rw [jtot_push]; omega, fun hc1 hc2 k ls H locs hl hR => ?_⟩
      refine W.jsized (fun hub => ?_)
      have hz : H.size = α h.length := by
        rw [hR.size hα hsz' (by omega), ← hα]
        congr 1
        omega
      rw [List.length_append] at hc1
      rw [jtot_push] at hc2
      refine jnew_ok hx hb hts hown hK hsz' hR hz (hN _ _ _ hg) (by simp at hc1; omega) (by simp only [jsz] at hc2; omega) hd (fun H1 hR1 => ?_)
      have k1 := k ls H1 locs hl hR1
      rw [List.length_append, jtot_push] at k1
      refine W.cs ?_ ?_ k1
      · simp; omega
      · simp only [jsz]; omega
    · cases hq
  · split at hq
    · split at hq
      · cases hq
      · rename_i n r hn
        split at hq
        · rename_i c1 hc1
          cases hq
          refine ⟨by rw [List.take_append_of_le_length hKl]; exact hh, by rw [List.length_append]; omega, by rw [jtot_push]; omega, fun hr1 hr2 k ls H locs hl hR => ?_⟩
          refine W.jsized (fun hub => ?_)
          have hz : H.size = α h.length := by
            rw [hR.size hα hsz' (by omega), ← hα]
            congr 1
            omega
          have hsz1 : jsz c1 = n.toNatClampNeg := by
            unfold jnewa at hc1
            split at hc1 <;> first | (cases hc1; rfl) | cases hc1
          rw [List.length_append] at hr1
          rw [jtot_push, hsz1] at hr2
          refine jnewa_ok hx hb hts hK hsz' hR hz (harr _ _ _ hc1).1 (harr _ _ _ hc1).2 hc1 (fun z => hn (Or.inl z)) (fun z => hn (Or.inr z)) (by simp at hr1; omega) (by omega) hd (fun H1 hR1 => ?_)
          have k1 := k ls H1 locs hl hR1
          rw [List.length_append, jtot_push, hsz1] at k1
          refine W.cs ?_ ?_ k1
          · simp; omega
          · omega
        · cases hq
    · cases hq
  · split at hq
    · rename_i a r
      split at hq
      · rename_i ty n x ha
        split at hq
        · rename_i hty
          cases hq
          obtain ⟨at', c0, e0, e2⟩ := jat_of hty
          refine ⟨hh, Nat.le_refl _, Nat.le_refl _, fun _ _ k ls H locs hl hR => ?_⟩
          by_cases hKa : K ≤ a
          · exact jalen hx hb hK (e0 ▸ (harr _ _ _ e2).1) hR ha hKa hd (k ls H locs hl hR)
          · rw [jld_take hh (by omega)] at ha
            obtain ⟨-, xs, e1, h1, h2⟩ := hscr _ _ _ ha
            exact va_slen hx hb (h2 s hSP) (by omega) (fun z => absurd (show sz ≤ _ from z) (by omega)) hR.2.2 hd (k ls H locs hl hR)
        · cases hq
      · cases hq
    · cases hq
  · split at hq
    · rename_i j a r
      split at hq
      · rename_i n f ha
        split at hq
        · cases hq
        · rename_i hj
          cases hq
          refine ⟨hh, Nat.le_refl _, Nat.le_refl _, fun _ _ k ls H locs hl hR => ?_⟩
          by_cases hKa : K ≤ a
          · exact jiald hx hb hK (harr .int 0 _ rfl).1 hR ha hKa hj hd (k ls H locs hl hR)
          · rw [jld_take hh (by omega)] at ha
            obtain ⟨-, xs, e1, h1, h2⟩ := hscr _ _ _ ha
            cases e1
            exact va_sld hx hb (h2 s hSP) (by omega) (fun z => absurd (show sz ≤ _ from z) (by omega)) hR.2.2 hj hd (k ls H locs hl hR)
      · cases hq
    · cases hq
  · split at hq
    · rename_i j a r
      split at hq
      · rename_i n f ha
        split at hq
        · cases hq
        · rename_i hj
          cases hq
          refine ⟨hh, Nat.le_refl _, Nat.le_refl _, fun _ _ k ls H locs hl hR => ?_⟩
          by_cases hKa : K ≤ a
          · exact jcald hx hb hK (harr .char 0 _ rfl).1 hR ha hKa hj hd (k ls H locs hl hR)
          · rw [jld_take hh (by omega)] at ha
            obtain ⟨e0, -⟩ := hscr _ _ _ ha
            cases e0
      · cases hq
    · cases hq
  · split at hq
    · rename_i j a r
      split at hq
      · rename_i n f ha
        split at hq
        · cases hq
        · rename_i hj
          cases hq
          refine ⟨hh, Nat.le_refl _, Nat.le_refl _, fun _ _ k ls H locs hl hR => ?_⟩
          by_cases hKa : K ≤ a
          · exact jlald hx hb hK (harr .long 0 _ rfl).1 hR ha hKa hj hd (k ls H locs hl hR)
          · rw [jld_take hh (by omega)] at ha
            obtain ⟨e0, -⟩ := hscr _ _ _ ha
            cases e0
      · cases hq
    · cases hq
  · split at hq
    · rename_i x j a r
      split at hq
      · rename_i n f ha
        split at hq
        · cases hq
        · rename_i hj
          cases hq
          have hKa : K ≤ a := Nat.le_of_not_lt (fun z => hj (Or.inr z))
          refine ⟨by rw [List.take_set_of_le hKa]; exact hh, by rw [List.length_set]; exact Nat.le_refl _, by rw [jtot_set ha (by rfl)]; exact Nat.le_refl _, fun _ _ k ls H locs hl hR => ?_⟩
          refine jiast hx hb hK hα (harr .int 0 _ rfl).1 hR ha hKa (fun z => hj (Or.inl z)) hd (fun H1 locs1 hR1 => ?_)
          have k1 := k ls H1 locs1 hl hR1
          rw [List.length_set, jtot_set ha (by rfl)] at k1
          exact k1
      · cases hq
    · cases hq
  · split at hq
    · rename_i x j a r
      split at hq
      · rename_i n f ha
        split at hq
        · cases hq
        · rename_i hj
          cases hq
          have hKa : K ≤ a := Nat.le_of_not_lt (fun z => hj (Or.inr z))
          refine ⟨by rw [List.take_set_of_le hKa]; exact hh, by rw [List.length_set]; exact Nat.le_refl _, by rw [jtot_set ha (by rfl)]; exact Nat.le_refl _, fun _ _ k ls H locs hl hR => ?_⟩
          refine jcast hx hb hK hα (harr .char 0 _ rfl).1 hR ha hKa (fun z => hj (Or.inl z)) hd (fun H1 locs1 hR1 => ?_)
          have k1 := k ls H1 locs1 hl hR1
          rw [List.length_set, jtot_set ha (by rfl)] at k1
          exact k1
      · cases hq
    · cases hq
  · split at hq
    · rename_i x j a r
      split at hq
      · rename_i n f ha
        split at hq
        · cases hq
        · rename_i hj
          cases hq
          have hKa : K ≤ a := Nat.le_of_not_lt (fun z => hj (Or.inr z))
          refine ⟨by rw [List.take_set_of_le hKa]; exact hh, by rw [List.length_set]; exact Nat.le_refl _, by rw [jtot_set ha (by rfl)]; exact Nat.le_refl _, fun _ _ k ls H locs hl hR => ?_⟩
          refine jlast hx hb hK hα (harr .long 0 _ rfl).1 hR ha hKa (fun z => hj (Or.inl z)) hd (fun H1 locs1 hR1 => ?_)
          have k1 := k ls H1 locs1 hl hR1
          rw [List.length_set, jtot_set ha (by rfl)] at k1
          exact k1
      · cases hq
    · cases hq
  · cases hq
set_option maxHeartbeats 2000000 in
/-- one step -/
theorem jstep_ok (O : jOK D cl tys α dA K sz SP TB hd0 T) {own : String} {cn : Nat} {bytes : ByteArray} {nL : Nat} {ini : Bool} {ft : Nat → Option (Instr × Nat)} {n0 t0 : Nat}
    (V : jEnv D cl tys α K sz SP TB T p s m args meth c own cn bytes nL ini ft n0) {i : Instr} {len pc pc' : Nat} {lv lv' : List (Nat × Value)} {st st' : List Value} {h h' : jH} (hft : ft pc = some (i, len))
    (hs : jstep T.1 K cn nL ini i len pc lv st h = some (pc', lv', st', h')) (hh : h.take K = hd0) (hn0 : n0 ≤ h.length) (ht0 : t0 ≤ jtot h) (hKl : K ≤ h.length) :
    h'.take K = hd0 ∧ h.length ≤ h'.length ∧ jtot h ≤ jtot h' ∧
    ((h'.length - n0 ≤ R.cells) → (jtot h' - t0 ≤ R.slots) →
      (∀ (ls : Array Slot) (H : Heap) (locs : List Loc), lv_has ls nL (lv'.map (jx_L α)) → jRel D cl α dA K sz h' s H locs → W p l e R s m args below meth c H locs (h'.length - n0) (jtot h' - t0) Q (F0 m pc' ls (st'.map (jx_V α)))) →
      ∀ (ls : Array Slot) (H : Heap) (locs : List Loc), lv_has ls nL (lv.map (jx_L α)) → jRel D cl α dA K sz h s H locs → W p l e R s m args below meth c H locs (h.length - n0) (jtot h - t0) Q (F0 m pc ls (st.map (jx_V α)))) := by
  obtain ⟨hα, ⟨hd0l, hinj⟩, hgood, harr, hSPm, hscr, hmt⟩ := O
  obtain ⟨hx, hb, hml, hown, hts, hini, hK, hSP, hKn, hsz, hdec, hnL, hF, hN, hS, hC, hL⟩ := V
  have hd := hdec pc i len hft
  have hsz' : sz ≤ s.heap.size := by omega
  unfold jstep at hs
  split at hs
  · rename_i st1 k1 hq
    split at hs
    · rename_i hk; subst hk; cases hs
      exact ⟨hh, Nat.le_refl _, Nat.le_refl _, fun _ _ k ls H locs hl hR => jstk_ok hx hb hq hd (k ls H locs hl hR)⟩
    · cases hs
  · split at hs
    · rename_i lv1 st1 k1 hq
      split at hs
      · rename_i hk; subst hk; cases hs
        exact ⟨hh, Nat.le_refl _, Nat.le_refl _, fun _ _ k ls H locs hl hR => jloc_ok hx hb hq hd hl (fun ls' hl' => k ls' H locs hl' hR)⟩
      · cases hs
    · split at hs
      · rename_i pc1 st1 hq
        cases hs
        exact ⟨hh, Nat.le_refl _, Nat.le_refl _, fun _ _ k ls H locs hl hR => jjmp_ok hx hb hinj hq hd (k ls H locs hl hR)⟩
      · split at hs
        · rename_i st1 h1 k1 hq
          split at hs
          · rename_i hk; subst hk; cases hs
            exact jhp_ok ⟨hα, ⟨hd0l, hinj⟩, hgood, harr, hSPm, hscr, hmt⟩ ⟨hx, hb, hml, hown, hts, hini, hK, hSP, hKn, hsz, hdec, hnL, hF, hN, hS, hC, hL⟩ hd hq hh hn0 ht0 hKl
          · cases hs
        · cases hs
end JS
