/-! D37: the reference unifies -/
def RS1m (σ : qC) (nv nc e : Nat) (T : Tr) : Prop := ∃ x : Int, σ.2 85 e = Int32.ofInt x ∧ MTx (σ.2 72) (σ.2 73) (σ.2 74) nv nc x T
theorem RS1m.congr {σ σ' : qC} {nv nc nv' nc' e : Nat} {T : Tr} (h : RS1m σ nv nc e T) (h1 : nv ≤ nv') (h2 : nc ≤ nc') (hG : ∀ i, i < nc → σ'.2 72 i = σ.2 72 i) (hC : ∀ i, i < nc → σ'.2 73 i = σ.2 73 i) (hA : ∀ i, i < 3 * nc → σ'.2 74 i = σ.2 74 i) (h85 : σ'.2 85 e = σ.2 85 e) : RS1m σ' nv' nc' e T := by
  obtain ⟨x, h3, h4⟩ := h
  exact ⟨x, by rw [h85, h3], h4.mono h1 h2 hG hC hA⟩
theorem RA1m.mono {σ σ' : qC} {nv nc nv' nc' a : Nat} {X Y : Tr} (h : RA1m σ nv nc a X Y) (h1 : nv ≤ nv') (h2 : nc ≤ nc') (hG : ∀ i, i < nc → σ'.2 72 i = σ.2 72 i) (hC : ∀ i, i < nc → σ'.2 73 i = σ.2 73 i) (hA : ∀ i, i < 3 * nc → σ'.2 74 i = σ.2 74 i) (h87 : σ'.2 87 a = σ.2 87 a) (h88 : σ'.2 88 a = σ.2 88 a) : RA1m σ' nv' nc' a X Y := by
  obtain ⟨x, y, h3, h4, h5, h6⟩ := h
  exact ⟨x, y, by rw [h87, h3], by rw [h88, h4], h5.mono h1 h2 hG hC hA, h6.mono h1 h2 hG hC hA⟩
/-- the reference's store at W, t -/
def SRm (σ : qC) (W : Wm) (t : List Em) (na nc : Nat) (st : Sto) : Prop :=
  WUm σ st.1 nc W st.2.1 ∧ EVm t st.1 st.2.2.1 na ∧ bOrd st.1 st.2.1.1 ∧ SlOK st.1 st.2.2.1 st.2.1 ∧ st.2.1.2.2.2.2.2 = [] ∧ go01 W ∧ (∀ a, na ≤ a → W.2.2.2.2 a = 0) ∧
  (∀ e, e < st.2.2.1 → RS1m σ st.1 nc e (st.2.2.2.1 e)) ∧ (∃ L R : Nat → Tr, (∀ a, a < na → RA1m σ st.1 nc a (L a) (R a)) ∧ st.2.2.2.2 = apFm W.2.2.2.2 L R na 0)
def Bm1 (s na nc ng : Nat) (t : List Em) (st : Sto) : Prop := st.1 ≤ 24 * s ∧ nc ≤ 24 * s ∧ ng + pot st.1 st.2.1.2.2.2.2.1 ≤ 25 * s ∧ st.2.2.1 ≤ s ∧ na ≤ s ∧ t.length ≤ 4 * s
def Bm0 (s na nc ng : Nat) (t : List Em) (st : Sto) : Prop := st.1 ≤ 24 * (s + 1) ∧ nc ≤ 24 * (s + 1) ∧ ng + pot st.1 st.2.1.2.2.2.2.1 ≤ 25 * (s + 1) ∧ st.2.2.1 ≤ s ∧ na ≤ s ∧ t.length ≤ 4 * s
/-- the choices -/
def SnM (σ : qC) (s : Nat) : List Ch → Wm → List Em → Nat → Nat → Nat → Nat → Nat → Prop
  | [], _, _, _, _, _, _, _ => True
  | (X, c, rest, st) :: ch, W, t, nv, ns, na, nc, ng => ∃ (es r : List Em) (x td : Int) (na1 nc1 ng1 : Nat), t = es ++ r ∧ SRm σ (unmL es W) r na1 nc1 st ∧ Bm1 s na1 nc1 ng1 r st ∧ c < 12 ∧
      (σ.2 94 ch.length = Int32.ofInt x ∧ σ.2 95 ch.length = Int32.ofInt c ∧ σ.2 96 ch.length = Int32.ofInt td ∧ σ.2 97 ch.length = Int32.ofInt nc1 ∧ σ.2 98 ch.length = Int32.ofInt st.1 ∧ σ.2 99 ch.length = Int32.ofInt ng1 ∧ σ.2 100 ch.length = Int32.ofInt r.length ∧ σ.2 101 ch.length = Int32.ofInt st.2.2.1 ∧ σ.2 102 ch.length = Int32.ofInt na1) ∧
      MTx (σ.2 72) (σ.2 73) (σ.2 74) st.1 nc1 x X ∧ ¬ lab X < 0 ∧ RTM σ st.1 nc1 ng1 rest td ∧ (st.1 ≤ nv ∧ st.2.2.1 ≤ ns ∧ na1 ≤ na ∧ nc1 ≤ nc ∧ ng1 ≤ ng) ∧ SnM σ s ch (unmL es W) r st.1 st.2.2.1 na1 nc1 ng1
theorem SRm.congr {σ σ' : qC} {W : Wm} {t : List Em} {na nc : Nat} {st : Sto} (h : SRm σ W t na nc st) (hG : ∀ i, i < nc → σ'.2 72 i = σ.2 72 i) (hC : ∀ i, i < nc → σ'.2 73 i = σ.2 73 i) (hA : ∀ i, i < 3 * nc → σ'.2 74 i = σ.2 74 i) (h85 : ∀ e, e < st.2.2.1 → σ'.2 85 e = σ.2 85 e) (h87 : ∀ a, a < na → σ'.2 87 a = σ.2 87 a ∧ σ'.2 88 a = σ.2 88 a) : SRm σ' W t na nc st := by
  obtain ⟨a1, a2, a3, a4, a5, a6, a7, a8, L, R, a9, a10⟩ := h
  exact ⟨a1.congr (Nat.le_refl _) (Nat.le_refl _) hG hC hA, a2, a3, a4, a5, a6, a7, fun e he => (a8 e he).congr (Nat.le_refl _) (Nat.le_refl _) hG hC hA (h85 e he), L, R, fun a ha => (a9 a ha).mono (Nat.le_refl _) (Nat.le_refl _) hG hC hA (h87 a ha).1 (h87 a ha).2, a10⟩
theorem SnM.und {σ : qC} {s : Nat} {ch : List Ch} {W W' : Wm} {t t' : List Em} {nv ns na nc ng : Nat} (h : SnM σ s ch W t nv ns na nc ng) (hu : Undm W t W' t') : SnM σ s ch W' t' nv ns na nc ng := by
  cases ch with
  | nil => trivial
  | cons a ch =>
    obtain ⟨X, c, rest, st⟩ := a
    obtain ⟨es, r, x, td, na1, nc1, ng1, h1, h2⟩ := h
    obtain ⟨fs, f1, f2⟩ := hu
    refine ⟨fs ++ es, r, x, td, na1, nc1, ng1, by rw [f1, h1, List.append_assoc], ?_⟩
    rw [unmL_app, f2]
    exact h2
theorem SnM.mono {σ : qC} {s s' : Nat} : ∀ {ch : List Ch} {W : Wm} {t : List Em} {nv ns na nc ng nv' ns' na' nc' ng' : Nat}, SnM σ s ch W t nv ns na nc ng → s ≤ s' → nv ≤ nv' → ns ≤ ns' → na ≤ na' → nc ≤ nc' → ng ≤ ng' → SnM σ s' ch W t nv' ns' na' nc' ng'
  | [], _, _, _, _, _, _, _, _, _, _, _, _, _, _, _, _, _, _, _ => trivial
  | (X, c, rest, st) :: ch, W, t, nv, ns, na, nc, ng, nv', ns', na', nc', ng', h, a1, a2, a3, a4, a5, a6 => by
    obtain ⟨es, r, x, td, na1, nc1, ng1, h1, h2, h3, h4, h5, h6, h7, h8, h9, h10⟩ := h
    obtain ⟨b1, b2, b3, b4, b5, b6⟩ := h3
    exact ⟨es, r, x, td, na1, nc1, ng1, h1, h2, ⟨by omega, by omega, by omega, by omega, by omega, by omega⟩, h4, h5, h6, h7, h8, by omega, SnM.mono h10 a1 (Nat.le_refl _) (Nat.le_refl _) (Nat.le_refl _) (Nat.le_refl _) (Nat.le_refl _)⟩
theorem SnM.congr {σ σ' : qC} {s : Nat} : ∀ {ch : List Ch} {W : Wm} {t : List Em} {nv ns na nc ng : Nat}, SnM σ s ch W t nv ns na nc ng → (∀ i, i < nc → σ'.2 72 i = σ.2 72 i) → (∀ i, i < nc → σ'.2 73 i = σ.2 73 i) → (∀ i, i < 3 * nc → σ'.2 74 i = σ.2 74 i) → (∀ e, e < ns → σ'.2 85 e = σ.2 85 e) → (∀ a, a < na → σ'.2 87 a = σ.2 87 a ∧ σ'.2 88 a = σ.2 88 a) → (∀ i, i < ng → σ'.2 78 i = σ.2 78 i ∧ σ'.2 79 i = σ.2 79 i ∧ σ'.2 80 i = σ.2 80 i ∧ σ'.2 81 i = σ.2 81 i ∧ σ'.2 82 i = σ.2 82 i) → (∀ k i, 94 ≤ k → k ≤ 102 → i < ch.length → σ'.2 k i = σ.2 k i) → SnM σ' s ch W t nv ns na nc ng
  | [], _, _, _, _, _, _, _, _, _, _, _, _, _, _, _ => trivial
  | (X, c, rest, st) :: ch, W, t, nv, ns, na, nc, ng, h, g72, g73, g74, g85, g87, g78, g94 => by
    obtain ⟨es, r, x, td, na1, nc1, ng1, h1, h2, h3, h4, ⟨r0, r1, r2, r3, r4, r5, r6, r7, r8⟩, h6, h7, h8, h9, h10⟩ := h
    rw [List.length_cons] at g94
    have e : ∀ k, 94 ≤ k → k ≤ 102 → σ'.2 k ch.length = σ.2 k ch.length := fun k a b => g94 k _ a b (by omega)
    refine ⟨es, r, x, td, na1, nc1, ng1, h1, h2.congr (fun i hi => g72 i (by omega)) (fun i hi => g73 i (by omega)) (fun i hi => g74 i (by omega)) (fun i hi => g85 i (by omega)) (fun i hi => g87 i (by omega)), h3, h4, ⟨by rw [e _ (by omega) (by omega), r0], by rw [e _ (by omega) (by omega), r1], by rw [e _ (by omega) (by omega), r2], by rw [e _ (by omega) (by omega), r3], by rw [e _ (by omega) (by omega), r4], by rw [e _ (by omega) (by omega), r5], by rw [e _ (by omega) (by omega), r6], by rw [e _ (by omega) (by omega), r7], by rw [e _ (by omega) (by omega), r8]⟩, h6.mono (Nat.le_refl _) (Nat.le_refl _) (fun i hi => g72 i (by omega)) (fun i hi => g73 i (by omega)) (fun i hi => g74 i (by omega)), h7, h8.mono (Nat.le_refl _) (Nat.le_refl _) (Nat.le_refl _) (fun i hi => g72 i (by omega)) (fun i hi => g73 i (by omega)) (fun i hi => g74 i (by omega)) (fun i hi => g78 i (by omega)), h9, ?_⟩
    exact SnM.congr h10 (fun i hi => g72 i (by omega)) (fun i hi => g73 i (by omega)) (fun i hi => g74 i (by omega)) (fun i hi => g85 i (by omega)) (fun i hi => g87 i (by omega)) (fun i hi => g78 i (by omega)) (fun k i a b hi => g94 k i a b (by omega))
theorem SnM.tail {σ : qC} {s : Nat} {a : Ch} {ch : List Ch} {W : Wm} {t : List Em} {nv ns na nc ng : Nat} (h : SnM σ s (a :: ch) W t nv ns na nc ng) : SnM σ s ch W t nv ns na nc ng := by
  obtain ⟨X, c, rest, st⟩ := a
  obtain ⟨es, r, x, td, na1, nc1, ng1, h1, h2, h3, h4, h5, h6, h7, h8, h9, h10⟩ := h
  exact (h10.mono (Nat.le_refl _) h9.1 h9.2.1 h9.2.2.1 h9.2.2.2.1 h9.2.2.2.2).und ⟨es, h1, rfl⟩
theorem SnM.drop {σ : qC} {s : Nat} {W : Wm} {t : List Em} {nv ns na nc ng : Nat} : ∀ {ch : List Ch} (k : Nat), SnM σ s ch W t nv ns na nc ng → SnM σ s (ch.drop k) W t nv ns na nc ng
  | [], k, h => by rw [List.drop_nil]; exact h
  | _ :: _, 0, h => h
  | _ :: ch, k + 1, h => SnM.drop (ch := ch) k h.tail
