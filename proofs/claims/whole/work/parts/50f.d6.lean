/-! D6: going back; the sleepers' chains -/
def EV1 (nv ns na : Nat) (e : Ec) : Prop := (e.1 = 0 → e.2.1 < nv) ∧ (e.1 = 1 → e.2.1 < nv ∧ (e.2.2 = -1 ∨ 0 ≤ e.2.2 ∧ e.2.2 < ns)) ∧ (e.1 = 2 → e.2.1 < na)
def EV (t : List Ec) (nv ns na : Nat) : Prop := ∀ e, e ∈ t → EV1 nv ns na e
theorem EV.mono {t : List Ec} {nv ns na nv' ns' na' : Nat} (h : EV t nv ns na) (h1 : nv ≤ nv') (h2 : ns ≤ ns') (h3 : na ≤ na') : EV t nv' ns' na' := by
  intro e he
  obtain ⟨a, b, c⟩ := h e he
  refine ⟨fun q => by have := a q; omega, fun q => ?_, fun q => by have := c q; omega⟩
  have := b q
  omega
theorem EV.app {a b : List Ec} {nv ns na : Nat} (h : EV (a ++ b) nv ns na) : EV b nv ns na := fun e he => h e (List.mem_append_right _ he)
theorem CW.sc {σ : qC} {W : Wc} {t : List Ec} {nv ns na : Nat} (h : CW σ W t nv ns na) : σ.1 4202 = Int32.ofInt t.length := h.2.2.2.1.2.2.2
theorem goBackL_ok : ∀ (es t : List Ec) (n : Nat) (σ : qC) (W : Wc) (nv ns na : Nat), CW (upS σ 4202 (Int32.ofInt (es ++ t).length)) W (es ++ t) nv ns na → EV (es ++ t) nv ns na → es.length < n → (∃ k : Nat, σ.1 4202 = Int32.ofInt k ∧ t.length ≤ k ∧ k < 131072) →
    ∃ σ', c_goBack_101_l10 n (Int32.ofInt t.length) (Int32.ofInt ((es ++ t).length - 1 : Int)) σ = some σ' ∧ CW σ' (unL es W) t nv ns na ∧ (∀ k, k ≠ 36 → k ≠ 38 → k ≠ 40 → σ'.2 k = σ.2 k) ∧ (∀ k, k % 4 ≠ 2 → σ'.2 38 k = σ.2 38 k ∧ σ'.2 40 k = σ.2 40 k) ∧ (∀ j, j ≠ 4202 → σ'.1 j = σ.1 j) := by
  intro es
  induction es with
  | nil =>
    intro t n σ W nv ns na h hE hn ⟨k, hk1, hk2, hk3⟩
    cases n with
    | zero => omega
    | succ n =>
      have h6 := h.2.2.2.2.2
      have hs : tshr σ 42 (Int32.ofInt t.length) = upS σ 4202 (Int32.ofInt t.length) := tshrI hk1 (by omega) rfl hk2
      unfold c_goBack_101_l10
      rw [List.nil_append] at *
      rw [if_pos (zltP (by omega) (by omega) (by omega) (by omega) (by omega))]
      dsimp only [qlet]
      rw [hs]
      exact ⟨_, rfl, h, fun _ _ _ _ => rfl, fun _ _ => ⟨rfl, rfl⟩, fun j hj => by rw [upS_1, if_neg hj]⟩
  | cons e es ih =>
    intro t n σ W nv ns na h hE hn hk
    cases n with
    | zero => simp at hn
    | succ n =>
      have h6 := h.2.2.2.2.2
      rw [List.length_cons] at hn
      rw [List.cons_append] at h hE h6 ⊢
      rw [List.length_cons, List.length_append] at h6
      obtain ⟨σ1, q1, q2, q3, q4, q5⟩ := undo_ok h (hE e List.mem_cons_self)
      unfold c_goBack_101_l10
      have hlen : ((e :: (es ++ t)).length : Int) = es.length + t.length + 1 := by
        rw [List.length_cons, List.length_append]
        omega
      rw [z0, if_neg (zltN (by omega) (by omega) (by omega) (by omega) (by omega)), if_neg (zltN (by omega) (by omega) (by omega) (by omega) (by omega))]
      rw [show ((e :: (es ++ t)).length - 1 : Int) = ((es ++ t).length : Nat) by rw [List.length_cons]; omega, q1, Option.bind_some, zadd]
      obtain ⟨σ', p1, p2, p3, p4, p5⟩ := ih t n σ1 (un1 e W) nv ns na q2 (fun e' he' => hE e' (List.mem_cons_of_mem _ he')) (by omega) (by rw [q5]; exact hk)
      refine ⟨σ', p1, p2, fun k a b c => ?_, fun k hk => ?_, fun j hj => by rw [p5 j hj, q5]⟩
      · rw [p3 k a b c]
        exact q3 k a b c
      · rw [(p4 k hk).1, (p4 k hk).2]
        exact q4 k hk
theorem goBack_ok {es t : List Ec} {σ : qC} {W : Wc} {nv ns na : Nat} (h : CW σ W (es ++ t) nv ns na) (hE : EV (es ++ t) nv ns na) :
    ∃ σ', c_goBack_101 (Int32.ofInt t.length) σ = some σ' ∧ CW σ' (unL es W) t nv ns na ∧ (∀ k, k ≠ 36 → k ≠ 38 → k ≠ 40 → σ'.2 k = σ.2 k) ∧ (∀ k, k % 4 ≠ 2 → σ'.2 38 k = σ.2 38 k ∧ σ'.2 40 k = σ.2 40 k) ∧ (∀ j, j ≠ 4202 → σ'.1 j = σ.1 j) := by
  have h6 := h.2.2.2.2.2
  have h4 := h.sc
  unfold c_goBack_101
  rw [h4, zsub]
  refine goBackL_ok es t qF σ W nv ns na ?_ hE ?_ ⟨(es ++ t).length, h4, ?_, ?_⟩
  · refine h.congr rfl rfl rfl rfl ?_ ?_ ?_ ?_
    · rw [upS_1, if_neg (by omega)]
    · rw [upS_1, if_neg (by omega)]
    · rw [upS_1, if_neg (by omega)]
    · rw [upS_1, if_pos rfl, h4]
  · rw [List.length_append] at h6
    unfold qF
    omega
  · rw [List.length_append]
    omega
  · omega
/-! chains -/
def chn (nx : Nat → Int) : Int → List Nat → Prop
  | h, [] => h = -1
  | h, e :: l => h = e ∧ chn nx (nx e) l
def lstI : List Nat → Int
  | [] => -1
  | [e] => e
  | _ :: l => lstI l
theorem lstI_mem : ∀ {l : List Nat}, l ≠ [] → ∃ e, e ∈ l ∧ lstI l = e
  | [e], _ => ⟨e, List.mem_cons_self, rfl⟩
  | _ :: f :: l, _ => by
    obtain ⟨e, h1, h2⟩ := lstI_mem (l := f :: l) (by simp)
    exact ⟨e, List.mem_cons_of_mem _ h1, h2⟩
theorem lstI_app : ∀ {l l2 : List Nat}, l2 ≠ [] → lstI (l ++ l2) = lstI l2
  | [], _, _ => rfl
  | [e], f :: l2, _ => rfl
  | _ :: f :: l, l2, h => lstI_app (l := f :: l) h
theorem chn_gup {nx : Nat → Int} {k : Nat} {x : Int} : ∀ {l : List Nat} {h : Int}, k ∉ l → chn nx h l → chn (gup nx k x) h l
  | [], _, _, h => h
  | e :: l, _, hk, h => by
    refine ⟨h.1, ?_⟩
    rw [gup_at, if_neg (fun z => hk (by rw [z]; exact List.mem_cons_self))]
    exact chn_gup (fun z => hk (List.mem_cons_of_mem _ z)) h.2
theorem chn_join {nx : Nat → Int} {x : Int} {l2 : List Nat} : ∀ {l : List Nat} {h : Int} {k : Nat}, l ≠ [] → l.Nodup → lstI l = (k : Int) → k ∉ l2 → chn nx h l → chn nx x l2 → chn (gup nx k x) h (l ++ l2)
  | [e], h, k, _, _, hk, hk2, h1, h2 => by
    have : e = k := by
      have h9 : ((e : Nat) : Int) = k := hk
      omega
    subst this
    refine ⟨h1.1, ?_⟩
    rw [gup_at, if_pos rfl]
    exact chn_gup hk2 h2
  | e :: f :: l, h, k, _, hn, hk, hk2, h1, h2 => by
    rw [List.nodup_cons] at hn
    obtain ⟨e', h3, h4⟩ := lstI_mem (l := f :: l) (by simp)
    have : e' = k := by
      have h9 : lstI (f :: l) = (k : Int) := hk
      omega
    subst this
    refine ⟨h1.1, ?_⟩
    rw [gup_at, if_neg (fun z => hn.1 (by rw [z]; exact h3))]
    exact chn_join (l := f :: l) (by simp) hn.2 h4 hk2 h1.2 h2
theorem chn_last {nx : Nat → Int} : ∀ {l : List Nat} {h : Int} {k : Nat}, l ≠ [] → lstI l = (k : Int) → chn nx h l → nx k = -1
  | [e], h, k, _, hk, h1 => by
    have : e = k := by
      have h9 : ((e : Nat) : Int) = k := hk
      omega
    subst this
    exact h1.2
  | e :: f :: l, h, k, _, hk, h1 => chn_last (l := f :: l) (by simp) hk h1.2
/-- the sleepers are in order -/
def SlOK (nv ns : Nat) (u : Us) : Prop :=
  (∀ v, u.1 v = none → chn u.2.2.2.1 (u.2.1 v) (u.2.2.2.2.1 v) ∧ u.2.2.1 v = lstI (u.2.2.2.2.1 v)) ∧
  (∀ v, (u.2.2.2.2.1 v).Nodup ∧ (∀ e, e ∈ u.2.2.2.2.1 v → e < ns) ∧ (nv ≤ v → u.2.2.2.2.1 v = []) ∧ (u.1 v ≠ none → u.2.2.2.2.1 v = [])) ∧
  (∀ v w, v ≠ w → ∀ e, e ∈ u.2.2.2.2.1 v → e ∉ u.2.2.2.2.1 w) ∧
  (∀ v e, e ∈ u.2.2.2.2.1 v → e ∉ u.2.2.2.2.2) ∧ u.2.2.2.2.2.Nodup ∧ (∀ e, e ∈ u.2.2.2.2.2 → e < ns) ∧ (∀ e, ns ≤ e → u.2.2.2.1 e = -1)
