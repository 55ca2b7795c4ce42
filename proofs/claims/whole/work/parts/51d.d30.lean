/-! D30: the reference binds, lets follow, undoes -/
theorem zdiv {a b : Int} (ha : 0 ≤ a) (ha2 : a < 2147483648) (hb : 0 < b) (hb2 : b < 2147483648) : Int32.ofInt a / Int32.ofInt b = Int32.ofInt (a / b) := by
  rw [← Int32.ofInt_tdiv (by simp [Int32.minValue]; omega) (by simp [Int32.maxValue]; omega) (by simp [Int32.minValue]; omega) (by simp [Int32.maxValue]; omega), Int.tdiv_eq_ediv_of_nonneg ha]
theorem unm1_1 {v : Nat} {o : Int} {W : Wm} : unm1 (5 * v + 1, o) W = (W.1, gup W.2.1 v o, W.2.2) := by
  unfold unm1
  rw [if_neg (by dsimp only; omega), if_pos (by dsimp only; omega), show (5 * v + 1, o).1 / 5 = v by dsimp only; omega]
theorem unm1_2 {v : Nat} {o : Int} {W : Wm} : unm1 (5 * v + 2, o) W = (W.1, W.2.1, gup W.2.2.1 v o, W.2.2.2) := by
  unfold unm1
  rw [if_neg (by dsimp only; omega), if_neg (by dsimp only; omega), if_pos (by dsimp only; omega), show (5 * v + 2, o).1 / 5 = v by dsimp only; omega]
theorem unm1_3 {v : Nat} {o : Int} {W : Wm} : unm1 (5 * v + 3, o) W = (W.1, W.2.1, W.2.2.1, gup W.2.2.2.1 v o, W.2.2.2.2) := by
  unfold unm1
  rw [if_neg (by dsimp only; omega), if_neg (by dsimp only; omega), if_neg (by dsimp only; omega), if_pos (by dsimp only; omega), show (5 * v + 3, o).1 / 5 = v by dsimp only; omega]
theorem tie_ok {σ : qC} {W : Wm} {t : List Em} {nv ns na v : Nat} {x a : Int} (h : MW σ W t nv ns na) (ha : a = v) (hv : v < nv) (hW : W.1 v = 2147483647) (ht : t.length < 5000) :
    ∃ σ', m_tie_159 (Int32.ofInt a) (Int32.ofInt x) σ = some σ' ∧ MW σ' (gup W.1 v x, W.2) ((5 * v, 2147483647) :: t) nv ns na ∧ Undm W t (gup W.1 v x, W.2) ((5 * v, 2147483647) :: t) ∧ σ'.1 6439 = Int32.ofInt 1 ∧ (∀ k, k ≠ 83 → k ≠ 84 → k ≠ 75 → σ'.2 k = σ.2 k) ∧ (∀ j, j ≠ 6432 → j ≠ 6439 → σ'.1 j = σ.1 j) := by
  subst ha
  have h6 := h.2.2.2.2.2
  unfold m_tie_159
  rw [zmul]
  obtain ⟨σ1, q1, q2, q3, q4⟩ := change_ok (w := 5 * v) (a := (v : Int) * 5) (o := 2147483647) h (by omega) (by omega) ht
  rw [q1, Option.bind_some, aputI (i := v) rfl (by omega) (by omega), Option.bind_some]
  dsimp only [qlet]
  refine ⟨_, rfl, ?_, Undm.one ?_, by rw [upS_1, if_pos rfl], fun k a b c => by rw [upS_2, upA_ne c, q3 k a b], fun j a b => by rw [upS_1, if_neg b]; exact q4 j a⟩
  · obtain ⟨h1, h2, h3, ⟨k1, k2, k3, k4⟩, h5, h7⟩ := q2
    refine ⟨fun w hw => ?_, ?_, ?_, ⟨by rw [upS_1, if_neg (by omega)]; exact k1, by rw [upS_1, if_neg (by omega)]; exact k2, by rw [upS_1, if_neg (by omega)]; exact k3, by rw [upS_1, if_neg (by omega)]; exact k4⟩, ?_, h7⟩
    · rw [upS_2, upA_eq, upA_ne (by omega), upA_ne (by omega)]
      refine ⟨?_, (h1 w hw).2⟩
      dsimp only
      rw [fup_at, gup_at]
      by_cases e : w = v
      · rw [if_pos e, if_pos e]
      · rw [if_neg e, if_neg e]
        exact (h1 w hw).1
    · rw [upS_2, upA_ne (by omega)]; exact h2
    · rw [upS_2, upA_ne (by omega)]; exact h3
    · rw [upS_2, upA_ne (by omega), upA_ne (by omega)]; exact h5
  · unfold unm1
    dsimp only
    rw [if_pos (by omega), show 5 * v / 5 = v by omega, gup_gup, gup_self hW]
/-- a change that may be undone -/
def EVm1 (nv ns na : Nat) (e : Em) : Prop := (e.1 % 5 ≤ 2 → e.1 / 5 < nv) ∧ (e.1 % 5 = 3 → e.1 / 5 < ns) ∧ (e.1 % 5 = 4 → e.1 / 5 < na)
def wmJoin (W : Wm) (v : Nat) (a z : Int) : Wm :=
  if a < 0 then W else
  if W.2.2.1 v < 0 then (W.1, gup W.2.1 v a, gup W.2.2.1 v z, W.2.2.2.1, W.2.2.2.2)
  else (W.1, W.2.1, gup W.2.2.1 v z, gup W.2.2.2.1 (W.2.2.1 v).toNat a, W.2.2.2.2)
set_option maxHeartbeats 1000000 in
theorem follow_ok {σ : qC} {W : Wm} {t : List Em} {nv ns na v : Nat} {i a z : Int} (h : MW σ W t nv ns na) (hi : i = v) (hv : v < nv) (ha : -1 ≤ a ∧ a < 20000) (hz : -1 ≤ z ∧ z < 20000)
    (hbf : (W.2.2.1 v = -1 ∧ W.2.1 v = -1) ∨ (0 ≤ W.2.2.1 v ∧ W.2.2.1 v < ns ∧ 0 ≤ W.2.1 v ∧ W.2.1 v < ns)) (ht : t.length + 3 ≤ 5000) :
    ∃ σ' t', m_follow_161 (Int32.ofInt i) (Int32.ofInt a) (Int32.ofInt z) σ = some σ' ∧ MW σ' (wmJoin W v a z) t' nv ns na ∧ Undm W t (wmJoin W v a z) t' ∧ t.length ≤ t'.length ∧ t'.length ≤ t.length + 3 ∧ (∀ k, k ≠ 83 → k ≠ 84 → k ≠ 76 → k ≠ 77 → k ≠ 86 → σ'.2 k = σ.2 k) ∧ (∀ j, j ≠ 6432 → σ'.1 j = σ.1 j) ∧ (∀ x, x ∈ t' → x ∈ t ∨ EVm1 nv ns na x) := by
  subst hi
  have h6 := h.2.2.2.2.2
  unfold m_follow_161 wmJoin
  by_cases ha0 : a < 0
  · rw [z0, if_neg (zleN (by omega) (by omega) (by omega) (by omega) (by omega)), if_pos ha0]
    exact ⟨σ, t, rfl, h, Undm.refl, Nat.le_refl _, by omega, fun _ _ _ _ _ _ => rfl, fun _ _ => rfl, fun x hx => Or.inl hx⟩
  rw [z0, if_pos (zleP (by omega) (by omega) (by omega) (by omega) (by omega)), if_neg ha0, agetI (i := v) rfl (by omega) (by omega), Option.bind_some, (h.1 v hv).2.1, zmul, zadd]
  obtain ⟨σ1, q1, q2, q3, q4⟩ := change_ok (w := 5 * v + 1) (a := (v : Int) * 5 + 1) (o := W.2.1 v) h (by omega) (by omega) (by omega)
  rw [q1, Option.bind_some, agetI (i := v) rfl (by omega) (by omega), Option.bind_some, (q2.1 v hv).2.2, zadd]
  obtain ⟨σ2, p1, p2, p3, p4⟩ := change_ok (w := 5 * v + 2) (a := (v : Int) * 5 + 2) (o := W.2.2.1 v) q2 (by omega) (by omega) (by rw [List.length_cons]; omega)
  rw [p1, Option.bind_some, agetI (i := v) rfl (by omega) (by omega), Option.bind_some, (p2.1 v hv).2.1]
  have hM : ∀ (σ3 : qC) (t3 : List Em) (hd' nx' : Nat → Int), MW σ3 W t3 nv ns na → True := fun _ _ _ _ _ => trivial
  rcases hbf with ⟨hb1, hb2⟩ | ⟨hb1, hb2, hb3, hb4⟩
  · rw [hb2, if_neg (zleN (by omega) (by omega) (by omega) (by omega) (by omega)), aputI (i := v) rfl (by omega) (by omega), Option.bind_some, aputI (i := v) rfl (by omega) (by omega), Option.bind_some, if_pos (by omega)]
    refine ⟨_, (5 * v + 2, W.2.2.1 v) :: (5 * v + 1, W.2.1 v) :: t, rfl, ?_, ⟨[(5 * v + 2, W.2.2.1 v), (5 * v + 1, W.2.1 v)], rfl, ?_⟩, by simp only [List.length_cons]; omega, by simp only [List.length_cons]; omega, fun k a b c d e => by rw [upA_ne d, upA_ne c, p3 k a b, q3 k a b], fun j hj => by rw [upA_1, upA_1, p4 j hj, q4 j hj], fun x hx => ?_⟩
    · obtain ⟨h1, h2, h3, h4, h5, h7⟩ := p2
      refine ⟨fun w hw => ?_, ?_, ?_, h4, ?_, h7⟩
      · have q := h1 w hw
        dsimp only
        rw [upA_ne (by omega), upA_ne (by omega), upA_ne (by omega), upA_eq, upA_eq, upA_ne (by omega), fup_at, fup_at, gup_at, gup_at]
        by_cases e : w = v
        · rw [if_pos e, if_pos e, if_pos e, if_pos e]
          exact ⟨q.1, rfl, rfl⟩
        · rw [if_neg e, if_neg e, if_neg e, if_neg e]
          exact q
      · rw [upA_ne (by omega), upA_ne (by omega)]; exact h2
      · rw [upA_ne (by omega), upA_ne (by omega)]; exact h3
      · rw [upA_ne (by omega), upA_ne (by omega), upA_ne (by omega), upA_ne (by omega)]; exact h5
    · show unm1 (5 * v + 1, W.2.1 v) (unm1 (5 * v + 2, W.2.2.1 v) _) = W
      rw [unm1_2, unm1_1]
      dsimp only
      rw [gup_gup, gup_gup, gup_self rfl, gup_self rfl]
    · rcases List.mem_cons.mp hx with rfl | hx
      · exact Or.inr ⟨fun _ => by dsimp only; omega, fun z => by dsimp only at z; omega, fun z => by dsimp only at z; omega⟩
      · rcases List.mem_cons.mp hx with rfl | hx
        · exact Or.inr ⟨fun _ => by dsimp only; omega, fun z => by dsimp only at z; omega, fun z => by dsimp only at z; omega⟩
        · exact Or.inl hx
  · obtain ⟨bf, hbf⟩ : ∃ bf : Nat, W.2.2.1 v = bf := ⟨(W.2.2.1 v).toNat, by omega⟩
    rw [if_pos (zleP (by omega) (by omega) (by omega) (by omega) (by omega)), agetI (i := v) rfl (by omega) (by omega), Option.bind_some, Option.bind_some, (p2.1 v hv).2.2, hbf, agetI (i := bf) rfl (by omega) (by omega), Option.bind_some, p2.2.1 bf (by omega), zmul, zadd]
    obtain ⟨σ3, r1, r2, r3, r4⟩ := change_ok (w := 5 * bf + 3) (a := (bf : Int) * 5 + 3) (o := W.2.2.2.1 bf) p2 (by omega) (by omega) (by simp only [List.length_cons]; omega)
    rw [r1, Option.bind_some, agetI (i := v) rfl (by omega) (by omega), Option.bind_some, (r2.1 v hv).2.2, hbf, aputI (i := bf) rfl (by omega) (by omega), Option.bind_some, aputI (i := v) rfl (by omega) (by omega), Option.bind_some, if_neg (by omega), Int.toNat_natCast]
    refine ⟨_, (5 * bf + 3, W.2.2.2.1 bf) :: (5 * v + 2, W.2.2.1 v) :: (5 * v + 1, W.2.1 v) :: t, rfl, ?_, ⟨[(5 * bf + 3, W.2.2.2.1 bf), (5 * v + 2, W.2.2.1 v), (5 * v + 1, W.2.1 v)], rfl, ?_⟩, by simp only [List.length_cons]; omega, by simp only [List.length_cons]; omega, fun k a b c d e => by rw [upA_ne d, upA_ne e, r3 k a b, p3 k a b, q3 k a b], fun j hj => by rw [upA_1, upA_1, r4 j hj, p4 j hj, q4 j hj], fun x hx => ?_⟩
    · obtain ⟨h1, h2, h3, h4, h5, h7⟩ := r2
      refine ⟨fun w hw => ?_, fun k hk => ?_, ?_, h4, ?_, h7⟩
      · have q := h1 w hw
        dsimp only
        rw [upA_ne (by omega), upA_ne (by omega), upA_ne (by omega), upA_ne (by omega), upA_eq, upA_ne (by omega), fup_at, gup_at]
        by_cases e : w = v
        · rw [if_pos e, if_pos e]
          exact ⟨q.1, q.2.1, rfl⟩
        · rw [if_neg e, if_neg e]
          exact q
      · dsimp only
        rw [upA_ne (by omega), upA_eq, fup_at, gup_at]
        by_cases e : k = bf
        · rw [if_pos e, if_pos e]
        · rw [if_neg e, if_neg e]
          exact h2 k hk
      · rw [upA_ne (by omega), upA_ne (by omega)]; exact h3
      · rw [upA_ne (by omega), upA_ne (by omega), upA_ne (by omega), upA_ne (by omega)]; exact h5
    · show unm1 (5 * v + 1, W.2.1 v) (unm1 (5 * v + 2, W.2.2.1 v) (unm1 (5 * bf + 3, W.2.2.2.1 bf) _)) = W
      rw [unm1_3, unm1_2, unm1_1]
      dsimp only
      rw [gup_gup, gup_gup, gup_self rfl, gup_self rfl, gup_self rfl]
    · rcases List.mem_cons.mp hx with rfl | hx
      · exact Or.inr ⟨fun z => by dsimp only at z; omega, fun _ => by dsimp only; omega, fun z => by dsimp only at z; omega⟩
      · rcases List.mem_cons.mp hx with rfl | hx
        · exact Or.inr ⟨fun _ => by dsimp only; omega, fun z => by dsimp only at z; omega, fun z => by dsimp only at z; omega⟩
        · rcases List.mem_cons.mp hx with rfl | hx
          · exact Or.inr ⟨fun _ => by dsimp only; omega, fun z => by dsimp only at z; omega, fun z => by dsimp only at z; omega⟩
          · exact Or.inl hx
def EVm (t : List Em) (nv ns na : Nat) : Prop := ∀ e, e ∈ t → EVm1 nv ns na e
theorem EVm.mono {t : List Em} {nv ns na nv' ns' na' : Nat} (h : EVm t nv ns na) (h1 : nv ≤ nv') (h2 : ns ≤ ns') (h3 : na ≤ na') : EVm t nv' ns' na' := by
  intro e he
  obtain ⟨a, b, c⟩ := h e he
  exact ⟨fun q => by have := a q; omega, fun q => by have := b q; omega, fun q => by have := c q; omega⟩
set_option maxHeartbeats 2000000 in
theorem undoL_ok : ∀ (es t : List Em) (n : Nat) (σ : qC) (W : Wm) (nv ns na : Nat), MW σ W (es ++ t) nv ns na → EVm (es ++ t) nv ns na → es.length < n →
    ∃ σ', m_undo_152_l0 n (Int32.ofInt t.length) σ = some σ' ∧ MW σ' (unmL es W) t nv ns na ∧ (∀ k, k ≠ 75 → k ≠ 76 → k ≠ 77 → k ≠ 86 → k ≠ 89 → σ'.2 k = σ.2 k) ∧ (∀ j, j ≠ 6432 → σ'.1 j = σ.1 j) := by
  intro es
  induction es with
  | nil =>
    intro t n σ W nv ns na h hE hn
    cases n with
    | zero => simp at hn
    | succ n =>
      have h6 := h.2.2.2.2.2
      rw [List.nil_append] at h h6
      unfold m_undo_152_l0
      rw [h.2.2.2.1.2.2.2, if_pos (zleP (by omega) (by omega) (by omega) (by omega) (by omega))]
      exact ⟨σ, rfl, h, fun _ _ _ _ _ _ => rfl, fun _ _ => rfl⟩
  | cons e es ih =>
    intro t n σ W nv ns na h hE hn
    cases n with
    | zero => simp at hn
    | succ n =>
      rw [List.length_cons] at hn
      rw [List.cons_append] at h hE
      obtain ⟨h1, h2, h3, ⟨k1, k2, k3, k4⟩, ⟨t1, t2, t3, t4⟩, h6⟩ := h
      rw [List.length_cons, List.length_append] at h6
      obtain ⟨w, o⟩ := e
      obtain ⟨v1, v2, v3⟩ := hE (w, o) List.mem_cons_self
      dsimp only at t1 t2 t3 v1 v2 v3
      have hlen : (((w, o) :: (es ++ t)).length : Int) = es.length + t.length + 1 := by
        rw [List.length_cons, List.length_append]
        omega
      have hl2 : (es ++ t).length = es.length + t.length := List.length_append
      unfold m_undo_152_l0
      rw [k4, if_neg (zleN (by omega) (by omega) (by omega) (by omega) (by omega)), zsub]
      dsimp only [qlet]
      rw [upS_1, if_pos rfl, agetI (i := (es ++ t).length) (by omega) (by omega) (by omega), Option.bind_some, Option.bind_some, agetI (i := (es ++ t).length) (by omega) (by omega) (by omega), Option.bind_some]
      rw [show (upS σ 6432 (Int32.ofInt (((w, o) :: (es ++ t)).length - 1))).2 = σ.2 from rfl, t1, t2, zdiv (by omega) (by omega) (by omega) (by omega), zmul, zsub]
      obtain ⟨σ1, hσ1⟩ : ∃ σ1, σ1 = upS σ 6432 (Int32.ofInt (((w, o) :: (es ++ t)).length - 1)) := ⟨_, rfl⟩
      rw [← hσ1]
      have s12 : σ1.2 = σ.2 := by rw [hσ1]; rfl
      have s11 : ∀ j, j ≠ 6432 → σ1.1 j = σ.1 j := fun j hj => by rw [hσ1, upS_1, if_neg hj]
      have s1t : σ1.1 6432 = Int32.ofInt (es ++ t).length := by
        rw [hσ1, upS_1, if_pos rfl]
        congr 1
        omega
      have hsc : ∀ σ2 : qC, σ2.1 = σ1.1 → (σ2.1 6426 = Int32.ofInt nv ∧ σ2.1 6434 = Int32.ofInt ns ∧ σ2.1 6435 = Int32.ofInt na ∧ σ2.1 6432 = Int32.ofInt (es ++ t).length) := fun σ2 hz => by
        rw [hz]
        exact ⟨by rw [s11 _ (by omega), k1], by rw [s11 _ (by omega), k2], by rw [s11 _ (by omega), k3], s1t⟩
      have hE' : EVm (es ++ t) nv ns na := fun e' he' => hE e' (List.mem_cons_of_mem _ he')
      have hrow : ∀ r : Nat, w % 5 = r → ((w : Int) - (w : Int) / 5 * 5) = r := fun r hr => by omega
      have hdiv : ((w : Int) / 5) = ((w / 5 : Nat) : Int) := by omega
      rw [hdiv]
      -- what is left when the memory is right again
      have go : ∀ (σ2 : qC), MW σ2 (unm1 (w, o) W) (es ++ t) nv ns na → (∀ k, k ≠ 75 → k ≠ 76 → k ≠ 77 → k ≠ 86 → k ≠ 89 → σ2.2 k = σ.2 k) → (∀ j, j ≠ 6432 → σ2.1 j = σ.1 j) → ∃ σ', m_undo_152_l0 n (Int32.ofInt t.length) σ2 = some σ' ∧ MW σ' (unmL ((w, o) :: es) W) t nv ns na ∧ (∀ k, k ≠ 75 → k ≠ 76 → k ≠ 77 → k ≠ 86 → k ≠ 89 → σ'.2 k = σ.2 k) ∧ (∀ j, j ≠ 6432 → σ'.1 j = σ.1 j) := by
        intro σ2 z1 z2 z3
        obtain ⟨σ', p1, p2, p3, p4⟩ := ih t n σ2 _ nv ns na z1 hE' (by omega)
        exact ⟨σ', p1, p2, fun k a b c d e => by rw [p3 k a b c d e, z2 k a b c d e], fun j hj => by rw [p4 j hj, z3 j hj]⟩
      unfold m_undo_152_j65 m_undo_152_j78 m_undo_152_j91 m_undo_152_j104
      rcases (by omega : w % 5 = 0 ∨ w % 5 = 1 ∨ w % 5 = 2 ∨ w % 5 = 3 ∨ w % 5 = 4) with hr | hr | hr | hr | hr
      · have e0 := hrow 0 hr
        rw [hdiv] at e0
        rw [e0, if_pos (by rfl), aputI (i := w / 5) rfl (by omega) (by omega), Option.bind_some, if_neg (by decide), if_neg (by decide), if_neg (by decide), if_neg (by decide)]
        refine go _ ⟨fun v hv => ?_, ?_, ?_, hsc _ rfl, ?_, by omega⟩ (fun k a _ _ _ _ => by rw [upA_ne a, s12]) (fun j hj => s11 j hj)
        · unfold unm1
          rw [if_pos hr, upA_eq, upA_ne (by omega), upA_ne (by omega), s12]
          dsimp only
          rw [fup_at, gup_at]
          refine ⟨?_, (h1 v hv).2⟩
          by_cases e : v = w / 5
          · rw [if_pos e, if_pos e]
          · rw [if_neg e, if_neg e]; exact (h1 v hv).1
        · unfold unm1
          rw [if_pos hr, upA_ne (by omega), s12]; exact h2
        · unfold unm1
          rw [if_pos hr, upA_ne (by omega), s12]; exact h3
        · rw [upA_ne (by omega), upA_ne (by omega), s12]; exact t4
      · have e0 := hrow 1 hr
        rw [hdiv] at e0
        rw [e0, if_neg (by decide), if_pos (by rfl), aputI (i := w / 5) rfl (by omega) (by omega), Option.bind_some, if_neg (by decide), if_neg (by decide), if_neg (by decide)]
        have eu : unm1 (w, o) W = (W.1, gup W.2.1 (w / 5) o, W.2.2) := by unfold unm1; rw [if_neg (by dsimp only; omega), if_pos hr]
        refine go _ ⟨fun v hv => ?_, ?_, ?_, hsc _ rfl, ?_, by omega⟩ (fun k _ a _ _ _ => by rw [upA_ne a, s12]) (fun j hj => s11 j hj)
        · rw [eu, upA_ne (by omega), upA_eq, upA_ne (by omega), s12]
          dsimp only
          rw [fup_at, gup_at]
          refine ⟨(h1 v hv).1, ?_, (h1 v hv).2.2⟩
          by_cases e : v = w / 5
          · rw [if_pos e, if_pos e]
          · rw [if_neg e, if_neg e]; exact (h1 v hv).2.1
        · rw [eu, upA_ne (by omega), s12]; exact h2
        · rw [eu, upA_ne (by omega), s12]; exact h3
        · rw [upA_ne (by omega), upA_ne (by omega), s12]; exact t4
      · have e0 := hrow 2 hr
        rw [hdiv] at e0
        rw [e0, if_neg (by decide), if_neg (by decide), if_pos (by rfl), aputI (i := w / 5) rfl (by omega) (by omega), Option.bind_some, if_neg (by decide), if_neg (by decide)]
        have eu : unm1 (w, o) W = (W.1, W.2.1, gup W.2.2.1 (w / 5) o, W.2.2.2) := by unfold unm1; rw [if_neg (by dsimp only; omega), if_neg (by dsimp only; omega), if_pos hr]
        refine go _ ⟨fun v hv => ?_, ?_, ?_, hsc _ rfl, ?_, by omega⟩ (fun k _ _ a _ _ => by rw [upA_ne a, s12]) (fun j hj => s11 j hj)
        · rw [eu, upA_ne (by omega), upA_ne (by omega), upA_eq, s12]
          dsimp only
          rw [fup_at, gup_at]
          refine ⟨(h1 v hv).1, (h1 v hv).2.1, ?_⟩
          by_cases e : v = w / 5
          · rw [if_pos e, if_pos e]
          · rw [if_neg e, if_neg e]; exact (h1 v hv).2.2
        · rw [eu, upA_ne (by omega), s12]; exact h2
        · rw [eu, upA_ne (by omega), s12]; exact h3
        · rw [upA_ne (by omega), upA_ne (by omega), s12]; exact t4
      · have e0 := hrow 3 hr
        rw [hdiv] at e0
        rw [e0, if_neg (by decide), if_neg (by decide), if_neg (by decide), if_pos (by rfl), aputI (i := w / 5) rfl (by omega) (by omega), Option.bind_some, if_neg (by decide)]
        have eu : unm1 (w, o) W = (W.1, W.2.1, W.2.2.1, gup W.2.2.2.1 (w / 5) o, W.2.2.2.2) := by unfold unm1; rw [if_neg (by dsimp only; omega), if_neg (by dsimp only; omega), if_neg (by dsimp only; omega), if_pos hr]
        refine go _ ⟨fun v hv => ?_, fun k hk => ?_, ?_, hsc _ rfl, ?_, by omega⟩ (fun k _ _ _ a _ => by rw [upA_ne a, s12]) (fun j hj => s11 j hj)
        · rw [eu, upA_ne (by omega), upA_ne (by omega), upA_ne (by omega), s12]; exact h1 v hv
        · rw [eu, upA_eq, s12]
          dsimp only
          rw [fup_at, gup_at]
          by_cases e : k = w / 5
          · rw [if_pos e, if_pos e]
          · rw [if_neg e, if_neg e]; exact h2 k hk
        · rw [eu, upA_ne (by omega), s12]; exact h3
        · rw [upA_ne (by omega), upA_ne (by omega), s12]; exact t4
      · have e0 := hrow 4 hr
        rw [hdiv] at e0
        rw [e0, if_neg (by decide), if_neg (by decide), if_neg (by decide), if_neg (by decide), if_pos (by rfl), aputI (i := w / 5) rfl (by omega) (by omega), Option.bind_some]
        have eu : unm1 (w, o) W = (W.1, W.2.1, W.2.2.1, W.2.2.2.1, gup W.2.2.2.2 (w / 5) o) := by unfold unm1; rw [if_neg (by dsimp only; omega), if_neg (by dsimp only; omega), if_neg (by dsimp only; omega), if_neg (by dsimp only; omega)]
        refine go _ ⟨fun v hv => ?_, ?_, fun k hk => ?_, hsc _ rfl, ?_, by omega⟩ (fun k _ _ _ _ a => by rw [upA_ne a, s12]) (fun j hj => s11 j hj)
        · rw [eu, upA_ne (by omega), upA_ne (by omega), upA_ne (by omega), s12]; exact h1 v hv
        · rw [eu, upA_ne (by omega), s12]; exact h2
        · rw [eu, upA_eq, s12]
          dsimp only
          rw [fup_at, gup_at]
          by_cases e : k = w / 5
          · rw [if_pos e, if_pos e]
          · rw [if_neg e, if_neg e]; exact h3 k hk
        · rw [upA_ne (by omega), upA_ne (by omega), s12]; exact t4
