/-! D36: the reference in the search -/
def RTM (σ : qC) (nv nc ng : Nat) : List Go → Int → Prop
  | [], g => g = -1
  | q :: r, g => ∃ (gi : Nat) (x y g' : Int), g = gi ∧ gi < ng ∧ (σ.2 78 gi = Int32.ofInt q.1 ∧ q.1 ≤ 5 ∧ σ.2 79 gi = Int32.ofInt x ∧ σ.2 80 gi = Int32.ofInt y ∧ σ.2 81 gi = Int32.ofInt q.2.2.2 ∧ q.2.2.2 ≤ 20000 ∧ σ.2 82 gi = Int32.ofInt g') ∧ (-1 ≤ g' ∧ g' < ng) ∧ (q.1 ≠ 0 → MTx (σ.2 72) (σ.2 73) (σ.2 74) nv nc x q.2.1) ∧ (2 ≤ q.1 → MTx (σ.2 72) (σ.2 73) (σ.2 74) nv nc y q.2.2.1) ∧ RTM σ nv nc ng r g'
theorem RTM.mono {σ σ' : qC} {nv nc ng nv' nc' ng' : Nat} (h1 : nv ≤ nv') (h2 : nc ≤ nc') (h3 : ng ≤ ng') (hG : ∀ i, i < nc → σ'.2 72 i = σ.2 72 i) (hC : ∀ i, i < nc → σ'.2 73 i = σ.2 73 i) (hA : ∀ i, i < 3 * nc → σ'.2 74 i = σ.2 74 i) (hg : ∀ i, i < ng → σ'.2 78 i = σ.2 78 i ∧ σ'.2 79 i = σ.2 79 i ∧ σ'.2 80 i = σ.2 80 i ∧ σ'.2 81 i = σ.2 81 i ∧ σ'.2 82 i = σ.2 82 i) : ∀ {l : List Go} {g : Int}, RTM σ nv nc ng l g → RTM σ' nv' nc' ng' l g
  | [], _, h => h
  | q :: r, g, h => by
    obtain ⟨gi, x, y, g', a1, a2, ⟨b1, b2, b3, b4, b5, b6, b7⟩, a4, a5, a6, a7⟩ := h
    obtain ⟨e1, e2, e3, e4, e5⟩ := hg gi a2
    exact ⟨gi, x, y, g', a1, by omega, ⟨by rw [e1, b1], b2, by rw [e2, b3], by rw [e3, b4], by rw [e4, b5], b6, by rw [e5, b7]⟩, by omega, fun z => (a5 z).mono h1 h2 hG hC hA, fun z => (a6 z).mono h1 h2 hG hC hA, RTM.mono h1 h2 h3 hG hC hA hg a7⟩
theorem RTM.lt {σ : qC} {nv nc ng : Nat} {l : List Go} {g : Int} (h : RTM σ nv nc ng l g) : -1 ≤ g ∧ g < ng := by
  cases l with
  | nil =>
    have : g = -1 := h
    omega
  | cons q r =>
    obtain ⟨gi, x, y, g', a1, a2, -⟩ := h
    omega
/-- a goal is made -/
theorem goal_ok {σ : qC} {ng : Nat} {a1 a2 a3 a4 a5 : Int32} (h : σ.1 6428 = Int32.ofInt ng) (hn : ng < 14000) :
    ∃ σ', m_goal_144 a1 a2 a3 a4 a5 σ = some (Int32.ofInt ng, σ') ∧ σ'.1 6428 = Int32.ofInt (ng + 1 : Nat) ∧ (σ'.2 78 ng = a1 ∧ σ'.2 79 ng = a2 ∧ σ'.2 80 ng = a3 ∧ σ'.2 81 ng = a4 ∧ σ'.2 82 ng = a5) ∧ (∀ i, i < ng → σ'.2 78 i = σ.2 78 i ∧ σ'.2 79 i = σ.2 79 i ∧ σ'.2 80 i = σ.2 80 i ∧ σ'.2 81 i = σ.2 81 i ∧ σ'.2 82 i = σ.2 82 i) ∧ (∀ k, k < 78 ∨ 82 < k → σ'.2 k = σ.2 k) ∧ (∀ j, j ≠ 6428 → σ'.1 j = σ.1 j) := by
  unfold m_goal_144
  rw [h, aputI (i := ng) rfl hn (by omega), Option.bind_some, upA_1, h, aputI (i := ng) rfl hn (by omega), Option.bind_some, upA_1, upA_1, h, aputI (i := ng) rfl hn (by omega), Option.bind_some, upA_1, upA_1, upA_1, h, aputI (i := ng) rfl hn (by omega), Option.bind_some, upA_1, upA_1, upA_1, upA_1, h, aputI (i := ng) rfl hn (by omega), Option.bind_some]
  dsimp only [qlet]
  rw [upA_1, upA_1, upA_1, upA_1, upA_1, h, zadd]
  obtain ⟨σ', hσ'⟩ : ∃ σ', σ' = upS (upA (upA (upA (upA (upA σ 78 ng a1) 79 ng a2) 80 ng a3) 81 ng a4) 82 ng a5) 6428 (Int32.ofInt ((ng : Int) + 1)) := ⟨_, rfl⟩
  rw [← hσ']
  have e28 : σ'.1 6428 = Int32.ofInt ((ng + 1 : Nat) : Int) := by rw [hσ', upS_1, if_pos rfl]; rfl
  have eA : ∀ k i, σ'.2 k i = if k = 82 ∧ i = ng then a5 else if k = 81 ∧ i = ng then a4 else if k = 80 ∧ i = ng then a3 else if k = 79 ∧ i = ng then a2 else if k = 78 ∧ i = ng then a1 else σ.2 k i := fun k i => by rw [hσ', upS_2, upA_at, upA_at, upA_at, upA_at, upA_at]
  refine ⟨σ', ?_, e28, ⟨?_, ?_, ?_, ?_, ?_⟩, fun i hi => ⟨?_, ?_, ?_, ?_, ?_⟩, fun k hk => ?_, fun j hj => by rw [hσ', upS_1, if_neg hj]; rfl⟩
  · rw [e28, zsub]
    have : ((ng + 1 : Nat) : Int) - 1 = ng := by omega
    rw [this]
  · rw [eA]; simp
  · rw [eA]; simp
  · rw [eA]; simp
  · rw [eA]; simp
  · rw [eA]; simp
  · rw [eA, if_neg (by omega), if_neg (by omega), if_neg (by omega), if_neg (by omega), if_neg (by omega)]
  · rw [eA, if_neg (by omega), if_neg (by omega), if_neg (by omega), if_neg (by omega), if_neg (by omega)]
  · rw [eA, if_neg (by omega), if_neg (by omega), if_neg (by omega), if_neg (by omega), if_neg (by omega)]
  · rw [eA, if_neg (by omega), if_neg (by omega), if_neg (by omega), if_neg (by omega), if_neg (by omega)]
  · rw [eA, if_neg (by omega), if_neg (by omega), if_neg (by omega), if_neg (by omega), if_neg (by omega)]
  · funext i
    rw [eA, if_neg (by omega), if_neg (by omega), if_neg (by omega), if_neg (by omega), if_neg (by omega)]
/-- those that woke are put in front -/
theorem frontM_ok {nv nc : Nat} {sg : Nat → Tr} {wk : List Nat} : ∀ (k n ng : Nat) (g : Int) (td : List Go) (σ : qC), RTM σ nv nc ng td g → σ.1 6428 = Int32.ofInt ng → ng + k < 14000 → (∀ i (h : i < k) (h2 : i < wk.length), ∃ x : Int, σ.2 93 i = Int32.ofInt x ∧ MTx (σ.2 72) (σ.2 73) (σ.2 74) nv nc x (sg wk[i])) → k ≤ wk.length → k ≤ 1200 → k < n →
    ∃ σ' g', m_unify_155_l163 n (Int32.ofInt g) (Int32.ofInt ((k : Int) - 1)) σ = some (Int32.ofInt 1, σ') ∧ RTM σ' nv nc (ng + k) ((wk.take k).map (fun e => ((1, sg e, sg e, 0) : Go)) ++ td) g' ∧ σ'.1 6429 = Int32.ofInt g' ∧ σ'.1 6428 = Int32.ofInt (ng + k : Nat) ∧ (∀ i, i < ng → σ'.2 78 i = σ.2 78 i ∧ σ'.2 79 i = σ.2 79 i ∧ σ'.2 80 i = σ.2 80 i ∧ σ'.2 81 i = σ.2 81 i ∧ σ'.2 82 i = σ.2 82 i) ∧ (∀ j, j < 78 ∨ 82 < j → σ'.2 j = σ.2 j) ∧ (∀ j, j ≠ 6428 → j ≠ 6429 → σ'.1 j = σ.1 j) := by
  intro k
  induction k with
  | zero =>
    intro n ng g td σ hT hN hng ho hk hk2 hn
    cases n with
    | zero => omega
    | succ n =>
      unfold m_unify_155_l163
      rw [z0, if_pos (zltP (by omega) (by omega) (by omega) (by omega) (by omega))]
      dsimp only [qlet]
      refine ⟨_, g, rfl, ?_, by rw [upS_1, if_pos rfl], by rw [upS_1, if_neg (by omega)]; exact hN, fun _ _ => ⟨rfl, rfl, rfl, rfl, rfl⟩, fun _ _ => rfl, fun j _ h => by rw [upS_1, if_neg h]⟩
      rw [List.take_zero, List.map_nil, List.nil_append, Nat.add_zero]
      exact RTM.mono (σ := σ) (σ' := upS σ 6429 (Int32.ofInt g)) (nv := nv) (nc := nc) (ng := ng) (Nat.le_refl _) (Nat.le_refl _) (Nat.le_refl _) (fun _ _ => rfl) (fun _ _ => rfl) (fun _ _ => rfl) (fun _ _ => ⟨rfl, rfl, rfl, rfl, rfl⟩) hT
  | succ k ih =>
    intro n ng g td σ hT hN hng ho hk hk2 hn
    cases n with
    | zero => omega
    | succ n =>
      obtain ⟨x, x1, x2⟩ := ho k (by omega) (by omega)
      have hl := hT.lt
      unfold m_unify_155_l163
      rw [z0, if_neg (zltN (by omega) (by omega) (by omega) (by omega) (by omega)), show ((k + 1 : Nat) : Int) - 1 = (k : Nat) by omega, agetI (i := k) rfl (by omega) (by omega), Option.bind_some, x1]
      obtain ⟨σ1, q1, q2, ⟨q3, q4, q5, q6, q7⟩, q8, q9, q10⟩ := goal_ok (a1 := Int32.ofInt 1) (a2 := Int32.ofInt x) (a3 := Int32.ofInt 0) (a4 := Int32.ofInt 0) (a5 := Int32.ofInt g) hN (by omega)
      rw [q1, Option.bind_some, zadd]
      dsimp only
      have h72 := q9 72 (by omega)
      have h73 := q9 73 (by omega)
      have h74 := q9 74 (by omega)
      have hT1 : RTM σ1 nv nc (ng + 1) ((1, sg wk[k], sg wk[k], 0) :: td) ng := ⟨ng, x, 0, g, rfl, by omega, ⟨q3, by dsimp only; omega, q4, q5, q6, by dsimp only; omega, q7⟩, by omega, fun _ => by rw [h72, h73, h74]; exact x2, fun z => by dsimp only at z; omega, hT.mono (Nat.le_refl _) (Nat.le_refl _) (by omega) (fun _ _ => by rw [h72]) (fun _ _ => by rw [h73]) (fun _ _ => by rw [h74]) q8⟩
      obtain ⟨σ', g', p1, p2, p3, p4, p5, p6, p7⟩ := ih n (ng + 1) ng _ σ1 hT1 q2 (by omega) (fun i h h2 => by
        obtain ⟨y, y1, y2⟩ := ho i (by omega) h2
        exact ⟨y, by rw [q9 93 (by omega), y1], by rw [h72, h73, h74]; exact y2⟩) (by omega) (by omega) (by omega)
      refine ⟨σ', g', ?_, ?_, p3, by rw [p4]; congr 1; omega, fun i hi => ?_, fun j hj => by rw [p6 j hj, q9 j hj], fun j a b => by rw [p7 j a b, q10 j a]⟩
      · rw [← p1]
        rfl
      · rw [List.take_succ_eq_append_getElem (by omega), List.map_append, List.append_assoc, show ng + (k + 1) = ng + 1 + k by omega]
        exact p2
      · obtain ⟨z1, z2, z3, z4, z5⟩ := p5 i (by omega)
        obtain ⟨w1, w2, w3, w4, w5⟩ := q8 i hi
        exact ⟨by rw [z1, w1], by rw [z2, w2], by rw [z3, w3], by rw [z4, w4], by rw [z5, w5]⟩
