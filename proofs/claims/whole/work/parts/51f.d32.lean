/-! D32: the reference makes same -/
set_option maxHeartbeats 1000000 in
theorem mbindT {σ : qC} {stir : Bool} {nv nc ns na v s : Nat} {a x : Int} {T : Tr} {W : Wm} {t : List Em} {u : Us} {hs : List Int} {K : qC → Option (Int32 × qC)} (h : MU σ stir nv nc ns na W t u s hs) (hS : stir = true → SlOK nv ns u) (ha : a = v) (hT : MTx (σ.2 72) (σ.2 73) (σ.2 74) nv nc x T) (hl : ¬ lab T < 0) (hv : v < nv) (uv : u.1 v = none) (ht : t.length + 4 ≤ 5000) (hw : hs.length + 1 ≤ s) :
    ∃ σ' W' t' hs', (m_tie_159 (Int32.ofInt a) (Int32.ofInt x) σ).bind (fun p => if p.1 6440 = 0 then (aget (p.2 76) 13000 (Int32.ofInt a)).bind (fun x6 => if 0 ≤ x6 then (aget (p.2 76) 13000 (Int32.ofInt a)).bind (fun x9 => (aput p 92 600 (p.1 6437) x9).bind (fun σ11 => qlet (upS σ11 6437 ((σ11.1 6437) + (Int32.ofInt 1))) (fun σ13 => K σ13))) else K p) else K p) = K σ' ∧ MU σ' stir nv nc ns na W' t' (if stir = true then uWake (uBind u v T) v else uBind u v T) s hs' ∧ hs'.length ≤ hs.length + 1 ∧ σ'.1 6439 = Int32.ofInt 1 ∧ Undm W t W' t' ∧ t.length ≤ t'.length ∧ t'.length ≤ t.length + 4 ∧ W'.2.2.2.2 = W.2.2.2.2 ∧ (∀ k, k ≠ 75 → k ≠ 76 → k ≠ 77 → k ≠ 86 → k ≠ 83 → k ≠ 84 → k ≠ 92 → σ'.2 k = σ.2 k) ∧ (∀ j, j ≠ 6432 → j ≠ 6439 → j ≠ 6437 → σ'.1 j = σ.1 j) := by
  subst ha
  obtain ⟨m1, m2, m3, m4, ⟨m5, m6, m7⟩, m8, m9, m10, m11, m12⟩ := h
  have h6 := m1.2.2.2.2.2
  obtain ⟨σ1, q1, q2, q3, q4, q5, q6⟩ := tie_ok (v := v) (a := (v : Int)) (x := x) m1 rfl hv (m2.nn uv) (by omega)
  rw [q1, Option.bind_some, q6 6440 (by omega) (by omega), m7]
  have hWU1 : WUm σ1 nv nc (gup W.1 v x, W.2) (uBind u v T) := (m2.bind hv hT).congr (Nat.le_refl _) (Nat.le_refl _) (fun i _ => by rw [q5 72 (by omega) (by omega) (by omega)]) (fun i _ => by rw [q5 73 (by omega) (by omega) (by omega)]) (fun i _ => by rw [q5 74 (by omega) (by omega) (by omega)])
  have hEV1 : EVm ((5 * v, 2147483647) :: t) nv ns na := by
    intro y hy
    rcases List.mem_cons.mp hy with rfl | hy
    · exact ⟨fun _ => by dsimp only; omega, fun z => by dsimp only at z; omega, fun z => by dsimp only at z; omega⟩
    · exact m3 y hy
  have hbo : bOrd nv (uBind u v T).1 := m4.bind (fun z => absurd z hl)
  cases stir with
  | false =>
    rw [if_neg (by decide), if_neg (by simp)]
    exact ⟨σ1, _, _, hs, rfl, ⟨q2, hWU1, hEV1, hbo, ⟨by rw [q6 _ (by omega) (by omega), m5], by rw [q6 _ (by omega) (by omega), m6], by rw [q6 _ (by omega) (by omega), m7]⟩, by rw [q5 92 (by omega) (by omega) (by omega)]; exact m8, (fun z => by cases z), m10, m11, m12⟩, by omega, q4, q3, by rw [List.length_cons]; omega, by rw [List.length_cons]; omega, rfl, fun k a _ _ _ b c _ => q5 k b c a, fun j a b _ => q6 j a b⟩
  | true =>
    rw [if_pos (by rfl), if_pos rfl]
    have hSl := hS rfl
    have tv := hSl.tail uv
    obtain ⟨ls, l1, l2, l3⟩ := m9 rfl
    rw [agetI (i := v) rfl (by omega) (by omega), Option.bind_some, (q2.1 v hv).2.1]
    dsimp only
    rw [m2.2.1]
    by_cases k0 : u.2.1 v < 0
    · have e0 : u.2.2.2.2.1 v = [] := by
        rcases tv with ⟨-, -, e⟩ | ⟨-, -, e, -⟩
        · exact e
        · omega
      rw [z0, if_neg (zleN (by omega) (by omega) (by omega) (by omega) (by omega))]
      refine ⟨σ1, _, _, hs, rfl, ⟨q2, ⟨hWU1.1, hWU1.2⟩, hEV1, hbo, ⟨by rw [q6 _ (by omega) (by omega), m5], by rw [q6 _ (by omega) (by omega), m6], by rw [q6 _ (by omega) (by omega), m7]⟩, by rw [q5 92 (by omega) (by omega) (by omega)]; exact m8, fun _ => ⟨ls, ?_, l2, l3⟩, m10, m11, m12⟩, by omega, q4, q3, by rw [List.length_cons]; omega, by rw [List.length_cons]; omega, rfl, fun k a _ _ _ b c _ => q5 k b c a, fun j a b _ => q6 j a b⟩
      dsimp only [uWake, uBind]
      rw [e0, List.append_nil]
      exact l1
    · have hne : u.2.2.2.2.1 v ≠ [] := by
        rcases tv with ⟨-, e, -⟩ | ⟨-, -, -, -, -, e, -⟩
        · omega
        · exact e
      have hch := (hSl.1 v uv).1
      have hhd := chn_hd hch
      rw [z0, if_pos (zleP (by omega) (by omega) (by omega) (by omega) (by omega)), Option.bind_some, q6 6437 (by omega) (by omega), m6, aputI (i := hs.length) rfl (by omega) (by omega), Option.bind_some]
      dsimp only [qlet]
      rw [upA_1, q6 6437 (by omega) (by omega), m6, zadd]
      refine ⟨_, _, _, hs ++ [u.2.1 v], rfl, ⟨?_, ?_, hEV1, hbo, ⟨by rw [upS_1, if_neg (by omega), upA_1, q6 _ (by omega) (by omega), m5], by rw [upS_1, if_pos rfl, List.length_append]; rfl, by rw [upS_1, if_neg (by omega), upA_1, q6 _ (by omega) (by omega), m7]⟩, ?_, fun _ => ⟨ls ++ [u.2.2.2.2.1 v], ?_, ?_, ?_⟩, by rw [List.length_append, List.length_singleton]; omega, m11, m12⟩, by rw [List.length_append, List.length_singleton]; omega, by rw [upS_1, if_neg (by omega), upA_1, q4], q3, by rw [List.length_cons]; omega, by rw [List.length_cons]; omega, rfl, fun k a _ _ _ b c d => by rw [upS_2, upA_ne d, q5 k b c a], fun j a b c => by rw [upS_1, if_neg c, upA_1, q6 j a b]⟩
      · exact q2.congr (fun k hk => by rw [upS_2, upA_ne (by omega)]) (fun j hj => by rw [upS_1, if_neg (by omega), upA_1])
      · exact WUm.congr (σ := σ1) ⟨hWU1.1, hWU1.2⟩ (Nat.le_refl _) (Nat.le_refl _) (fun i _ => by rw [upS_2, upA_ne (by omega)]) (fun i _ => by rw [upS_2, upA_ne (by omega)]) (fun i _ => by rw [upS_2, upA_ne (by omega)])
      · intro i hi
        rw [List.length_append, List.length_singleton] at hi
        rw [upS_2, upA_eq, fup_at]
        by_cases e : i = hs.length
        · subst e
          rw [if_pos rfl, List.getElem_append_right (Nat.le_refl _)]
          simp
        · rw [if_neg e, List.getElem_append_left (by omega), q5 92 (by omega) (by omega) (by omega)]
          exact m8 i (by omega)
      · dsimp only [uWake, uBind]
        rw [l1, List.flatten_append, List.flatten_singleton]
      · rw [l2, List.map_append, List.map_singleton, hhd]
      · intro l hl'
        rcases List.mem_append.mp hl' with z | z
        · exact l3 l z
        · simp at z
          rw [z]
          refine ⟨hne, ?_⟩
          rw [← hhd]
          exact hch
/-- a step of the reference -/
theorem step_ok {σ : qC} {s : Nat} (hs : s < 500) (h1 : σ.1 6430 = Int32.ofInt s) (h2 : σ.1 6411 = Int32.ofInt 0) : m_step_157 σ = some (Int32.ofInt 1, upS σ 6430 (Int32.ofInt (s + 1 : Nat))) := by
  unfold m_step_157
  rw [h1, if_neg (zeqN (by omega) (by omega) (by omega) (by omega) (by omega)), zadd]
  dsimp only [qlet]
  have e : (upS σ 6430 (Int32.ofInt ((s : Int) + 1))).1 6411 = Int32.ofInt 0 := by rw [upS_1, if_neg (by omega), h2]
  rw [e]
  exact if_pos rfl
theorem step_end {σ : qC} (h1 : σ.1 6430 = Int32.ofInt 500) : m_step_157 σ = some (Int32.ofInt 0, upS σ 6411 (Int32.ofInt 3)) := by
  unfold m_step_157
  rw [h1, if_pos rfl]
  dsimp only [qlet]
  have e : (upS σ 6411 (Int32.ofInt 3)).1 6411 = Int32.ofInt 3 := by rw [upS_1, if_pos rfl]
  rw [e]
  exact if_neg (by decide)
theorem MU.congr {σ σ' : qC} {stir : Bool} {nv nc ns na s s' : Nat} {W : Wm} {t : List Em} {u : Us} {hs : List Int} (h : MU σ stir nv nc ns na W t u s hs) (h2 : ∀ k, k ≠ 90 → k ≠ 91 → σ'.2 k = σ.2 k) (h1 : ∀ j, j ≠ 6436 → j ≠ 6430 → j ≠ 6411 → σ'.1 j = σ.1 j) (h3 : σ'.1 6430 = Int32.ofInt s') (hs' : s ≤ s') (hs5 : s' ≤ 500) : MU σ' stir nv nc ns na W t u s' hs := by
  obtain ⟨m1, m2, m3, m4, ⟨m5, m6, m7⟩, m8, m9, m10, m11, m12⟩ := h
  exact ⟨m1.congr (fun k hk => h2 k (by omega) (by omega)) (fun j hj => h1 j (by omega) (by omega) (by omega)), m2.congr (Nat.le_refl _) (Nat.le_refl _) (fun i _ => by rw [h2 72 (by omega) (by omega)]) (fun i _ => by rw [h2 73 (by omega) (by omega)]) (fun i _ => by rw [h2 74 (by omega) (by omega)]), m3, m4, ⟨h3, by rw [h1 _ (by omega) (by omega) (by omega), m6], by rw [h1 _ (by omega) (by omega) (by omega), m7]⟩, by rw [h2 92 (by omega) (by omega)]; exact m8, m9, by omega, m11, hs5⟩
