/-! D7: the sleepers stay in order -/
theorem nodup_len : ∀ (n : Nat) {l : List Nat}, l.Nodup → (∀ e, e ∈ l → e < n) → l.length ≤ n
  | 0, l, _, h => by
    cases l with
    | nil => simp
    | cons e l => exact absurd (h e List.mem_cons_self) (by omega)
  | n + 1, l, hn, h => by
    have h1 : (l.filter (fun e => decide (e ≠ n))).length ≤ n := by
      refine nodup_len n (hn.filter _) (fun e he => ?_)
      have := List.mem_filter.mp he
      have h2 := h e this.1
      have h3 : e ≠ n := by simpa using this.2
      omega
    have h4 : l.length ≤ (l.filter (fun e => decide (e ≠ n))).length + 1 := by
      clear h h1
      induction l with
      | nil => simp
      | cons a l ih =>
        rw [List.nodup_cons] at hn
        rw [List.filter_cons]
        by_cases ha : a = n
        · have e1 : l.filter (fun e => decide (e ≠ n)) = l := by
            rw [List.filter_eq_self]
            intro x hx
            simp only [decide_eq_true_eq]
            exact fun z => hn.1 (by rw [ha, ← z]; exact hx)
          rw [if_neg (by simp [ha]), e1]
          simp
        · rw [if_pos (by simp [ha])]
          have := ih hn.2
          simp only [List.length_cons]
          omega
    omega
theorem chn_nil {nx : Nat → Int} {h : Int} {l : List Nat} (hc : chn nx h l) (hh : h < 0) : l = [] := by
  cases l with
  | nil => rfl
  | cons e l =>
    have := hc.1
    omega
theorem lstI_nil {l : List Nat} (h : lstI l < 0) : l = [] := by
  cases l with
  | nil => rfl
  | cons e l =>
    obtain ⟨e', -, h2⟩ := lstI_mem (l := e :: l) (by simp)
    omega
/-- where a chain ends, nothing else stands -/
theorem SlOK.tail {nv ns v : Nat} {u : Us} (h : SlOK nv ns u) (hv : u.1 v = none) : (u.2.2.1 v = -1 ∧ u.2.1 v = -1 ∧ u.2.2.2.2.1 v = []) ∨ (0 ≤ u.2.2.1 v ∧ u.2.2.1 v < ns ∧ 0 ≤ u.2.1 v ∧ u.2.1 v < ns ∧ u.2.2.2.1 (u.2.2.1 v).toNat = -1 ∧ u.2.2.2.2.1 v ≠ [] ∧ (u.2.2.1 v).toNat ∈ u.2.2.2.2.1 v) := by
  obtain ⟨h1, h2, -⟩ := h
  obtain ⟨c1, c2⟩ := h1 v hv
  obtain ⟨n1, n2, -⟩ := h2 v
  cases hl : u.2.2.2.2.1 v with
  | nil =>
    rw [hl] at c1 c2
    exact Or.inl ⟨c2, c1, rfl⟩
  | cons e l =>
    right
    obtain ⟨k, hk1, hk2⟩ := lstI_mem (l := u.2.2.2.2.1 v) (by rw [hl]; simp)
    have hk3 := n2 k hk1
    have e0 : u.2.2.1 v = (k : Int) := by rw [c2, hk2]
    have hh : u.2.1 v = (e : Int) := by
      rw [hl] at c1
      exact c1.1
    have he := n2 e (by rw [hl]; exact List.mem_cons_self)
    rw [e0, hh, Int.toNat_natCast, chn_last (by rw [hl]; simp) hk2 c1]
    refine ⟨by omega, by omega, by omega, by omega, rfl, by simp, by rw [← hl]; exact hk1⟩
theorem SlOK.wake {nv ns v : Nat} {T : Tr} {u : Us} (h : SlOK nv ns u) (hv : u.1 v = none) : SlOK nv ns (uWake (uBind u v T) v) := by
  obtain ⟨h1, h2, h3, h4, h5, h6, h7⟩ := h
  refine ⟨fun w hw => ?_, fun w => ?_, fun w w' hww e he => ?_, fun w e he => ?_, ?_, ?_, h7⟩
  · dsimp only [uWake, uBind] at hw ⊢
    rw [gup_at] at hw ⊢
    by_cases e : w = v
    · rw [if_pos e] at hw
      cases hw
    · rw [if_neg e] at hw ⊢
      exact h1 w hw
  · dsimp only [uWake, uBind]
    rw [gup_at, gup_at]
    by_cases e : w = v
    · rw [if_pos e, if_pos e]
      exact ⟨List.nodup_nil, fun e he => absurd he (by simp), fun _ => rfl, fun _ => rfl⟩
    · rw [if_neg e, if_neg e]
      exact h2 w
  · dsimp only [uWake, uBind] at he ⊢
    rw [gup_at] at he ⊢
    split at he
    · exact absurd he (by simp)
    · split
      · simp
      · exact h3 w w' hww e he
  · dsimp only [uWake, uBind] at he ⊢
    rw [gup_at] at he
    split at he
    · exact absurd he (by simp)
    · rename_i hwv
      rw [List.mem_append]
      rintro (z | z)
      · exact h4 w e he z
      · exact h3 w v hwv e he z
  · dsimp only [uWake, uBind]
    rw [List.nodup_append]
    refine ⟨h5, (h2 v).1, fun a ha b hb hab => ?_⟩
    rw [← hab] at hb
    exact h4 v a hb ha
  · intro e he
    dsimp only [uWake, uBind] at he
    rcases List.mem_append.mp he with z | z
    · exact h6 e z
    · exact (h2 v).2.1 e z
theorem uMove_0 {u : Us} {hi lo : Nat} (h : u.2.1 hi < 0) : uMove u hi lo = (u.1, u.2.1, u.2.2.1, u.2.2.2.1, gup u.2.2.2.2.1 hi [], u.2.2.2.2.2) := if_pos h
theorem uMove_1 {u : Us} {hi lo : Nat} (h : ¬ u.2.1 hi < 0) (h2 : u.2.2.1 lo < 0) : uMove u hi lo = (u.1, gup u.2.1 lo (u.2.1 hi), gup u.2.2.1 lo (u.2.2.1 hi), u.2.2.2.1, gup (gup u.2.2.2.2.1 hi []) lo (u.2.2.2.2.1 hi), u.2.2.2.2.2) := (if_neg h).trans (if_pos h2)
theorem uMove_2 {u : Us} {hi lo : Nat} (h : ¬ u.2.1 hi < 0) (h2 : ¬ u.2.2.1 lo < 0) : uMove u hi lo = (u.1, u.2.1, gup u.2.2.1 lo (u.2.2.1 hi), gup u.2.2.2.1 (u.2.2.1 lo).toNat (u.2.1 hi), gup (gup u.2.2.2.2.1 hi []) lo (gup u.2.2.2.2.1 hi [] lo ++ u.2.2.2.2.1 hi), u.2.2.2.2.2) := (if_neg h).trans (if_neg h2)
theorem SlOK.move {nv ns hi lo : Nat} {T : Tr} {u : Us} (h : SlOK nv ns u) (hhi : u.1 hi = none) (hlo : u.1 lo = none) (hne : hi ≠ lo) (hnv : lo < nv) : SlOK nv ns (uMove (uBind u hi T) hi lo) := by
  have tlo := h.tail hlo
  have thi := h.tail hhi
  obtain ⟨h1, h2, h3, h4, h5, h6, h7⟩ := h
  have hsl : ∀ w, gup u.2.2.2.2.1 hi [] w = if w = hi then [] else u.2.2.2.2.1 w := fun w => rfl
  by_cases c1 : u.2.1 hi < 0
  · rw [uMove_0 (u := uBind u hi T) c1]
    dsimp only [uBind]
    have e0 : u.2.2.2.2.1 hi = [] := by
      rcases thi with ⟨-, -, e⟩ | ⟨-, -, e, -⟩
      · exact e
      · omega
    have e1 : gup u.2.2.2.2.1 hi [] = u.2.2.2.2.1 := gup_self e0
    rw [e1]
    refine ⟨fun w hw => ?_, fun w => ?_, h3, h4, h5, h6, h7⟩
    · dsimp only at hw ⊢
      rw [gup_at] at hw
      split at hw
      · cases hw
      · exact h1 w hw
    · dsimp only
      rw [gup_at]
      refine ⟨(h2 w).1, (h2 w).2.1, (h2 w).2.2.1, fun hw => ?_⟩
      split at hw
      · rename_i e
        rw [e]
        exact e0
      · exact (h2 w).2.2.2 hw
  obtain ⟨k1, k2, k3, k4, k5, k6, k7⟩ : 0 ≤ u.2.2.1 hi ∧ u.2.2.1 hi < ns ∧ 0 ≤ u.2.1 hi ∧ u.2.1 hi < ns ∧ u.2.2.2.1 (u.2.2.1 hi).toNat = -1 ∧ u.2.2.2.2.1 hi ≠ [] ∧ (u.2.2.1 hi).toNat ∈ u.2.2.2.2.1 hi := by
    rcases thi with ⟨-, e, -⟩ | e
    · omega
    · exact e
  by_cases c2 : u.2.2.1 lo < 0
  · rw [uMove_1 (u := uBind u hi T) c1 c2]
    dsimp only [uBind]
    have e0 : u.2.2.2.2.1 lo = [] := by
      rcases tlo with ⟨-, -, e⟩ | ⟨e, -⟩
      · exact e
      · omega
    refine ⟨fun w hw => ?_, fun w => ?_, fun w w' hww e he => ?_, fun w e he => ?_, h5, h6, h7⟩
    · dsimp only at hw ⊢
      simp only [gup_at] at hw ⊢
      by_cases e : w = lo
      · rw [if_pos e, if_pos e, if_pos e]
        exact h1 hi hhi
      · rw [if_neg e, if_neg e, if_neg e]
        split at hw
        · cases hw
        · rename_i e2
          rw [if_neg e2]
          exact h1 w hw
    · dsimp only
      simp only [gup_at]
      by_cases e : w = lo
      · rw [if_pos e]
        refine ⟨(h2 hi).1, (h2 hi).2.1, fun z => by omega, fun z => ?_⟩
        rw [if_neg (by omega), e] at z
        exact absurd hlo z
      · rw [if_neg e]
        by_cases e2 : w = hi
        · rw [if_pos e2]
          exact ⟨List.nodup_nil, fun e he => absurd he (by simp), fun _ => rfl, fun _ => rfl⟩
        · rw [if_neg e2, if_neg e2]
          exact h2 w
    · dsimp only at he ⊢
      simp only [gup_at] at he ⊢
      by_cases e1 : w = lo
      · rw [if_pos e1] at he
        rw [if_neg (by omega)]
        split
        · simp
        · rename_i e2
          exact h3 hi w' (by omega) e he
      · rw [if_neg e1] at he
        split at he
        · exact absurd he (by simp)
        · rename_i e2
          by_cases e3 : w' = lo
          · rw [if_pos e3]
            exact h3 w hi e2 e he
          · rw [if_neg e3]
            split
            · simp
            · exact h3 w w' hww e he
    · dsimp only at he ⊢
      simp only [gup_at] at he
      by_cases e1 : w = lo
      · rw [if_pos e1] at he
        exact h4 hi e he
      · rw [if_neg e1] at he
        split at he
        · exact absurd he (by simp)
        · exact h4 w e he
  · rw [uMove_2 (u := uBind u hi T) c1 c2]
    dsimp only [uBind]
    obtain ⟨j1, j2, j3, j4, j5, j6, j7⟩ : 0 ≤ u.2.2.1 lo ∧ u.2.2.1 lo < ns ∧ 0 ≤ u.2.1 lo ∧ u.2.1 lo < ns ∧ u.2.2.2.1 (u.2.2.1 lo).toNat = -1 ∧ u.2.2.2.2.1 lo ≠ [] ∧ (u.2.2.1 lo).toNat ∈ u.2.2.2.2.1 lo := by
      rcases tlo with ⟨e, -⟩ | e
      · omega
      · exact e
    have hslo : gup u.2.2.2.2.1 hi [] lo = u.2.2.2.2.1 lo := by rw [hsl, if_neg (by omega)]
    rw [hslo]
    refine ⟨fun w hw => ?_, fun w => ?_, fun w w' hww e he => ?_, fun w e he => ?_, h5, h6, fun e he => ?_⟩
    · dsimp only at hw ⊢
      simp only [gup_at] at hw ⊢
      by_cases e : w = lo
      · subst e
        rw [if_pos rfl, if_pos rfl]
        refine ⟨chn_join j6 (h2 w).1 ?_ ?_ (h1 w hlo).1 (h1 hi hhi).1, ?_⟩
        · rw [Int.toNat_of_nonneg j1]
          exact (h1 w hlo).2.symm
        · exact fun z => h3 w hi (by omega) _ j7 z
        · rw [lstI_app k6]
          exact (h1 hi hhi).2
      · rw [if_neg e, if_neg e]
        split at hw
        · cases hw
        · rename_i e2
          rw [if_neg e2]
          refine ⟨chn_gup (fun z => h3 w lo e _ z j7) (h1 w hw).1, (h1 w hw).2⟩
    · dsimp only
      simp only [gup_at]
      by_cases e : w = lo
      · rw [if_pos e]
        refine ⟨?_, ?_, fun z => by omega, fun z => ?_⟩
        · rw [List.nodup_append]
          refine ⟨(h2 lo).1, (h2 hi).1, fun a ha b hb hab => ?_⟩
          rw [← hab] at hb
          exact h3 lo hi (by omega) a ha hb
        · intro x hx
          rcases List.mem_append.mp hx with z | z
          · exact (h2 lo).2.1 x z
          · exact (h2 hi).2.1 x z
        · rw [if_neg (by omega), e] at z
          exact absurd hlo z
      · rw [if_neg e]
        by_cases e2 : w = hi
        · rw [if_pos e2]
          exact ⟨List.nodup_nil, fun e he => absurd he (by simp), fun _ => rfl, fun _ => rfl⟩
        · rw [if_neg e2, if_neg e2]
          exact h2 w
    · dsimp only at he ⊢
      simp only [gup_at] at he ⊢
      by_cases e1 : w = lo
      · rw [if_pos e1] at he
        rw [if_neg (by omega)]
        split
        · simp
        · rename_i e2
          rcases List.mem_append.mp he with z | z
          · exact h3 lo w' (by omega) e z
          · exact h3 hi w' (by omega) e z
      · rw [if_neg e1] at he
        split at he
        · exact absurd he (by simp)
        · rename_i e2
          by_cases e3 : w' = lo
          · rw [if_pos e3, List.mem_append]
            rintro (z | z)
            · exact h3 w lo e1 e he z
            · exact h3 w hi e2 e he z
          · rw [if_neg e3]
            split
            · simp
            · exact h3 w w' hww e he
    · dsimp only at he ⊢
      simp only [gup_at] at he
      by_cases e1 : w = lo
      · rw [if_pos e1] at he
        rcases List.mem_append.mp he with z | z
        · exact h4 lo e z
        · exact h4 hi e z
      · rw [if_neg e1] at he
        split at he
        · exact absurd he (by simp)
        · exact h4 w e he
    · dsimp only
      rw [gup_at, if_neg (by omega)]
      exact h7 e he
/-! how many sleep -/
def psum (f : Nat → Nat) : Nat → Nat
  | 0 => 0
  | n + 1 => psum f n + f n
theorem psum_congr {f g : Nat → Nat} : ∀ {n : Nat}, (∀ v, v < n → f v = g v) → psum f n = psum g n
  | 0, _ => rfl
  | n + 1, h => by
    unfold psum
    rw [psum_congr (fun v hv => h v (by omega)), h n (by omega)]
theorem psum_gup {f : Nat → Nat} {v x : Nat} : ∀ {n : Nat}, v < n → psum (gup f v x) n + f v = psum f n + x
  | 0, h => by omega
  | n + 1, h => by
    unfold psum
    rw [gup_at]
    by_cases e : n = v
    · rw [if_pos e, psum_congr (f := gup f v x) (g := f) (fun w hw => by rw [gup_at, if_neg (by omega)]), e]
      omega
    · rw [if_neg e]
      have := psum_gup (f := f) (v := v) (x := x) (n := n) (by omega)
      omega
def pot (nv : Nat) (sl : Nat → List Nat) : Nat := psum (fun v => (sl v).length) nv
theorem pot_gup {nv v : Nat} {sl : Nat → List Nat} {l : List Nat} (h : v < nv) : pot nv (gup sl v l) + (sl v).length = pot nv sl + l.length := by
  unfold pot
  rw [← psum_gup (f := fun v => (sl v).length) (v := v) (x := l.length) h]
  congr 1
  refine psum_congr (fun w _ => ?_)
  rw [gup_at, gup_at]
  split <;> rfl
theorem pot_wake {nv v : Nat} {u : Us} {T : Tr} (h : v < nv) : pot nv (uWake (uBind u v T) v).2.2.2.2.1 + (uWake (uBind u v T) v).2.2.2.2.2.length = pot nv u.2.2.2.2.1 + u.2.2.2.2.2.length := by
  dsimp only [uWake, uBind]
  have := pot_gup (sl := u.2.2.2.2.1) (l := []) h
  rw [List.length_append]
  simp only [List.length_nil] at this
  omega
theorem pot_move {nv ns hi lo : Nat} {u : Us} {T : Tr} (hS : SlOK nv ns u) (hhi : u.1 hi = none) (hlo : u.1 lo = none) (h : hi < nv) (h2 : lo < nv) (hne : hi ≠ lo) : pot nv (uMove (uBind u hi T) hi lo).2.2.2.2.1 = pot nv u.2.2.2.2.1 := by
  have thi := hS.tail hhi
  have tlo := hS.tail hlo
  have e1 := pot_gup (sl := u.2.2.2.2.1) (l := []) h
  simp only [List.length_nil] at e1
  have hl : gup u.2.2.2.2.1 hi [] lo = u.2.2.2.2.1 lo := by rw [gup_at, if_neg (by omega)]
  by_cases c1 : u.2.1 hi < 0
  · rw [uMove_0 (u := uBind u hi T) c1]
    dsimp only [uBind]
    have e0 : u.2.2.2.2.1 hi = [] := by
      rcases thi with ⟨-, -, e⟩ | ⟨-, -, e, -⟩
      · exact e
      · omega
    rw [e0] at e1
    simp only [List.length_nil] at e1
    omega
  · by_cases c2 : u.2.2.1 lo < 0
    · rw [uMove_1 (u := uBind u hi T) c1 c2]
      dsimp only [uBind]
      have e0 : u.2.2.2.2.1 lo = [] := by
        rcases tlo with ⟨-, -, e⟩ | ⟨e, -⟩
        · exact e
        · omega
      have e2 := pot_gup (sl := gup u.2.2.2.2.1 hi []) (l := u.2.2.2.2.1 hi) h2
      rw [hl, e0] at e2
      simp only [List.length_nil] at e2
      omega
    · rw [uMove_2 (u := uBind u hi T) c1 c2]
      dsimp only [uBind]
      have e2 := pot_gup (sl := gup u.2.2.2.2.1 hi []) (l := u.2.2.2.2.1 lo ++ u.2.2.2.2.1 hi) h2
      rw [hl, List.length_append] at e2
      rw [hl]
      omega
