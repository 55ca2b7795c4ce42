/-! D43: the reference builds a term -/
/-- before a term: where, how deep, the cell whose argument it is (f with c arguments) -/
def BPre (σ : qC) (base n env nv : Nat) (tx : Nat → Int) (p d nc f c : Nat) : Prop := TXT σ base n tx ∧ MAP σ n env tx ∧ σ.1 6412 = Int32.ofInt (base + p : Nat) ∧ σ.1 6425 = Int32.ofInt nc ∧ env + rnk tx n 26 ≤ nv ∧ nv ≤ 13000 ∧ (0 < d → σ.2 68 d = Int32.ofInt f ∧ σ.2 73 f = Int32.ofInt c ∧ f < nc ∧ c < 3)
/-- behind it -/
def BPost (σ σ' : qC) (base e d nc nc' f c : Nat) (t : Int) : Prop := σ'.1 6412 = Int32.ofInt (base + e : Nat) ∧ σ'.1 6425 = Int32.ofInt nc' ∧ nc ≤ nc' ∧ (∀ i, i < nc → σ'.2 72 i = σ.2 72 i) ∧ (∀ i, i < nc → (d = 0 ∨ i ≠ f) → σ'.2 73 i = σ.2 73 i) ∧ (0 < d → σ'.2 73 f = Int32.ofInt (c + 1 : Nat)) ∧ (∀ i, i < 3 * nc → (d = 0 ∨ i ≠ 3 * f + c) → σ'.2 74 i = σ.2 74 i) ∧ (0 < d → σ'.2 74 (3 * f + c) = Int32.ofInt t) ∧ (∀ j, j ≤ d → σ'.2 68 j = σ.2 68 j) ∧ (∀ k, k ≠ 68 → k ≠ 72 → k ≠ 73 → k ≠ 74 → σ'.2 k = σ.2 k) ∧ (∀ j, j ≠ 6412 → j ≠ 6425 → σ'.1 j = σ.1 j)
theorem tt_var {tx : Nat → Int} {n k i env : Nat} (h : isCa (tx i)) : tt tx n (k + 1) i env = trVar (env + rnk tx n (tx i - 65).toNat) := by
  funext q
  cases q with
  | nil =>
    unfold tt
    rw [if_pos h]
    rfl
  | cons j q =>
    unfold tt
    have : (pT tx (k + 1) i).2.2 = [] := by
      unfold pT
      split
      · rfl
      · rw [if_pos (Or.inl (by omega))]
    rw [this]
    rfl
/-- the closing loop sees no ) -/
theorem l102_comma {K : Int32 → qC → Option (Int32 × qC)} {σ : qC} {base n e q d : Nat} {tx : Nat → Int} {t : Int32} (hT : TXT σ base n tx) (hs : σ.1 6412 = Int32.ofInt (base + e : Nat)) (he : e ≤ 100) (hc : tx e ≠ 41) (hd : 0 < d ∧ d < 100) : m_build_145_l102 K (q + 1) (Int32.ofInt d) t σ = K (Int32.ofInt d) (upS σ 6412 (Int32.ofInt (base + (e + 1) : Nat))) := by
  have h6 := hT.2.2.2.2.2 e
  have hb := hT.2.2.1
  unfold m_build_145_l102
  rw [z0, if_neg (zleN (by omega) (by omega) (by omega) (by omega) (by omega)), hs, at_ok hT rfl he, Option.bind_some, if_neg (zeqN hc (by omega) (by omega) (by omega) (by omega)), if_neg (zeqN (by omega) (by omega) (by omega) (by omega) (by omega)), zadd]
  rfl
theorem l102_close {K : Int32 → qC → Option (Int32 × qC)} {σ : qC} {base n e q d F : Nat} {tx : Nat → Int} {t : Int32} (hT : TXT σ base n tx) (hs : σ.1 6412 = Int32.ofInt (base + e : Nat)) (he : e ≤ 100) (hc : tx e = 41) (hd : d + 1 < 8) (hF : σ.2 68 (d + 1) = Int32.ofInt F) : m_build_145_l102 K (q + 1) (Int32.ofInt (d + 1 : Nat)) t σ = m_build_145_l102 K q (Int32.ofInt d) (Int32.ofInt F) (upS σ 6412 (Int32.ofInt (base + (e + 1) : Nat))) := by
  have h6 := hT.2.2.2.2.2 e
  have hb := hT.2.2.1
  conv => lhs; unfold m_build_145_l102
  rw [z0, if_neg (zleN (by omega) (by omega) (by omega) (by omega) (by omega)), hs, at_ok hT rfl he, Option.bind_some, if_pos (by rw [hc])]
  dsimp only [qlet]
  rw [agetI (i := d + 1) rfl hd (by omega), upS_2, hF, Option.bind_some, zadd, zadd]
  congr 1
  congr 1
  omega
theorem pA_ends {tx : Nat → Int} {k : Nat} : ∀ (j i : Nat), (pA tx (pT tx k) j i).1 = true → i < (pA tx (pT tx k) j i).2.1 := by
  intro j
  induction j with
  | zero => intro i h; cases h
  | succ j ihj =>
    intro i h
    unfold pA at h ⊢
    by_cases h1 : (pT tx k i).1 = false
    · rw [if_pos h1] at h; cases h
    rw [if_neg h1] at h ⊢
    have h1' : (pT tx k i).1 = true := by simpa using h1
    have e1 := pT_ends k i h1'
    by_cases h2 : tx (pT tx k i).2.1 = 41
    · rw [if_pos h2]
      dsimp only
      omega
    rw [if_neg h2] at h ⊢
    by_cases h3 : j = 0 ∨ tx (pT tx k i).2.1 ≠ 44
    · rw [if_pos h3] at h; cases h
    rw [if_neg h3] at h ⊢
    have e2 := ihj _ h
    dsimp only
    omega
set_option maxHeartbeats 8000000 in
theorem build_t {base n env nv : Nat} {tx : Nat → Int} : ∀ (k p d nc f c fuel : Nat) (σ : qC), (pT tx k p).1 = true → tx (pT tx k p).2.1 ≠ 40 → BPre σ base n env nv tx p d nc f c → 2 * nc + (pT tx k p).2.1 + 1 ≤ 48000 + p → d + k ≤ 7 → (pT tx k p).2.1 - p < fuel →
    ∃ (σ' : qC) (fuel' q nc' : Nat) (t : Int), m_build_145_l2 fuel (Int32.ofInt d) σ = m_build_145_l102 (m_build_145_l2 fuel') q (Int32.ofInt d) (Int32.ofInt t) σ' ∧ fuel ≤ fuel' + ((pT tx k p).2.1 - p) ∧ qF ≤ q + k ∧ 2 * nc' + p ≤ 2 * nc + (pT tx k p).2.1 + 1 ∧ (pT tx k p).2.1 ≤ n ∧ MTr (σ'.2 72) (σ'.2 73) (σ'.2 74) nv nc nc' k t (tt tx n k p env) ∧ BPost σ σ' base (pT tx k p).2.1 d nc nc' f c t := by
  intro k
  induction k with
  | zero => intro p d nc f c fuel σ h; cases h
  | succ k ih =>
    intro p d nc f c fuel σ hok hne hpre hcap hdk hfuel
    obtain ⟨hT, hM, hs, hn, henv, hnv, hpar⟩ := hpre
    have hb := hT.2.2.1
    have hn48 := hT.2.2.2.1
    have h0 := hT.2.2.2.2.1
    have h6 := hT.2.2.2.2.2 p
    have hpe := pT_ends (k + 1) p hok
    cases fuel with
    | zero => omega
    | succ fuel =>
      -- what stands here is a sign
      have hal : ¬ (¬ isSm (tx p) ∧ ¬ isCa (tx p) ∧ ¬ isDi (tx p)) := by
        intro z
        unfold pT at hok
        rw [if_pos z] at hok
        cases hok
      have hpn : p < n := by
        apply Classical.byContradiction
        intro z
        have := h0 p (by omega)
        apply hal
        rw [this]
        exact ⟨by omega, by omega, by omega⟩
      have hpT : pT tx (k + 1) p = if ¬ isSm (tx p) ∨ k = 0 ∨ tx (p + 1) ≠ 40 then (true, p + 1, []) else pA tx (pT tx k) 3 (p + 2) := by
        conv => lhs; unfold pT
        rw [if_neg hal]
      unfold m_build_145_l2
      rw [hs, at_ok hT rfl (by omega), Option.bind_some, in_ok (by omega) (by omega) (by omega)]
      by_cases hca : isCa (tx p)
      · -- a variable
        have hend : (pT tx (k + 1) p).2.1 = p + 1 := by rw [hpT, if_pos (Or.inl (by omega))]
        have hrk := rnk_lt hpn hca
        rw [if_pos hca, if_neg (by decide), zsub, agetI (i := (tx p - 65).toNat) (by omega) (by omega) (by omega), Option.bind_some, hM p hpn hca, zadd, zsub]
        dsimp only [qlet]
        rw [hend] at hne ⊢
        obtain ⟨σ1, hσ1⟩ : ∃ σ1, σ1 = upS σ 6412 (Int32.ofInt ((base + p : Nat) + 1 : Int)) := ⟨_, rfl⟩
        rw [← hσ1]
        have f1 : ∀ j, j ≠ 6412 → σ1.1 j = σ.1 j := fun j a => by rw [hσ1, upS_1, if_neg a]
        have f2 : σ1.2 = σ.2 := by rw [hσ1]; rfl
        have fs : σ1.1 6412 = Int32.ofInt ((base + (p + 1) : Nat) : Int) := by rw [hσ1, upS_1, if_pos rfl]; rfl
        have hMT : MTr (σ1.2 72) (σ1.2 73) (σ1.2 74) nv nc nc (k + 1) (-1 - (env + rnk tx n (tx p - 65).toNat : Nat)) (tt tx n (k + 1) p env) := Or.inl ⟨by omega, by omega, by rw [tt_var hca]; congr 1; omega⟩
        by_cases hd0 : d = 0
        · subst hd0
          rw [z0, if_pos (zleP (by omega) (by omega) (by omega) (by omega) (by omega)), if_pos (zltP (by omega) (by omega) (by omega) (by omega) (by omega))]
          exact ⟨σ1, fuel, qF, nc, _, rfl, by omega, by omega, by omega, by omega, hMT, fs, by rw [f1 _ (by omega), hn], Nat.le_refl _, fun i _ => by rw [f2], fun i _ _ => by rw [f2], fun z => by omega, fun i _ _ => by rw [f2], fun z => by omega, fun j _ => by rw [f2], fun k _ _ _ _ => by rw [f2], fun j a _ => f1 j a⟩
        · obtain ⟨o1, o2, o3, o4⟩ := hpar (by omega)
          obtain ⟨σ2, q1, q2, q3, q4, q5⟩ := hang_ok (σ := σ1) (d := d) (f := f) (c := c) (t := Int32.ofInt (-1 - (env + rnk tx n (tx p - 65).toNat : Nat))) (by omega) (by rw [f2, o1]) (by rw [f2, o2]) (by omega) o4
          rw [z0, if_neg (zleN (by omega) (by omega) (by omega) (by omega) (by omega)), q1, Option.bind_some, if_pos (zltP (by omega) (by omega) (by omega) (by omega) (by omega))]
          refine ⟨σ2, fuel, qF, nc, _, rfl, by omega, by omega, by omega, by omega, Or.inl ⟨by omega, by omega, by rw [tt_var hca]; congr 1; omega⟩, by rw [q2, fs], by rw [q2, f1 _ (by omega), hn], Nat.le_refl _, fun i _ => by rw [q5 72 (by omega) (by omega), f2], fun i _ hi => by rw [q4, fup_at, if_neg (by omega), f2], fun _ => by rw [q4, fup_at, if_pos rfl], fun i _ hi => by rw [q3, fup_at, if_neg (by omega), f2], fun _ => by rw [q3, fup_at, if_pos rfl], fun j _ => by rw [q5 68 (by omega) (by omega), f2], fun k _ _ a b => by rw [q5 k a b, f2], fun j a _ => by rw [q2, f1 j a]⟩
      · -- a cell
        rw [if_neg hca, if_pos (by rfl)]
        obtain ⟨σ1, c1, c2, c3, c4, c5, c6⟩ := cell_ok (c := Int32.ofInt (tx p)) hn (by omega)
        rw [c1, Option.bind_some]
        dsimp only [qlet]
        rw [c6 _ (by omega), hs, zadd]
        obtain ⟨σ2, hσ2⟩ : ∃ σ2, σ2 = upS σ1 6412 (Int32.ofInt ((base + p : Nat) + 1 : Int)) := ⟨_, rfl⟩
        rw [← hσ2]
        have f1 : ∀ j, j ≠ 6412 → j ≠ 6425 → σ2.1 j = σ.1 j := fun j a b => by rw [hσ2, upS_1, if_neg a, c6 j b]
        have f2 : σ2.2 = σ1.2 := by rw [hσ2]; rfl
        have fs : σ2.1 6412 = Int32.ofInt ((base + (p + 1) : Nat) : Int) := by rw [hσ2, upS_1, if_pos rfl]; rfl
        have fn : σ2.1 6425 = Int32.ofInt ((nc + 1 : Nat) : Int) := by rw [hσ2, upS_1, if_neg (by omega), c2]
        -- behind the hanging
        have hang : ∃ σ3, σ3.1 = σ2.1 ∧ σ3.2 72 = fup (σ.2 72) nc (Int32.ofInt (tx p)) ∧ (∀ i, i < nc → (d = 0 ∨ i ≠ f) → σ3.2 73 i = σ.2 73 i) ∧ (0 < d → σ3.2 73 f = Int32.ofInt (c + 1 : Nat)) ∧ σ3.2 73 nc = Int32.ofInt 0 ∧ (∀ i, (d = 0 ∨ i ≠ 3 * f + c) → σ3.2 74 i = σ.2 74 i) ∧ (0 < d → σ3.2 74 (3 * f + c) = Int32.ofInt nc) ∧ (∀ k, k ≠ 72 → k ≠ 73 → k ≠ 74 → σ3.2 k = σ.2 k) ∧
            (if Int32.ofInt d ≤ 0 then if Int32.ofInt nc < 0 then m_build_145_l102 (m_build_145_l2 fuel) qF (Int32.ofInt d) (Int32.ofInt nc) σ2 else (m_at_143 (σ2.1 6412) σ2).bind (fun p10 => if p10 = Int32.ofInt 40 then (aput (upS σ2 6412 (σ2.1 6412 + Int32.ofInt 1)) 68 8 (Int32.ofInt d + Int32.ofInt 1) (Int32.ofInt nc)).bind (fun σ15 => (m_build_145_l2 fuel) (Int32.ofInt d + Int32.ofInt 1) σ15) else m_build_145_l102 (m_build_145_l2 fuel) qF (Int32.ofInt d) (Int32.ofInt nc) σ2) else (m_hang_147 (Int32.ofInt d) (Int32.ofInt nc) σ2).bind (fun p17 => if Int32.ofInt nc < 0 then m_build_145_l102 (m_build_145_l2 fuel) qF (Int32.ofInt d) (Int32.ofInt nc) p17 else (m_at_143 (p17.1 6412) p17).bind (fun p20 => if p20 = Int32.ofInt 40 then (aput (upS p17 6412 (p17.1 6412 + Int32.ofInt 1)) 68 8 (Int32.ofInt d + Int32.ofInt 1) (Int32.ofInt nc)).bind (fun σ25 => (m_build_145_l2 fuel) (Int32.ofInt d + Int32.ofInt 1) σ25) else m_build_145_l102 (m_build_145_l2 fuel) qF (Int32.ofInt d) (Int32.ofInt nc) p17))) =
            (m_at_143 (σ3.1 6412) σ3).bind (fun p20 => if p20 = Int32.ofInt 40 then (aput (upS σ3 6412 (σ3.1 6412 + Int32.ofInt 1)) 68 8 (Int32.ofInt d + Int32.ofInt 1) (Int32.ofInt nc)).bind (fun σ25 => (m_build_145_l2 fuel) (Int32.ofInt d + Int32.ofInt 1) σ25) else m_build_145_l102 (m_build_145_l2 fuel) qF (Int32.ofInt d) (Int32.ofInt nc) σ3) := by
          by_cases hd0 : d = 0
          · subst hd0
            refine ⟨σ2, rfl, by rw [f2, c3], fun i hi _ => by rw [f2, c4, fup_at, if_neg (by omega)], fun z => by omega, by rw [f2, c4, fup_at, if_pos rfl], fun i _ => by rw [f2, c5 74 (by omega) (by omega)], fun z => by omega, fun k a b _ => by rw [f2, c5 k a b], ?_⟩
            rw [z0, if_pos (zleP (by omega) (by omega) (by omega) (by omega) (by omega)), if_neg (zltN (by omega) (by omega) (by omega) (by omega) (by omega))]
          · obtain ⟨o1, o2, o3, o4⟩ := hpar (by omega)
            obtain ⟨σ3, q1, q2, q3, q4, q5⟩ := hang_ok (σ := σ2) (d := d) (f := f) (c := c) (t := Int32.ofInt nc) (by omega) (by rw [f2, c5 68 (by omega) (by omega), o1]) (by rw [f2, c4, fup_at, if_neg (by omega), o2]) (by omega) o4
            refine ⟨σ3, q2, by rw [q5 72 (by omega) (by omega), f2, c3], fun i hi hif => by rw [q4, fup_at, if_neg (by omega), f2, c4, fup_at, if_neg (by omega)], fun _ => by rw [q4, fup_at, if_pos rfl], by rw [q4, fup_at, if_neg (by omega), f2, c4, fup_at, if_pos rfl], fun i hi => by rw [q3, fup_at, if_neg (by omega), f2, c5 74 (by omega) (by omega)], fun _ => by rw [q3, fup_at, if_pos rfl], fun k a b e => by rw [q5 k b e, f2, c5 k a b], ?_⟩
            rw [z0, if_neg (zleN (by omega) (by omega) (by omega) (by omega) (by omega)), q1, Option.bind_some, if_neg (zltN (by omega) (by omega) (by omega) (by omega) (by omega))]
        obtain ⟨σ3, g1, g2, g3, g4, g5, g6, g7, g8, g9⟩ := hang
        rw [g9]
        have hT3 : TXT σ3 base n tx := hT.congr (by rw [g1, f1 _ (by omega) (by omega)]) (g8 _ (by omega) (by omega) (by omega))
        rw [g1, fs, at_ok hT3 rfl (by omega), Option.bind_some]
        have h61 := hT.2.2.2.2.2 (p + 1)
        by_cases hleaf : ¬ isSm (tx p) ∨ k = 0 ∨ tx (p + 1) ≠ 40
        · have hend : pT tx (k + 1) p = (true, p + 1, []) := by rw [hpT, if_pos hleaf]
          rw [hend] at hne ⊢
          dsimp only at hne ⊢
          rw [if_neg (zeqN hne (by omega) (by omega) (by omega) (by omega))]
          have htt : tt tx n (k + 1) p env [] = (tx p, 0) := by
            unfold tt
            rw [if_neg hca, hend]
            rfl
          refine ⟨σ3, fuel, qF, nc + 1, nc, rfl, by omega, by omega, by omega, by omega, Or.inr ⟨Int.le_refl _, by omega, 0, by omega, by rw [Int.toNat_natCast, g5]; rfl, tx p, by omega, by rw [Int.toNat_natCast, g2, fup_at, if_pos rfl], htt, fun i hi => by omega⟩, by rw [g1, fs], by rw [g1, fn], by omega, fun i hi => by rw [g2, fup_at, if_neg (by omega)], g3, g4, fun i _ hi => g6 i hi, g7, fun j _ => by rw [g8 68 (by omega) (by omega) (by omega)], fun k _ a b e => g8 k a b e, fun j a b => by rw [g1, f1 j a b]⟩
        · have hpA : pT tx (k + 1) p = pA tx (pT tx k) 3 (p + 2) := by rw [hpT, if_neg hleaf]
          have h40 : tx (p + 1) = 40 := by
            apply Classical.byContradiction
            intro z
            exact hleaf (Or.inr (Or.inr z))
          have hk0 : k ≠ 0 := fun z => hleaf (Or.inr (Or.inl z))
          -- the arguments, from the (c1)th on
          have args : ∀ (j i c1 nc1 fuel1 : Nat) (σ4 : qC), (pA tx (pT tx k) j i).1 = true → BPre σ4 base n env nv tx i (d + 1) nc1 nc c1 → c1 + j = 3 → 2 * nc1 + (pA tx (pT tx k) j i).2.1 + 1 ≤ 48000 + i → (pA tx (pT tx k) j i).2.1 - i < fuel1 → nc < nc1 →
              ∃ (σ' : qC) (fuel' q nc' : Nat), m_build_145_l2 fuel1 (Int32.ofInt (d + 1 : Nat)) σ4 = m_build_145_l102 (m_build_145_l2 fuel') q (Int32.ofInt d) (Int32.ofInt nc) σ' ∧ fuel1 ≤ fuel' + ((pA tx (pT tx k) j i).2.1 - i) ∧ qF ≤ q + k + 1 ∧ 2 * nc' + i ≤ 2 * nc1 + (pA tx (pT tx k) j i).2.1 ∧ (pA tx (pT tx k) j i).2.1 ≤ n ∧ nc1 ≤ nc' ∧ σ'.1 6412 = Int32.ofInt (base + (pA tx (pT tx k) j i).2.1 : Nat) ∧ σ'.1 6425 = Int32.ofInt nc' ∧
                (pA tx (pT tx k) j i).2.2.length ≤ j ∧ σ'.2 73 nc = Int32.ofInt (c1 + (pA tx (pT tx k) j i).2.2.length : Nat) ∧ (∀ l (a : Nat), (pA tx (pT tx k) j i).2.2[l]? = some a → ∃ m : Int, σ'.2 74 (3 * nc + (c1 + l)) = Int32.ofInt m ∧ MTr (σ'.2 72) (σ'.2 73) (σ'.2 74) nv nc1 nc' k m (tt tx n k a env)) ∧
                (∀ i', i' < nc1 → σ'.2 72 i' = σ4.2 72 i') ∧ (∀ i', i' < nc1 → i' ≠ nc → σ'.2 73 i' = σ4.2 73 i') ∧ (∀ i', i' < 3 * nc1 → (i' < 3 * nc + c1 ∨ 3 * nc + 3 ≤ i') → σ'.2 74 i' = σ4.2 74 i') ∧ (∀ j', j' ≤ d + 1 → σ'.2 68 j' = σ4.2 68 j') ∧ (∀ k', k' ≠ 68 → k' ≠ 72 → k' ≠ 73 → k' ≠ 74 → σ'.2 k' = σ4.2 k') ∧ (∀ j', j' ≠ 6412 → j' ≠ 6425 → σ'.1 j' = σ4.1 j') := by
            intro j
            induction j with
            | zero => intro i c1 nc1 fuel1 σ4 h; cases h
            | succ j ihj =>
              intro i c1 nc1 fuel1 σ4 hok1 hpre1 hcj hcap1 hfuel1 hnc1
              have eA : pA tx (pT tx k) (j + 1) i = if (pT tx k i).1 = false then (false, (pT tx k i).2.1, [i]) else if tx (pT tx k i).2.1 = 41 then (true, (pT tx k i).2.1 + 1, [i]) else if j = 0 ∨ tx (pT tx k i).2.1 ≠ 44 then (false, (pT tx k i).2.1, [i]) else ((pA tx (pT tx k) j ((pT tx k i).2.1 + 1)).1, (pA tx (pT tx k) j ((pT tx k i).2.1 + 1)).2.1, i :: (pA tx (pT tx k) j ((pT tx k i).2.1 + 1)).2.2) := rfl
              rw [eA] at hok1 hcap1 hfuel1 ⊢
              by_cases h1 : (pT tx k i).1 = false
              · rw [if_pos h1] at hok1; cases hok1
              rw [if_neg h1] at hok1 hcap1 hfuel1 ⊢
              have h1' : (pT tx k i).1 = true := by simpa using h1
              have hie := pT_ends k i h1'
              by_cases h2 : tx (pT tx k i).2.1 = 41
              · -- the last one
                rw [if_pos h2] at hcap1 hfuel1 ⊢
                dsimp only at hcap1 hfuel1 ⊢
                obtain ⟨σ5, fuel5, q5, nc5, t5, b1, b2, b3, b4, b5, b6, b7⟩ := ih i (d + 1) nc1 nc c1 fuel1 σ4 h1' (by rw [h2]; omega) hpre1 (by omega) (by omega) (by omega)
                obtain ⟨p1, p2, p3, p4, p5, p6, p7, p8, p9, p10, p11⟩ := b7
                have hT5 : TXT σ5 base n tx := hpre1.1.congr (p11 _ (by omega) (by omega)) (p10 _ (by omega) (by omega) (by omega) (by omega))
                obtain ⟨q5', rfl⟩ : ∃ q', q5 = q' + 1 := ⟨q5 - 1, by unfold qF at b3; omega⟩
                have ho := (hpre1.2.2.2.2.2.2 (by omega)).1
                rw [b1, l102_close hT5 p1 (by omega) h2 (by omega) (by rw [p9 _ (Nat.le_refl _), ho])]
                have h41n : (pT tx k i).2.1 < n := by
                  apply Classical.byContradiction
                  intro z
                  have := h0 (pT tx k i).2.1 (by omega)
                  omega
                refine ⟨_, fuel5, q5', nc5, rfl, by omega, by omega, by omega, by omega, p3, by rw [upS_1, if_pos rfl], by rw [upS_1, if_neg (by omega), p2], by simp, ?_, ?_, fun i' hi => p4 i' hi, fun i' hi hne' => p5 i' hi (Or.inr hne'), fun i' hi hi2 => p7 i' hi (Or.inr (by omega)), fun j' hj => p9 j' hj, fun k' a b c e => p10 k' a b c e, fun j' a b => by rw [upS_1, if_neg a]; exact p11 j' a b⟩
                · rw [upS_2, p6 (by omega)]
                  simp
                · intro l a hl
                  cases l with
                  | zero =>
                    simp at hl
                    rw [← hl]
                    exact ⟨t5, by rw [upS_2, Nat.add_zero, p8 (by omega)], by rw [upS_2]; exact b6⟩
                  | succ l => simp at hl
              · rw [if_neg h2] at hok1 hcap1 hfuel1 ⊢
                by_cases h3 : j = 0 ∨ tx (pT tx k i).2.1 ≠ 44
                · rw [if_pos h3] at hok1; cases hok1
                rw [if_neg h3] at hok1 hcap1 hfuel1 ⊢
                dsimp only at hok1 hcap1 hfuel1 ⊢
                have h44 : tx (pT tx k i).2.1 = 44 := by
                  apply Classical.byContradiction
                  intro z
                  exact h3 (Or.inr z)
                have hend2 : (pT tx k i).2.1 + 1 < (pA tx (pT tx k) j ((pT tx k i).2.1 + 1)).2.1 := by
                  have := pA_ends (tx := tx) (k := k) j _ hok1
                  omega
                obtain ⟨σ5, fuel5, q5, nc5, t5, b1, b2, b3, b4, b5, b6, b7⟩ := ih i (d + 1) nc1 nc c1 fuel1 σ4 h1' (by rw [h44]; omega) hpre1 (by omega) (by omega) (by omega)
                obtain ⟨p1, p2, p3, p4, p5, p6, p7, p8, p9, p10, p11⟩ := b7
                have hT5 : TXT σ5 base n tx := hpre1.1.congr (p11 _ (by omega) (by omega)) (p10 _ (by omega) (by omega) (by omega) (by omega))
                obtain ⟨q5', rfl⟩ : ∃ q', q5 = q' + 1 := ⟨q5 - 1, by unfold qF at b3; omega⟩
                have ho := (hpre1.2.2.2.2.2.2 (by omega)).1
                rw [b1, l102_comma hT5 p1 (by omega) h2 (by omega)]
                obtain ⟨σ6, hσ6⟩ : ∃ σ6, σ6 = upS σ5 6412 (Int32.ofInt (base + ((pT tx k i).2.1 + 1) : Nat)) := ⟨_, rfl⟩
                rw [← hσ6]
                have s61 : ∀ j', j' ≠ 6412 → σ6.1 j' = σ5.1 j' := fun j' a => by rw [hσ6, upS_1, if_neg a]
                have s62 : σ6.2 = σ5.2 := by rw [hσ6]; rfl
                have hpre6 : BPre σ6 base n env nv tx ((pT tx k i).2.1 + 1) (d + 1) nc5 nc (c1 + 1) := ⟨hT5.congr (s61 _ (by omega)) (by rw [s62]), fun p' hp' hc' => by rw [s62, p10 70 (by omega) (by omega) (by omega) (by omega)]; exact hpre1.2.1 p' hp' hc', by rw [hσ6, upS_1, if_pos rfl], by rw [s61 _ (by omega), p2], henv, hnv, fun _ => ⟨by rw [s62, p9 _ (Nat.le_refl _), ho], by rw [s62, p6 (by omega)], by omega, by omega⟩⟩
                obtain ⟨σ', fuel', q, nc', e1, e2, e3, e4, e5, e6, e7, e8, e9, e10, e11, e12, e13, e14, e15, e16, e17⟩ := ihj ((pT tx k i).2.1 + 1) (c1 + 1) nc5 fuel5 σ6 hok1 hpre6 (by omega) (by omega) (by omega) (by omega)
                refine ⟨σ', fuel', q, nc', e1, by omega, e3, by omega, e5, by omega, e7, e8, by rw [List.length_cons]; omega, ?_, ?_, fun i' hi => by rw [e12 i' (by omega), s62, p4 i' hi], fun i' hi hne' => by rw [e13 i' (by omega) hne', s62, p5 i' hi (Or.inr hne')], fun i' hi hi2 => by rw [e14 i' (by omega) (by omega), s62, p7 i' hi (Or.inr (by omega))], fun j' hj => by rw [e15 j' hj, s62, p9 j' hj], fun k' a b c e => by rw [e16 k' a b c e, s62, p10 k' a b c e], fun j' a b => by rw [e17 j' a b, s61 j' a, p11 j' a b]⟩
                · rw [e10, List.length_cons]
                  congr 2
                  omega
                · intro l a hl
                  cases l with
                  | zero =>
                    simp at hl
                    rw [← hl]
                    refine ⟨t5, by rw [Nat.add_zero, e14 _ (by omega) (by omega), s62, p8 (by omega)], b6.mono (Nat.le_refl _) e6 (fun i' h1 h2 => ⟨?_, ?_⟩) (fun i' h1 h2 => ?_)⟩
                    · rw [e12 i' h2, s62]
                    · rw [e13 i' h2 (by omega), s62]
                    · rw [e14 i' h2 (by omega), s62]
                  | succ l =>
                    simp at hl
                    obtain ⟨m, m1, m2⟩ := e11 l a hl
                    refine ⟨m, by rw [show c1 + (l + 1) = c1 + 1 + l by omega]; exact m1, m2.mono (by omega) (Nat.le_refl _) (fun _ _ _ => ⟨rfl, rfl⟩) (fun _ _ _ => rfl)⟩
          rw [if_pos (by rw [h40]), zadd, zadd, aputI (i := d + 1) (by omega) (by omega) (by omega), Option.bind_some]
          obtain ⟨σ4, hσ4⟩ : ∃ σ4, σ4 = upA (upS σ3 6412 (Int32.ofInt ((base + (p + 1) : Nat) + 1 : Int))) 68 (d + 1) (Int32.ofInt nc) := ⟨_, rfl⟩
          rw [← hσ4]
          have s41 : ∀ j', j' ≠ 6412 → σ4.1 j' = σ3.1 j' := fun j' a => by rw [hσ4, upA_1, upS_1, if_neg a]
          have s42 : ∀ k', k' ≠ 68 → σ4.2 k' = σ3.2 k' := fun k' a => by rw [hσ4, upA_ne a]; rfl
          have s468 : ∀ j', σ4.2 68 j' = if j' = d + 1 then Int32.ofInt nc else σ3.2 68 j' := fun j' => by rw [hσ4, upA_eq, fup_at]; rfl
          have hpre4 : BPre σ4 base n env nv tx (p + 2) (d + 1) (nc + 1) nc 0 := ⟨hT3.congr (s41 _ (by omega)) (s42 _ (by omega)), fun p' hp' hc' => by rw [s42 70 (by omega), g8 70 (by omega) (by omega) (by omega)]; exact hM p' hp' hc', by rw [hσ4, upA_1, upS_1, if_pos rfl]; rfl, by rw [s41 _ (by omega), g1, fn], henv, hnv, fun _ => ⟨by rw [s468, if_pos rfl], by rw [s42 73 (by omega), g5]; rfl, by omega, by omega⟩⟩
          rw [hpA] at hok hne hcap hfuel hpe ⊢
          have hend3 := pA_ends (tx := tx) (k := k) 3 (p + 2) hok
          obtain ⟨σ', fuel', q, nc', e1, e2, e3, e4, e5, e6, e7, e8, e9, e10, e11, e12, e13, e14, e15, e16, e17⟩ := args 3 (p + 2) 0 (nc + 1) fuel σ4 hok hpre4 (by omega) (by omega) (by omega) (by omega)
          have htt : tt tx n (k + 1) p env [] = (tx p, (pA tx (pT tx k) 3 (p + 2)).2.2.length) := by
            unfold tt
            rw [if_neg hca, hpA]
          refine ⟨σ', fuel', q, nc', nc, ?_, by omega, by omega, by omega, e5, Or.inr ⟨Int.le_refl _, by omega, (pA tx (pT tx k) 3 (p + 2)).2.2.length, e9, by rw [Int.toNat_natCast, e10, Nat.zero_add], tx p, by omega, by rw [Int.toNat_natCast, e12 nc (by omega), s42 72 (by omega), g2, fup_at, if_pos rfl], htt, fun i hi => ?_⟩, e7, e8, by omega, fun i hi => by rw [e12 i (by omega), s42 72 (by omega), g2, fup_at, if_neg (by omega)], fun i hi hif => by rw [e13 i (by omega) (by omega), s42 73 (by omega), g3 i hi hif], fun hd => ?_, fun i hi hif => by rw [e14 i (by omega) (by omega), s42 74 (by omega), g6 i hif], fun hd => ?_, fun j' hj => by rw [e15 j' (by omega), s468, if_neg (by omega), g8 68 (by omega) (by omega) (by omega)], fun k' a b c' e => by rw [e16 k' a b c' e, s42 k' a, g8 k' b c' e], fun j' a b => by rw [e17 j' a b, s41 j' a, g1, f1 j' a b]⟩
          · exact e1
          · obtain ⟨a, ha⟩ : ∃ a, (pA tx (pT tx k) 3 (p + 2)).2.2[i]? = some a := ⟨_, List.getElem?_eq_getElem hi⟩
            obtain ⟨m, m1, m2⟩ := e11 i a ha
            rw [Nat.zero_add] at m1
            refine ⟨m, by rw [Int.toNat_natCast]; exact m1, ?_⟩
            have : trArg (tt tx n (k + 1) p env) i = tt tx n k a env := by
              funext q'
              unfold trArg
              conv => lhs; unfold tt
              rw [hpA, ha]
            rw [this]
            exact m2.mono (by omega) (Nat.le_refl _) (fun _ _ _ => ⟨rfl, rfl⟩) (fun _ _ _ => rfl)
          · obtain ⟨o1, o2, o3, o4⟩ := hpar hd
            rw [e13 f (by omega) (by omega), s42 73 (by omega), g4 hd]
          · obtain ⟨o1, o2, o3, o4⟩ := hpar hd
            rw [e14 _ (by omega) (by omega), s42 74 (by omega), g7 hd]
