/-! D16: turns of the class's search -/
def Reach (σ : qC) (o k : Nat) (σ' : qC) (o' : Nat) : Prop := ∀ n i : Nat, i + k ≤ 1000000 → c_seek_63_l4 (n + k) o (Int32.ofInt i) σ = c_seek_63_l4 n o' (Int32.ofInt (i + k : Nat)) σ'
theorem Reach.refl {σ : qC} {o : Nat} : Reach σ o 0 σ o := fun n i _ => rfl
theorem Reach.trans {σ σ' σ'' : qC} {o o' o'' k k' : Nat} (h : Reach σ o k σ' o') (h2 : Reach σ' o' k' σ'' o'') : Reach σ o (k + k') σ'' o'' := by
  intro n i hi
  rw [show n + (k + k') = (n + k') + k by omega, h (n + k') i (by omega), h2 n (i + k) (by omega), Nat.add_assoc]
theorem turn {σ σ' : qC} {o o' : Nat} {f : qC → Option (Nat × qC)} (hf : f σ = some (o', σ')) (h : ∀ n i : Nat, i < 1000000 → c_seek_63_l4 (n + 1) o (Int32.ofInt i) σ = (f σ).bind (fun p => c_seek_63_l4 n p.1 (Int32.ofInt i + Int32.ofInt 1) p.2)) : Reach σ o 1 σ' o' := by
  intro n i hi
  rw [h n i (by omega), hf, Option.bind_some, zadd]
  rfl
theorem turn4 {σ σ' : qC} {o' : Nat} (hf : c_makeSame_91 σ = some (o', σ')) : Reach σ 4 1 σ' o' := by
  refine turn hf (fun n i hi => ?_)
  conv => lhs; unfold c_seek_63_l4
  rw [if_neg (zleN (by omega) (by omega) (by omega) (by omega) (by omega)), if_pos (by omega), if_neg (by omega), if_pos rfl]
theorem turn8 {σ σ' : qC} {o' : Nat} (hf : c_testAparts_97 σ = some (o', σ')) : Reach σ 8 1 σ' o' := by
  refine turn hf (fun n i hi => ?_)
  conv => lhs; unfold c_seek_63_l4
  rw [if_neg (zleN (by omega) (by omega) (by omega) (by omega) (by omega)), if_pos (by omega), if_neg (by omega), if_neg (by omega), if_pos rfl]
theorem turn5 {σ σ' : qC} {o' : Nat} (hf : c_testApart_98 (c_aparts_87 σ - Int32.ofInt 1) σ = some (o', σ')) : Reach σ 5 1 σ' o' := by
  refine turn (f := fun σ => c_testApart_98 (c_aparts_87 σ - Int32.ofInt 1) σ) hf (fun n i hi => ?_)
  conv => lhs; unfold c_seek_63_l4
  rw [if_neg (zleN (by omega) (by omega) (by omega) (by omega) (by omega)), if_pos (by omega), if_neg (by omega), if_neg (by omega), if_neg (by omega), if_pos rfl]
theorem turn9 {σ σ' : qC} {o' : Nat} (hf : c_putWokenInFront_104 σ = some (o', σ')) : Reach σ 9 1 σ' o' := by
  refine turn hf (fun n i hi => ?_)
  conv => lhs; unfold c_seek_63_l4
  rw [if_neg (zleN (by omega) (by omega) (by omega) (by omega) (by omega)), if_pos (by omega), if_neg (by omega), if_neg (by omega), if_neg (by omega), if_neg (by omega), if_pos rfl]
theorem turn7 {σ σ' : qC} {o' : Nat} (hf : c_retry_109 σ = some (o', σ')) : Reach σ 7 1 σ' o' := by
  refine turn hf (fun n i hi => ?_)
  conv => lhs; unfold c_seek_63_l4
  rw [if_neg (zleN (by omega) (by omega) (by omega) (by omega) (by omega)), if_pos (by omega), if_neg (by omega), if_neg (by omega), if_neg (by omega), if_neg (by omega), if_neg (by omega), if_pos rfl]
theorem turn1 {σ σ' : qC} {o' : Nat} {x : Int} (hx : σ.1 5108 = Int32.ofInt x) (hx0 : 0 ≤ x ∧ x < 100000) (hf : c_doGoal_64 σ = some (o', σ')) : Reach σ 1 1 σ' o' := by
  refine turn hf (fun n i hi => ?_)
  conv => lhs; unfold c_seek_63_l4
  rw [if_neg (zleN (by omega) (by omega) (by omega) (by omega) (by omega)), if_pos (by omega), if_pos rfl, hx, if_neg (zeqN (by omega) (by omega) (by omega) (by omega) (by omega))]
theorem turn1e {σ : qC} (hx : σ.1 5108 = Int32.ofInt (-1)) : Reach σ 1 1 σ 2 := by
  intro n i hi
  conv => lhs; unfold c_seek_63_l4
  rw [if_neg (zleN (by omega) (by omega) (by omega) (by omega) (by omega)), if_pos (by omega), if_pos rfl, hx, if_pos rfl, zadd]
  rfl
/-- the end of the loop -/
theorem seek_end {σ : qC} {o n i : Nat} (ho : o = 2 ∨ o = 3 ∨ o = 6 ∨ o = 10) (hi : i < 1000000) : c_seek_63_l4 (n + 1) o (Int32.ofInt i) σ = some (o, σ) := by
  unfold c_seek_63_l4
  rw [if_neg (zleN (by omega) (by omega) (by omega) (by omega) (by omega)), if_pos (by omega), if_neg (by omega), if_neg (by omega), if_neg (by omega), if_neg (by omega), if_neg (by omega), if_neg (by omega)]
/-- what came of a goal, or of making same -/
def CR [Pg] (σ : qC) (o : Nat) (cls : List Cl) (r : Nat × Ma) : Prop :=
  (r.1 = 0 ∧ o = 1 ∧ CS σ cls r.2) ∨ (r.1 = 1 ∧ o = 7 ∧ CFl σ cls r.2.1 r.2.2.1 r.2.2.2.2.2) ∨ (r.1 = 2 ∧ o = 3 ∧ CFl σ cls r.2.1 r.2.2.1 r.2.2.2.2.2) ∨ (r.1 = 3 ∧ o = 6 ∧ CFl σ cls r.2.1 r.2.2.1 r.2.2.2.2.2)
theorem aSame_ok [Pg] {σ : qC} {cls : List Cl} {s bn na nc : Nat} {st : Sto} {td td0 : List Go} {ch : List Ch} {W : Wc} {t : List Ec} {ps : List (Tr × Tr)} (h : CB σ cls s bn st td ch W t na nc ps) (hps : ps.length ≤ 3) :
    ∃ k σ' o', k ≤ 3 ∧ Reach σ 4 k σ' o' ∧ CR σ' o' cls (aSame (s, bn, st, td0, ch) ps td) := by
  have hwk : st.2.1.2.2.2.2.2 = [] := h.2.2.1.2.2.2.2.1
  obtain ⟨σ1, q1, q2, q3, W1, t1, q4⟩ := makeSame_ok h hps
  obtain ⟨nv, u, ns, sg, ap⟩ := st
  dsimp only at *
  unfold aSame
  dsimp only
  have hbd := uni_bd (nv := nv) (stir := true) 502 s u false ps
  rcases hr : uni nv true 502 s u false ps with ⟨c, s1, u1, bd⟩
  rw [hr] at q1 q2 q3 q4 hbd
  dsimp only at *
  by_cases c0 : c = 0
  · rw [if_pos c0] at q1
    rw [if_neg (by omega)]
    by_cases hb : bd = false
    · rw [if_pos hb] at q1 ⊢
      have hu := (hbd hb).2
      rw [hu] at q4
      exact ⟨1, σ1, 1, by omega, turn4 q1, Or.inl ⟨rfl, rfl, q4.done hwk⟩⟩
    · rw [if_neg hb] at q1 ⊢
      obtain ⟨σ2, p1, p2, p3, p4, p5⟩ := tests_ok q4
      rcases hr2 : tall nv u1 ap s1 with ⟨c2, s2, ap2⟩
      rw [hr2] at p1 p2 p3 p4 p5
      dsimp only at *
      by_cases c20 : c2 = 0
      · rw [if_neg (by omega)]
        obtain ⟨W2, t2, p6⟩ := p5 c20
        obtain ⟨σ3, w1, w2⟩ := woken_ok p6
        have e9 : acode c2 = 9 := by rw [c20]; rfl
        rw [e9] at p1
        exact ⟨1 + (1 + 1), σ3, 1, by omega, (turn4 q1).trans ((turn8 p1).trans (turn9 w1)), Or.inl ⟨rfl, rfl, w2⟩⟩
      · rw [if_pos c20]
        refine ⟨1 + 1, σ2, acode c2, by omega, (turn4 q1).trans (turn8 p1), ?_⟩
        rcases (by omega : c2 = 1 ∨ c2 = 2) with rfl | rfl
        · exact Or.inr (Or.inl ⟨rfl, rfl, p4 c20⟩)
        · exact Or.inr (Or.inr (Or.inl ⟨rfl, rfl, p4 c20⟩))
  · rw [if_neg c0] at q1
    rw [if_pos c0]
    refine ⟨1, σ1, gcode c, by omega, turn4 q1, ?_⟩
    rcases (by omega : c = 1 ∨ c = 2) with rfl | rfl
    · exact Or.inr (Or.inl ⟨rfl, rfl, q4.fail⟩)
    · exact Or.inr (Or.inr (Or.inl ⟨rfl, rfl, q4.fail⟩))
