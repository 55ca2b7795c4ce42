/-! what the decompiled methods need -/
def qF : Nat := 16777216
def qres (p : (Int32 ⊕ Nat) × qC) (y : qC × Int64 × Nat) : qO := match p.1 with
  | .inl v => (.inl (some (.int v)), (p.2, y))
  | .inr c => (.inr c, (p.2, y.1, y.2.1, y.2.2 + 1))
def qresV (p : (Int32 ⊕ Nat) × qC) (y : qC × Int64 × Nat) : qO := match p.1 with
  | .inl _ => (.inl none, (p.2, y))
  | .inr c => (.inr c, (p.2, y.1, y.2.1, y.2.2 + 1))
theorem jsw_def {pc len t : Nat} {d lo hi : Int} {offs : Array Int} {x : Int32} {r : List Value} (h : ∀ k : Int, lo ≤ k → k ≤ hi → ¬ x = Int32.ofInt k) (ht : jtgt pc d = some t) : jjmp (.tableswitch d lo hi offs) pc len (.int x :: r) = some (t, r) := by
  unfold jjmp
  dsimp only
  unfold jsw
  rw [if_pos, ht]
  · rfl
  · by_cases h1 : x.toInt < lo
    · exact Or.inl h1
    · by_cases h2 : hi < x.toInt
      · exact Or.inr h2
      · exact absurd (Int32.ofInt_toInt x).symm (h x.toInt (by omega) (by omega))
theorem jlw_def5 {pc len t : Nat} {d a1 a2 a3 a4 a5 o1 o2 o3 o4 o5 : Int} {x : Int32} {r : List Value} (hp : ((#[(a1, o1), (a2, o2), (a3, o3), (a4, o4), (a5, o5)] : Array (Int × Int)).toList.zip ((#[(a1, o1), (a2, o2), (a3, o3), (a4, o4), (a5, o5)] : Array (Int × Int)).toList.drop 1)).all (fun (a, next) => a.1 < next.1) = true) (ht : jtgt pc d = some t)
    (c1 : ¬ x = Int32.ofInt a1) (c2 : ¬ x = Int32.ofInt a2) (c3 : ¬ x = Int32.ofInt a3) (c4 : ¬ x = Int32.ofInt a4) (c5 : ¬ x = Int32.ofInt a5) : jjmp (.lookupswitch d #[(a1, o1), (a2, o2), (a3, o3), (a4, o4), (a5, o5)]) pc len (.int x :: r) = some (t, r) := by
  unfold jjmp
  dsimp only
  have e : ∀ a : Int, ¬ x = Int32.ofInt a → ¬ a = x.toInt := fun a h z => h (by rw [z, Int32.ofInt_toInt])
  have e0 : Op.lookupswitch.offset [(a1, o1), (a2, o2), (a3, o3), (a4, o4), (a5, o5)] d x.toInt = d := by
    rw [Op.lookupswitch.offset_cons, if_neg (e _ c1), Op.lookupswitch.offset_cons, if_neg (e _ c2), Op.lookupswitch.offset_cons, if_neg (e _ c3), Op.lookupswitch.offset_cons, if_neg (e _ c4), Op.lookupswitch.offset_cons, if_neg (e _ c5), Op.lookupswitch.offset_nil]
  rw [if_pos hp]
  show (jtgt pc (Op.lookupswitch.offset [(a1, o1), (a2, o2), (a3, o3), (a4, o4), (a5, o5)] d x.toInt)).map _ = _
  rw [e0, ht]
  rfl
theorem qE.wk {S : Nat × (Nat → Int32)} {d pc : Nat} {M : jM} {a b : List (Nat × Value)} {st : List Value} {g : qG} {r : qO} (e : qE S d M (pc, a, st, g) r) (hs : jsub a b) (hn : jnd a = true) : qE S d M (pc, b, st, g) r := qE.weak hs hn e
