/-! THE SECOND SMALL MACHINE: its memory is numbers alone (class and model apart), a Table's methods are words of it -/
abbrev qC : Type := (Nat → Int32) × (Nat → Nat → Int32)
/-- class, model, the law's out, how many were thrown -/
abbrev qG : Type := qC × qC × Int64 × Nat
/-- pc, locals, stack, memory -/
abbrev qS : Type := Nat × List (Nat × Value) × List Value × qG
def upS (σ : qC) (k : Nat) (v : Int32) : qC := (fun i => bif Nat.beq i k then v else σ.1 i, σ.2)
def upA (σ : qC) (a i : Nat) (v : Int32) : qC := (σ.1, fun b => bif Nat.beq b a then upd (σ.2 a) i v else σ.2 b)
def qgs (g : qG) (a k : Nat) : Int32 := bif Nat.blt a 64 then g.1.1 (100 * a + k) else g.2.1.1 (100 * a + k)
def qps (g : qG) (a k : Nat) (v : Int32) : qG := bif Nat.blt a 64 then (upS g.1 (100 * a + k) v, g.2) else (g.1, upS g.2.1 (100 * a + k) v, g.2.2)
def qga (g : qG) (a : Nat) : Nat → Int32 := bif Nat.blt a 64 then g.1.2 a else g.2.1.2 a
def qpa (g : qG) (a i : Nat) (v : Int32) : qG := bif Nat.blt a 64 then (upA g.1 a i v, g.2) else (g.1, upA g.2.1 a i v, g.2.2)
/-- an index that is out -/
def qob (n : Nat) (j : Int32) : Bool := decide (j < 0) || Nat.ble n j.toNatClampNeg
/-- a Table's words: where, width -/
def tat (σ : qC) (t w : Nat) (row col : Int32) : Int32 := if row * Int32.ofNat w + col < 0 then 0 else σ.2 t (row * Int32.ofNat w + col).toNatClampNeg
def tputB (w : Nat) (row col : Int32) : Bool := decide (row * Int32.ofNat w + col < 0) || Nat.ble 131072 (row * Int32.ofNat w + col).toNatClampNeg
def tput (σ : qC) (t w : Nat) (row col v : Int32) : qC := upA σ t (row * Int32.ofNat w + col).toNatClampNeg v
def tappB (σ : qC) (t w : Nat) : Bool := decide (σ.1 (100 * t + 2) < 0) || Nat.blt 131072 (((σ.1 (100 * t + 2)).toNatClampNeg + 1) * w)
def tapp (σ : qC) (t w : Nat) (a b c d : Int32) : qC :=
  upS (upA (upA (upA (upA σ t ((σ.1 (100 * t + 2)).toNatClampNeg * w) a) t ((σ.1 (100 * t + 2)).toNatClampNeg * w + 1) b) t ((σ.1 (100 * t + 2)).toNatClampNeg * w + 2) c) t ((σ.1 (100 * t + 2)).toNatClampNeg * w + 3) d) (100 * t + 2) (σ.1 (100 * t + 2) + 1)
def tshr (σ : qC) (t : Nat) (f : Int32) : qC := if f < 0 then σ else if σ.1 (100 * t + 2) ≤ f then σ else upS σ (100 * t + 2) f
def qd : List (Nat × Nat × List Nat) := [(0, 0, []), (1, 0, []), (1, 0, []), (1, 0, []), (1, 0, []), (1, 0, []), (1, 0, []), (1, 0, []), (1, 0, []), (1, 0, []), (1, 0, []), (2, 0, []), (2, 0, []), (2, 0, []), (2, 0, []), (2, 0, []), (2, 0, []), (2, 0, []), (2, 0, []), (2, 0, []), (2, 0, []), (2, 0, []), (2, 0, []), (2, 0, []), (3, 10, [26, 28, 33, 34, 36, 45, 52, 59, 64, 0, 0, 0]), (3, 7, [27, 0]), (4, 48, []), (3, 0, [29, 31]), (6, 9, []), (7, 0, []), (6, 4, []), (7, 0, []), (3, 3, [28, 26, 0, 0]), (3, 1, [28, 35, 0]), (5, 12, []), (3, 5, [28, 37, 39, 41, 43, 0]), (6, 4, []), (7, 0, []), (6, 4, []), (7, 0, []), (6, 4, []), (7, 0, []), (6, 4, []), (7, 0, []), (3, 2, [28, 36, 46, 48, 50, 51, 0]), (6, 4, []), (7, 0, []), (6, 4, []), (7, 0, []), (3, 8, [0, 0, 0]), (3, 8, [0, 0, 0]), (3, 4, [28, 34, 36, 45, 53, 55, 57, 58, 0]), (6, 4, []), (7, 0, []), (6, 9, []), (7, 0, []), (3, 8, [0, 0, 0]), (3, 8, [0, 0, 0]), (3, 9, [28, 36, 60, 61, 63]), (4, 80, []), (6, 4, []), (7, 0, []), (3, 8, [0, 0, 0]), (3, 8, [0, 0, 0]), (3, 11, [66, 67, 68, 69, 70, 71, 72, 0, 0, 0, 0, 0, 0, 0, 73, 74, 75, 76, 77, 78, 79, 80, 81, 82, 83, 0, 0, 0, 0, 0, 0, 0, 0, 0, 0, 0, 0, 0, 0, 0, 0, 84, 85, 86, 87, 88, 89, 90, 91, 92, 93, 94, 95, 96, 97, 98, 99, 100, 101, 102, 103, 104, 105, 0]), (5, 48, []), (5, 624, []), (5, 12, []), (5, 8, []), (5, 8, []), (5, 26, []), (5, 26, []), (5, 24000, []), (5, 24000, []), (5, 72000, []), (5, 13000, []), (5, 13000, []), (5, 13000, []), (5, 14000, []), (5, 14000, []), (5, 14000, []), (5, 14000, []), (5, 14000, []), (5, 6000, []), (5, 6000, []), (5, 1200, []), (5, 1200, []), (5, 600, []), (5, 600, []), (5, 600, []), (5, 2200, []), (5, 2200, []), (5, 600, []), (5, 1200, []), (5, 600, []), (5, 600, []), (5, 600, []), (5, 600, []), (5, 600, []), (5, 600, []), (5, 600, []), (5, 600, []), (5, 600, []), (5, 80, []), (5, 800, []), (8, 0, [])]
def qhp (G : jG) (S : Nat × (Nat → Int32)) (cn : Nat) (i : Instr) (st : List Value) (g : qG) : Option (List Value × qG × Nat) := match i with
  | .getfield idx => match st with
    | .ref a :: r => match G.1 cn idx with
      | some (ci, k, _) => match qd[a]? with
        | some (3, cj, fl) => bif Nat.beq cj ci then match fl[k]? with
          | some 0 => some (.int (qgs g a k) :: r, g, 3)
          | some (x + 1) => some (.ref x :: r, g, 3)
          | none => none
          else none
        | _ => none
      | none => none
    | _ => none
  | .putfield idx => match st with
    | .int v :: .ref a :: r => match G.1 cn idx with
      | some (ci, k, kd) => match qd[a]? with
        | some (3, cj, fl) => bif Nat.beq cj ci && Nat.blt kd 10 then match fl[k]? with
          | some 0 => if jfit (kd % 10) (.int v) = false then none else some (r, qps g a k v, 3)
          | _ => none
          else none
        | _ => none
      | none => none
    | _ => none
  | .getstatic idx => match G.2.2.1 cn idx with
    | some v => some (v :: st, g, 3)
    | none => none
  | .ldc idx => match G.2.2.2 cn idx with
    | some (.int x) => some (.int x :: st, g, 2)
    | some (.ref a) => some (.ref a :: st, g, 2)
    | _ => none
  | .ldc_w idx => match G.2.2.2 cn idx with
    | some (.int x) => some (.int x :: st, g, 3)
    | _ => none
  | .ldc2_w idx => match G.2.2.2 cn idx with
    | some (.long x) => some (.long x :: st, g, 3)
    | _ => none
  | .arraylength => match st with
    | .ref a :: r => match qd[a]? with
      | some (4, n, _) => some (.int (Int32.ofNat n) :: r, g, 1)
      | some (5, n, _) => some (.int (Int32.ofNat n) :: r, g, 1)
      | some (0, _, _) => some (.int (Int32.ofNat S.1) :: r, g, 1)
      | _ => none
    | _ => none
  | .iaload => match st with
    | .int j :: .ref a :: r => match qd[a]? with
      | some (5, n, _) => if qob n j = true then none else some (.int (qga g a j.toNatClampNeg) :: r, g, 1)
      | some (0, _, _) => if qob S.1 j = true then none else some (.int (S.2 j.toNatClampNeg) :: r, g, 1)
      | _ => none
    | _ => none
  | .caload => match st with
    | .int j :: .ref a :: r => match qd[a]? with
      | some (4, n, _) => if qob n j = true then none else some (.int (qga g a j.toNatClampNeg) :: r, g, 1)
      | _ => none
    | _ => none
  | .laload => match st with
    | .int j :: .ref a :: r => match qd[a]? with
      | some (8, _, _) => if qob 1 j = true then none else some (.long g.2.2.1 :: r, g, 1)
      | _ => none
    | _ => none
  | .iastore => match st with
    | .int x :: .int j :: .ref a :: r => match qd[a]? with
      | some (5, n, _) => if qob n j = true then none else some (r, qpa g a j.toNatClampNeg x, 1)
      | _ => none
    | _ => none
  | .castore => match st with
    | .int x :: .int j :: .ref a :: r => match qd[a]? with
      | some (4, n, _) => if qob n j = true then none else some (r, qpa g a j.toNatClampNeg (vp_nar .char x), 1)
      | _ => none
    | _ => none
  | .lastore => match st with
    | .long x :: .int j :: .ref a :: r => match qd[a]? with
      | some (8, _, _) => if qob 1 j = true then none else some (r, (g.1, g.2.1, x, g.2.2.2), 1)
      | _ => none
    | _ => none
  | _ => none
/-- a Table's methods -/
def qtab (z : Nat) (as : List Value) (g : qG) : Option (Option Value × qG) := match as with
  | .ref t :: bs => match qd[t]? with
    | some (6, w, _) => match z, bs with
      | 15, [] => some (some (.int (g.1.1 (100 * t + 2))), g)
      | 18, [.int r, .int c] => some (some (.int (tat g.1 t w r c)), g)
      | 30, [.int r, .int c, .int v] => if tputB w r c = true then none else some (none, (tput g.1 t w r c v, g.2))
      | 57, [.int f] => some (none, (tshr g.1 t f, g.2))
      | 61, [.int a, .int b, .int c, .int d] => if tappB g.1 t w = true then none else some (some (.int (g.1.1 (100 * t + 2))), (tapp g.1 t w a b c d, g.2))
      | _, _ => none
    | _ => none
  | _ => none
def qcls (a : Nat) : Option Nat := match qd[a]? with
  | some (3, ci, _) => some ci
  | some (6, _, _) => some 6
  | _ => none
def qcall (gM : jL) (cn : Nat) (i : Instr) (len : Nat) (st : List Value) : Option (Nat × List Value × List Value) := match i with
  | .invokevirtual idx => match gM cn idx with
    | some (0, z, n, ci) => bif Nat.beq len 3 && Nat.ble n st.length then match (st.take n).reverse with
      | .ref b :: as => match qcls b with
        | some cj => bif Nat.beq cj ci then some (z, .ref b :: as, st.drop n) else none
        | none => none
      | _ => none
      else none
    | _ => none
  | .invokestatic idx => match gM cn idx with
    | some (2, z, n, _) => bif Nat.beq len 3 && Nat.ble n st.length then some (z, (st.take n).reverse, st.drop n) else none
    | _ => none
  | _ => none
def qisT (z : Nat) : Bool := Nat.beq z 15 || (Nat.beq z 18 || (Nat.beq z 30 || (Nat.beq z 57 || Nat.beq z 61)))
def qcat (r : List Value) : Bool := Nat.ble (r.map fun v => v.category).sum 8
/-- plain steps: words, and calls of a Table's methods -/
def qstep (T : jT) (S : Nat × (Nat → Int32)) (M : jM) (s : qS) : Option qS := match M.2.2.2.2.2.2.1 s.1 with
  | none => none
  | some (i, len) => match jstk i s.2.2.1 with
    | some (st', k) => bif Nat.beq k len then some (s.1 + len, s.2.1, st', s.2.2.2) else none
    | none => match jloc i M.2.2.1 s.2.1 s.2.2.1 with
      | some (lv', st', k) => bif Nat.beq k len then some (s.1 + len, lv', st', s.2.2.2) else none
      | none => match jjmp i s.1 len s.2.2.1 with
        | some (pc', st') => some (pc', s.2.1, st', s.2.2.2)
        | none => match qhp T.1 S M.2.2.2.2.1 i s.2.2.1 s.2.2.2 with
          | some (st', g', k) => bif Nat.beq k len then some (s.1 + len, s.2.1, st', g') else none
          | none => match qcall T.2.1 M.2.2.2.2.1 i len s.2.2.1 with
            | some (z, as, r) => bif qisT z && qcat r then match qtab z as s.2.2.2 with
              | some (v, g') => some (s.1 + 3, s.2.1, v.toList ++ r, g')
              | none => none
              else none
            | none => none
/-- a handler that only answers a number -/
def qhand (M : jM) (pc ci : Nat) : Option Int32 := match M.2.2.2.2.2.2.2.find? (fun q => Nat.ble q.1.1 pc && (Nat.blt pc q.1.2.1 && (q.2.any (fun c => Nat.beq c ci)))) with
  | some q => match M.2.2.2.2.2.2.1 q.1.2.2.1 with
    | some (.astore_n k, 1) => match M.2.2.2.2.2.2.1 (q.1.2.2.1 + 1), M.2.2.2.2.2.2.1 (q.1.2.2.1 + 2), M.2.2.2.1 with
      | some (.iconst c, 1), some (.ireturn, 1), some .int => bif Nat.blt k.val M.2.2.1 then some (Int32.ofInt c) else none
      | _, _, _ => none
    | some (.astore k, 2) => match M.2.2.2.2.2.2.1 (q.1.2.2.1 + 2), M.2.2.2.2.2.2.1 (q.1.2.2.1 + 3), M.2.2.2.1 with
      | some (.iconst c, 1), some (.ireturn, 1), some .int => bif Nat.blt k M.2.2.1 then some (Int32.ofInt c) else none
      | _, _, _ => none
    | _ => none
  | none => none
abbrev qO : Type := (Option Value ⊕ Nat) × qG
def qthr (T : jT) (M : jM) (s : qS) : Option Nat := match M.2.2.2.2.2.2.1 s.1 with
  | none => none
  | some (i, len) => jthr T 24 M i len s.1 s.2.2.1
/-- what stands here when it is no plain step: the end, or a call -/
def qat (T : jT) (M : jM) (s : qS) : Option (Option Value ⊕ (Nat × List Value × List Value)) := match M.2.2.2.2.2.2.1 s.1 with
  | none => none
  | some (i, len) => match jend M.2.2.2.1 i len s.2.2.1 with
    | some v => some (.inl v)
    | none => match qcall T.2.1 M.2.2.2.2.1 i len s.2.2.1 with
      | some (z, as, r) => bif qisT z then none else (bif qcat r then some (.inr (z, as, r)) else none)
      | none => none
def qbody (T : jT) (S : Nat × (Nat → Int32)) (rec : Nat → jM → qS → Option qO) (d : Nat) (M : jM) (s : qS) : Option qO :=
  if d < 9 then none else
  match qstep T S M s with
  | some s' => rec d M s'
  | none => match qat T M s with
    | some (.inl v) => some (.inl v, s.2.2.2)
    | some (.inr (z, as, r)) => match T.2.2.1 z with
      | none => none
      | some Z => if Z.2.2.1 < (lg_sl as).length then none else match rec (d - 1) Z (0, lv_args 0 as, [], s.2.2.2) with
        | some (.inl v, g') => rec d M (s.1 + 3, s.2.1, v.toList ++ r, g')
        | some (.inr ci, g') => match M.2.2.2.2.2.2.2 with
          | [] => some (.inr ci, g')
          | _ :: _ => match qhand M s.1 ci with
            | some c => some (.inl (some (.int c)), g')
            | none => none
        | none => none
    | none => match qthr T M s with
      | some ci => some (.inr ci, (s.2.2.2.1, s.2.2.2.2.1, s.2.2.2.2.2.1, s.2.2.2.2.2.2 + 1))
      | none => none
def qrun (T : jT) (S : Nat × (Nat → Int32)) : Nat → Nat → jM → qS → Option qO
  | 0 => fun _ _ _ => none
  | n + 1 => qbody T S (qrun T S n)
