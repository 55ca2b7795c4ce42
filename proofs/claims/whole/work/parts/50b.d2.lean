/-! D2: THE COMMON MACHINE, pure: texts, trees, the store, the search -/
abbrev Tr : Type := List Nat → Int × Nat
def trArg (T : Tr) (i : Nat) : Tr := fun p => T (i :: p)
def lab (T : Tr) : Int := (T []).1
def ary (T : Tr) : Nat := (T []).2
def vnum (T : Tr) : Nat := (-1 - lab T).toNat
/-- the tree of variable v -/
def trVar (v : Nat) : Tr := fun p => match p with
  | [] => (-1 - (v : Int), 0)
  | _ :: _ => (0, 0)
abbrev isSm (c : Int) : Prop := 97 ≤ c ∧ c ≤ 122
abbrev isCa (c : Int) : Prop := 65 ≤ c ∧ c ≤ 90
abbrev isDi (c : Int) : Prop := 48 ≤ c ∧ c ≤ 57
/-! reading: answers (right, place, places of arguments) -/
def pA (tx : Nat → Int) (f : Nat → Bool × Nat × List Nat) : Nat → Nat → Bool × Nat × List Nat
  | 0, i => (false, i, [])
  | j + 1, i => if (f i).1 = false then (false, (f i).2.1, [i]) else
    if tx (f i).2.1 = 41 then (true, (f i).2.1 + 1, [i]) else
    if j = 0 ∨ tx (f i).2.1 ≠ 44 then (false, (f i).2.1, [i]) else
    ((pA tx f j ((f i).2.1 + 1)).1, (pA tx f j ((f i).2.1 + 1)).2.1, i :: (pA tx f j ((f i).2.1 + 1)).2.2)
def pT (tx : Nat → Int) : Nat → Nat → Bool × Nat × List Nat
  | 0, i => (false, i, [])
  | k + 1, i => if ¬ isSm (tx i) ∧ ¬ isCa (tx i) ∧ ¬ isDi (tx i) then (false, i, []) else
    if ¬ isSm (tx i) ∨ k = 0 ∨ tx (i + 1) ≠ 40 then (true, i + 1, []) else pA tx (pT tx k) 3 (i + 2)
/-- a goal: (right, place, kind, its terms' places) -/
def pG (tx : Nat → Int) (i : Nat) : Bool × Nat × Nat × Nat × Nat :=
  if tx i = 33 then (true, i + 1, 0, i, i) else
  if (pT tx 6 i).1 = false then (false, (pT tx 6 i).2.1, 0, 0, 0) else
  if tx (pT tx 6 i).2.1 = 61 then ((pT tx 6 ((pT tx 6 i).2.1 + 1)).1, (pT tx 6 ((pT tx 6 i).2.1 + 1)).2.1, 2, i, (pT tx 6 i).2.1 + 1) else
  if tx (pT tx 6 i).2.1 = 126 then ((pT tx 6 ((pT tx 6 i).2.1 + 1)).1, (pT tx 6 ((pT tx 6 i).2.1 + 1)).2.1, 3, i, (pT tx 6 i).2.1 + 1) else
  if tx (pT tx 6 i).2.1 = 60 then ((pT tx 6 ((pT tx 6 i).2.1 + 1)).1, (pT tx 6 ((pT tx 6 i).2.1 + 1)).2.1, 4, i, (pT tx 6 i).2.1 + 1) else
  if tx (pT tx 6 i).2.1 = 63 then (if isSm (tx ((pT tx 6 i).2.1 + 1)) then ((pT tx 6 ((pT tx 6 i).2.1 + 1)).1, (pT tx 6 ((pT tx 6 i).2.1 + 1)).2.1, 5, i, (pT tx 6 i).2.1 + 1) else (false, (pT tx 6 i).2.1 + 1, 0, 0, 0)) else
  (decide (isSm (tx i)), (pT tx 6 i).2.1, 1, i, i)
def pGs (tx : Nat → Int) (n : Nat) : Nat → Nat → Bool × Nat × List (Nat × Nat × Nat)
  | 0, i => (false, i, [])
  | f + 1, i => if (pG tx i).1 = false then (false, (pG tx i).2.1, []) else
    if n ≤ (pG tx i).2.1 then (true, (pG tx i).2.1, [(pG tx i).2.2]) else
    if tx (pG tx i).2.1 ≠ 44 then (false, (pG tx i).2.1, []) else
    ((pGs tx n f ((pG tx i).2.1 + 1)).1, (pGs tx n f ((pG tx i).2.1 + 1)).2.1, (pG tx i).2.2 :: (pGs tx n f ((pG tx i).2.1 + 1)).2.2)
def pC (tx : Nat → Int) (n : Nat) : Bool × Nat × List (Nat × Nat × Nat) :=
  if ¬ isSm (tx 0) then (false, 0, []) else
  if (pT tx 6 0).1 = false then (false, (pT tx 6 0).2.1, []) else
  if n ≤ (pT tx 6 0).2.1 then (true, (pT tx 6 0).2.1, []) else
  if tx (pT tx 6 0).2.1 ≠ 58 then (false, (pT tx 6 0).2.1, []) else pGs tx n 48 ((pT tx 6 0).2.1 + 1)
/-- how many of the first m letters stand in the text -/
def occ (tx : Nat → Int) (n : Nat) (c : Int) : Bool := (List.range n).any (fun i => tx i == c)
def rnk (tx : Nat → Int) (n : Nat) : Nat → Nat
  | 0 => 0
  | m + 1 => rnk tx n m + (if occ tx n (65 + (m : Int)) then 1 else 0)
/-- the tree of the term there, its variables from env on -/
def tt (tx : Nat → Int) (n : Nat) : Nat → Nat → Nat → List Nat → Int × Nat
  | 0, _, _, _ => (0, 0)
  | k + 1, i, env, [] => if isCa (tx i) then (-1 - ((env + rnk tx n (tx i - 65).toNat : Nat) : Int), 0) else (tx i, (pT tx (k + 1) i).2.2.length)
  | k + 1, i, env, j :: p => match (pT tx (k + 1) i).2.2[j]? with
    | some a => tt tx n k a env p
    | none => (0, 0)
/-- a text as it was read: characters, length, goals -/
abbrev Cl : Type := (Nat → Int) × Nat × List (Nat × Nat × Nat)
def clNv (c : Cl) : Nat := rnk c.1 c.2.1 26
def clT (c : Cl) (env i : Nat) : Tr := tt c.1 c.2.1 6 i env
/-- a goal to do: kind, terms, level -/
abbrev Go : Type := Nat × Tr × Tr × Nat
def clGoals (c : Cl) (env lvl : Nat) : List Go := c.2.2.map (fun g => (g.1, clT c env g.2.1, clT c env g.2.2, lvl))
/-! the store -/
def gup {α : Type} (f : Nat → α) (i : Nat) (v : α) : Nat → α := fun j => if j = i then v else f j
abbrev Bd : Type := Nat → Option Tr
def fnd : Nat → Bd → Tr → Tr
  | 0, _, T => T
  | k + 1, b, T => if lab T < 0 then (match b (vnum T) with
    | some U => fnd k b U
    | none => T) else T
/-- bindings; first, last, next sleeper; who sleeps where; who woke -/
abbrev Us : Type := Bd × (Nat → Int) × (Nat → Int) × (Nat → Int) × (Nat → List Nat) × List Nat
def uBind (u : Us) (v : Nat) (T : Tr) : Us := (gup u.1 v (some T), u.2)
def uJoin (u : Us) (v : Nat) (a z : Int) (l : List Nat) : Us :=
  if a < 0 then u else
  if u.2.2.1 v < 0 then (u.1, gup u.2.1 v a, gup u.2.2.1 v z, u.2.2.2.1, gup u.2.2.2.2.1 v l, u.2.2.2.2.2)
  else (u.1, u.2.1, gup u.2.2.1 v z, gup u.2.2.2.1 (u.2.2.1 v).toNat a, gup u.2.2.2.2.1 v (u.2.2.2.2.1 v ++ l), u.2.2.2.2.2)
def uMove (u : Us) (hi lo : Nat) : Us := uJoin (u.1, u.2.1, u.2.2.1, u.2.2.2.1, gup u.2.2.2.2.1 hi [], u.2.2.2.2.2) lo (u.2.1 hi) (u.2.2.1 hi) (u.2.2.2.2.1 hi)
def uWake (u : Us) (v : Nat) : Us := (u.1, u.2.1, u.2.2.1, u.2.2.2.1, gup u.2.2.2.2.1 v [], u.2.2.2.2.2 ++ u.2.2.2.2.1 v)
def prs (X Y : Tr) (n : Nat) : List (Tr × Tr) := (List.range n).map (fun i => (trArg X i, trArg Y i))
/-- two found terms: none: they differ; else what is bound, and the pairs of their arguments -/
def uni1 (stir : Bool) (u : Us) (bd : Bool) (X Y : Tr) : Option (Us × Bool × List (Tr × Tr)) :=
  if lab X < 0 then
    if lab Y < 0 then
      if vnum X = vnum Y then some (u, bd, [])
      else if vnum X < vnum Y then some (if stir then uMove (uBind u (vnum Y) X) (vnum Y) (vnum X) else uBind u (vnum Y) X, true, [])
      else some (if stir then uMove (uBind u (vnum X) Y) (vnum X) (vnum Y) else uBind u (vnum X) Y, true, [])
    else some (if stir then uWake (uBind u (vnum X) Y) (vnum X) else uBind u (vnum X) Y, true, [])
  else if lab Y < 0 then some (if stir then uWake (uBind u (vnum Y) X) (vnum Y) else uBind u (vnum Y) X, true, [])
  else if lab X = lab Y ∧ ary X = ary Y then some (u, bd, prs X Y (ary X)) else none
/-- code 0 same, 1 fails, 2 too many; steps; store; something bound -/
def uni (nv : Nat) (stir : Bool) : Nat → Nat → Us → Bool → List (Tr × Tr) → Nat × Nat × Us × Bool
  | 0, s, u, bd, _ => (2, s, u, bd)
  | _ + 1, s, u, bd, [] => (0, s, u, bd)
  | f + 1, s, u, bd, (x, y) :: r => if 500 ≤ s then (2, s, u, bd) else
    match uni1 stir u bd (fnd (nv + 1) u.1 x) (fnd (nv + 1) u.1 y) with
    | none => (1, s + 1, u, bd)
    | some (u', bd', ps) => uni nv stir f (s + 1) u' bd' (ps ++ r)
/-- all aparts are tested: code, steps, those that wait on -/
def tall (nv : Nat) (u : Us) : List (Tr × Tr) → Nat → Nat × Nat × List (Tr × Tr)
  | [], s => (0, s, [])
  | (x, y) :: r, s => match uni nv false 502 s u false [(x, y)] with
    | (c, s1, _, bd) => if c = 2 then (2, s1, []) else if c = 1 then tall nv u r s1 else if bd = false then (1, s1, []) else
      match tall nv u r s1 with
      | (c2, s2, l) => (c2, s2, (x, y) :: l)
/-- variables, bindings and sleepers, goals that sleep, aparts that wait -/
abbrev Sto : Type := Nat × Us × Nat × (Nat → Tr) × List (Tr × Tr)
/-- a choice: the call, the next clause, what was to do, the store -/
abbrev Ch : Type := Tr × Nat × List Go × Sto
/-- steps, variables born, store, to do, choices (the newest first) -/
abbrev Ma : Type := Nat × Nat × Sto × List Go × List Ch
/-- code: 0 go on, 1 fail, 2 too many steps, 3 no digits -/
def aSame (m : Ma) (ps : List (Tr × Tr)) (rest : List Go) : Nat × Ma := match m with
  | (s, bn, (nv, u, ns, sg, ap), td, ch) => match uni nv true 502 s u false ps with
    | (c, s1, u1, bd) => if c ≠ 0 then (c, (s1, bn, (nv, u, ns, sg, ap), td, ch)) else
      if bd = false then (0, (s1, bn, (nv, u, ns, sg, ap), rest, ch)) else
      match tall nv u1 ap s1 with
      | (c2, s2, ap2) => if c2 ≠ 0 then (c2, (s2, bn, (nv, u, ns, sg, ap), td, ch)) else
        (0, (s2, bn, (nv, (u1.1, u1.2.1, u1.2.2.1, u1.2.2.2.1, u1.2.2.2.2.1, []), ns, sg, ap2), u1.2.2.2.2.2.map (fun e => ((1, sg e, sg e, 0) : Go)) ++ rest, ch))
def fitA (X : Tr) (cl : Cl) : Bool := decide (lab (clT cl 0 0) = lab X) && decide (ary (clT cl 0 0) = ary X)
def nfit (cls : List Cl) (X : Tr) (i : Nat) : Nat := i + (cls.drop i).findIdx (fitA X)
def uNew (u : Us) (nv : Nat) : Us := (fun v => if nv ≤ v then none else u.1 v, fun v => if nv ≤ v then -1 else u.2.1 v, fun v => if nv ≤ v then -1 else u.2.2.1 v, u.2.2.2.1, fun v => if nv ≤ v then [] else u.2.2.2.2.1 v, u.2.2.2.2.2)
def clNil : Cl := (fun _ => 0, 0, [])
def aTake (cls : List Cl) (m : Ma) (c : Nat) (X : Tr) (rest : List Go) (lvl : Nat) : Nat × Ma := match m with
  | (s, bn, (nv, u, ns, sg, ap), td, ch) =>
    aSame (s, bn + clNv (cls.getD c clNil), (nv + clNv (cls.getD c clNil), uNew u nv, ns, sg, ap), td, ch) (prs (clT (cls.getD c clNil) nv 0) X (ary (clT (cls.getD c clNil) nv 0))) (clGoals (cls.getD c clNil) nv lvl ++ rest)
def aDo (cls : List Cl) (g : Go) (m : Ma) : Nat × Ma := match g, m with
  | (k, X, Y, lvl), (s, bn, (nv, u, ns, sg, ap), rest, ch) =>
    if k = 0 then (0, (s, bn, (nv, u, ns, sg, ap), rest, ch.drop (ch.length - lvl))) else
    if k = 1 then (if cls.length ≤ nfit cls X 0 then (1, (s, bn, (nv, u, ns, sg, ap), rest, ch)) else
      aTake cls (s, bn, (nv, u, ns, sg, ap), rest, if cls.length ≤ nfit cls X (nfit cls X 0 + 1) then ch else (X, nfit cls X (nfit cls X 0 + 1), rest, (nv, u, ns, sg, ap)) :: ch) (nfit cls X 0) X rest ch.length) else
    if k = 2 then aSame (s, bn, (nv, u, ns, sg, ap), rest, ch) [(X, Y)] rest else
    if k = 3 then (match uni nv false 502 s u false [(X, Y)] with
      | (c, s1, _, bd) => if c = 2 then (2, (s1, bn, (nv, u, ns, sg, ap), rest, ch)) else if c = 1 then (0, (s1, bn, (nv, u, ns, sg, ap), rest, ch)) else
        if bd = false then (1, (s1, bn, (nv, u, ns, sg, ap), rest, ch)) else (0, (s1, bn, (nv, u, ns, sg, ap ++ [(X, Y)]), rest, ch))) else
    if k = 4 then (if isDi (lab (fnd (nv + 1) u.1 X)) ∧ isDi (lab (fnd (nv + 1) u.1 Y)) then (if lab (fnd (nv + 1) u.1 X) < lab (fnd (nv + 1) u.1 Y) then 0 else 1, (s, bn, (nv, u, ns, sg, ap), rest, ch)) else (3, (s, bn, (nv, u, ns, sg, ap), rest, ch))) else
    if lab (fnd (nv + 1) u.1 X) < 0 then (0, (s, bn, (nv, uJoin (u.1, u.2.1, u.2.2.1, gup u.2.2.2.1 ns (-1), u.2.2.2.2) (vnum (fnd (nv + 1) u.1 X)) ns ns [ns], ns + 1, gup sg ns Y, ap), rest, ch))
    else (0, (s, bn, (nv, u, ns, sg, ap), (1, Y, Y, 0) :: rest, ch))
def aBack (cls : List Cl) (m : Ma) (X : Tr) (c : Nat) (rest : List Go) (st : Sto) (ch : List Ch) : Nat × Ma :=
  aTake cls (m.1, m.2.1, st, rest, if cls.length ≤ nfit cls X (c + 1) then ch else (X, nfit cls X (c + 1), rest, st) :: ch) c X rest ch.length
def aRun (cls : List Cl) : Nat → Nat → Ma → Nat × Ma
  | 0, _, m => (9, m)
  | f + 1, ph, m => if ph = 0 then (match m with
      | (_, _, _, [], _) => (0, m)
      | (s, bn, st, g :: rest, ch) => if 500 ≤ s then (2, m) else (match aDo cls g (s + 1, bn, st, rest, ch) with
        | (c, m1) => aRun cls f c m1))
    else if ph = 1 then (match m with
      | (_, _, _, _, []) => (1, m)
      | (_, _, _, _, (X, c, rest, st) :: ch) => (match aBack cls m X c rest st ch with
        | (c1, m1) => aRun cls f c1 m1))
    else (ph, m)
