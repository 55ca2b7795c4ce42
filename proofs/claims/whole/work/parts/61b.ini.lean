/-! the first state, in numbers -/
def getH (r : Option jO) : jH := match r with
  | some (_, h) => h
  | none => []
def endB (r : Option jO) : Bool := match r with
  | some (.inl none, h) => Nat.beq h.length 64
  | _ => false
theorem getH_ok (r : Option jO) (hb : endB r = true) : r = some (.inl none, getH r) ∧ (getH r).length = 64 := by
  cases r with
  | none => cases hb
  | some q =>
    obtain ⟨o, h⟩ := q
    cases o with
    | inl v =>
      cases v with
      | none => exact ⟨rfl, Nat.eq_of_beq_eq_true hb⟩
      | some v => cases hb
    | inr c => cases hb
set_option maxRecDepth 100000 in
theorem ini_b : endB ini_r = true := by decide +kernel
theorem ini_some : ini_r = some (.inl none, getH ini_r) ∧ (getH ini_r).length = 64 := getH_ok ini_r ini_b
def iniS (P : jH) (a k : Nat) : Int32 := match P[a]? with
  | some (.inr (_, fs)) => (match fs[k]? with
    | some (.int x) => x
    | _ => 0)
  | _ => 0
def iniA (P : jH) (a : Nat) : Nat → Int32 := match P[a]? with
  | some (.inl (_, _, .inl f)) => f
  | _ => fun _ => 0
def iniLen (P : jH) (a : Nat) : Nat := match P[a]? with
  | some (.inl (_, n, _)) => n
  | _ => 0
def iniT (P : jH) (t : Nat) : Nat → Int32 := fun i => if i < iniLen P (t + 1) then iniA P (t + 1) i else 0
def sig0 (P : jH) : qC := (fun j => iniS P (j / 100) (j % 100), fun a => bif qtabs.contains a then iniT P a else iniA P a)
def tau0 : qC := (fun j => bif Nat.beq j 6409 then -1 else 0, fun _ _ => 0)
def gg0 (P : jH) : qG := (sig0 P, tau0, 0, 0)
def chkF : List Nat → List Value → Bool
  | [], [] => true
  | 0 :: r, .int _ :: s => chkF r s
  | (x + 1) :: r, .ref y :: s => Nat.beq x y && chkF r s
  | _, _ => false
def ck1 (P : jH) (a m : Nat) : Bool := match P[a]? with
  | some (.inr (k, [])) => Nat.beq k m && !(Nat.beq a 0)
  | _ => false
def ck3 (P : jH) (a n : Nat) (fl : List Nat) : Bool := match P[a]? with
  | some (.inr (ci, fs)) => Nat.beq ci n && (chkF fl fs && !(Nat.beq a 0))
  | _ => false
def ck4 (P : jH) (a n : Nat) : Bool := match P[a]? with
  | some (.inl (.char, m, .inl _)) => Nat.beq m n && (!(Nat.beq a 0) && !(qtabs.contains a))
  | _ => false
def ck5 (P : jH) (a n : Nat) : Bool := match P[a]? with
  | some (.inl (.int, m, .inl _)) => Nat.beq m n && (!(Nat.beq a 0) && !(qtabs.contains a))
  | _ => false
def ck6 (P : jH) (a n : Nat) : Bool := match P[a]? with
  | some (.inr (k, [.int w, .ref t, .int _])) => Nat.beq k 6 && (decide (w = Int32.ofNat n) && (Nat.beq t (a + 1) && !(Nat.beq a 0)))
  | _ => false
def chk1 (P : jH) (a : Nat) (q : Nat × Nat × List Nat) : Bool := match q.1 with
  | 0 => Nat.beq a 0
  | 1 => ck1 P a 98
  | 2 => ck1 P a 99
  | 3 => ck3 P a q.2.1 q.2.2
  | 4 => ck4 P a q.2.1
  | 5 => ck5 P a q.2.1
  | 6 => ck6 P a q.2.1
  | _ => true
def chkA (P : jH) : Bool := ((qd.take 64).mapIdx (fun a q => chk1 P a q)).all (fun b => b)
set_option maxRecDepth 100000 in
theorem ini_chk : chkA (getH ini_r) = true := by decide +kernel
def chkT (P : jH) (t : Nat) : Bool := match P[t + 1]? with
  | some (.inl (.int, n, .inl _)) => Nat.ble 32 n && (Nat.ble n 262144 && (match qd[t + 1]? with
    | some (k, _, _) => Nat.beq k 7
    | none => false))
  | _ => false
def chkTs (P : jH) : Bool := qtabs.all (fun t => chkT P t)
set_option maxRecDepth 100000 in
theorem ini_tab : chkTs (getH ini_r) = true := by decide +kernel
def iniX : jH := .inr (11, qmod) :: qarrs
def chkN (P : jH) : Bool := Nat.beq (jtot P + (jtot iniX + 1)) 259170
set_option maxRecDepth 100000 in
theorem ini_tot : chkN (getH ini_r) = true := by decide +kernel
def chk0 (P : jH) : Bool := match P[(0 : Nat)]? with
  | some (.inr (k, [])) => Nat.beq k 97
  | _ => false
set_option maxRecDepth 100000 in
theorem ini_0 : chk0 (getH ini_r) = true := by decide +kernel
def chkS (P : jH) : Bool := decide ((sig0 P).1 2409 = Int32.ofInt (-1)) && (decide ((sig0 P).1 2410 = Int32.ofInt 0) && (decide ((sig0 P).1 2501 = Int32.ofInt 0) && (decide ((sig0 P).1 3302 = Int32.ofInt 0) && ((List.range 12).all (fun i => decide ((sig0 P).2 34 i = Int32.ofInt ((i + 1 : Nat) : Int))) && [36, 38, 40, 42, 45, 47, 52, 54, 60].all (fun t => decide ((sig0 P).1 (100 * t + 2) = Int32.ofInt 0))))))
set_option maxRecDepth 100000 in
theorem ini_num : chkS (getH ini_r) = true := by decide +kernel
theorem ini_all : ∃ P : jH, ini_r = some (.inl none, P) ∧ P.length = 64 ∧ chkA P = true ∧ chkTs P = true ∧ chkN P = true ∧ chk0 P = true ∧ chkS P = true := ⟨getH ini_r, ini_some.1, ini_some.2, ini_chk, ini_tab, ini_tot, ini_0, ini_num⟩
theorem chk0_ok {h : jH} (hb : chk0 h = true) : h[0]? = some (.inr (97, [])) := by
  unfold chk0 at hb
  split at hb
  · rename_i k e
    rw [e, Nat.eq_of_beq_eq_true hb]
  · cases hb
theorem chkF_ok (f : Nat → Int32) : ∀ (l : List Nat) (fs : List Value) (k : Nat), chkF l fs = true → (∀ j x, fs[j]? = some (.int x) → f (k + j) = x) → fs = l.mapIdx (fun j x => match x with
    | 0 => .int (f (k + j))
    | x + 1 => .ref x)
  | [], [], k, _, _ => rfl
  | [], _ :: _, k, h, _ => by cases h
  | 0 :: r, .int v :: s, k, h, hf => by
    rw [List.mapIdx_cons]
    have e1 := hf 0 v rfl
    have e2 := chkF_ok f r s (k + 1) h (fun j x hj => by
      rw [show k + 1 + j = k + (j + 1) by omega]
      exact hf (j + 1) x (by simpa using hj))
    dsimp only
    rw [e1]
    congr 1
    rw [e2]
    apply List.ext_getElem?
    intro j
    rw [List.getElem?_mapIdx, List.getElem?_mapIdx]
    simp only [show k + 1 + j = k + (j + 1) by omega]
  | (y + 1) :: r, .ref z :: s, k, h, hf => by
    rw [List.mapIdx_cons]
    have h' : (Nat.beq y z && chkF r s) = true := h
    rw [Bool.and_eq_true] at h'
    have e2 := chkF_ok f r s (k + 1) h'.2 (fun j x hj => by
      rw [show k + 1 + j = k + (j + 1) by omega]
      exact hf (j + 1) x (by simpa using hj))
    dsimp only
    rw [Nat.eq_of_beq_eq_true h'.1]
    congr 1
    rw [e2]
    apply List.ext_getElem?
    intro j
    rw [List.getElem?_mapIdx, List.getElem?_mapIdx]
    simp only [show k + 1 + j = k + (j + 1) by omega]
