section JOfRun
theorem jhd_len (L : Nat) (xs : Nat → Int32) : (jhd L xs).length = 24 := rfl
theorem jend_b {i : Instr} {len : Nat} {st : List Value} {v : Int32} (h : jend (some .boolean) i len st = some (some (.int v))) : i = .ireturn ∧ len = 1 ∧ st = [.int v] := by
  unfold jend at h
  split at h
  · split at h
    · rename_i hr; cases hr
    · split at h
      · rename_i hl; cases h; exact ⟨rfl, hl.1, rfl⟩
      · cases h
    · cases h
  · split at h
    · rename_i hr; cases hr
    · cases h
  · split at h
    · rename_i hr; cases hr
    · rename_i hr; cases hr
    · rename_i hr; cases hr
    · rename_i hr; cases hr
    · cases h
  · split at h
    · rename_i hr; cases hr
    · cases h
  · cases h
/-- THE CLAIM'S WALK OUT OF A RUN OF THE SMALL MACHINE -/
theorem jwhole {p : Program} {e : Env} {s : State} {m : MethodId} {below : List Frame} {meth : Method} {c : Code} (l : Launch) {b L : Nat} {xs : Nat → Int32} (C0 : lw_At p s m meth c b L xs) (hex : c.exceptionTable.toList = [])
    (hThr : ∀ (D : va_G) (tys : List (ClassId × FieldType)) (dA : FieldType → ClassId) (ad st : Nat → Nat) (sz : Nat), jOK D cl0 tys (jal b ad st sz) dA 24 sz (jSP b L xs ad st sz) TB0 (jhd L xs) jT0 → jThrowOK l D cl0 tys (jal b ad st sz) dA 24 sz (jSP b L xs ad st sz) TB0 jT0)
    (hCat : ∀ (D : va_G) (tys : List (ClassId × FieldType)) (dA : FieldType → ClassId) (ad st : Nat → Nat) (sz : Nat), jOK D cl0 tys (jal b ad st sz) dA 24 sz (jSP b L xs ad st sz) TB0 (jhd L xs) jT0 → jCatchOK l D cl0 tys (jal b ad st sz) dA 24 sz (jSP b L xs ad st sz) TB0 jT0)
    {n : Nat} {h' : jH} (hrun : jrun jT0 24 n 1000 jm_law (0, [(0, .ref 0)], [], jhd L xs) = some (.inl (some (.int 1)), h')) (hc : h'.length - 24 ≤ room_1.cells) (hs : jtot h' - jtot (jhd L xs) ≤ room_1.slots) :
    W p l e room_1 s m #[Value.ref b] below meth c s.heap [] 0 0 (lw_Z below #[Value.ref b] s) (entryFrame m ([Value.ref b] : List Value).toArray 7) := by
  obtain ⟨D, tys, dA, ad, st, O, hK, hSP⟩ := jentry C0
  obtain ⟨hx, hb, hr, hml, hown, hts, hX, hbl, hlocks, hgv⟩ := C0
  have hkn : jKn cl0 (jal b ad st s.heap.size) s.heap.size (jSP b L xs ad st s.heap.size) TB0 jT0 jm_law := jmok jdd_law (by decide) rfl
  obtain ⟨-, hlen, htot, hW⟩ := jsound O (hThr D tys dA ad st _ O) (hCat D tys dA ad st _ O) n 1000 jm_law 0 [(0, .ref 0)] [] (jhd L xs) _ h' hkn (Or.inl rfl) hrun rfl (Nat.le_refl 24)
  have V : jEnvM D cl0 tys (jal b ad st s.heap.size) 24 s.heap.size (jSP b L xs ad st s.heap.size) TB0 jT0 p s m #[Value.ref b] meth c jm_law 24 :=
    ⟨⟨hx, hb, hml, hown, jtb hts, fun h => (by cases h), hK, hSP, Nat.le_refl _, rfl, hkn⟩, by rw [hex]; rfl⟩
  have hl := lv_entry ([.ref b]) (n := 7) (Nat.le_of_ble_eq_true rfl)
  rw [lg_entry_eq]
  have k := hW p e room_1 s m #[Value.ref b] below meth c (lw_Z below #[Value.ref b] s) 24 (jtot (jhd L xs)) V (Nat.le_refl _) (Nat.le_refl _) (by decide) (by decide) hc hs (fun v hv => ?_) (fun a ha => by cases ha) _ s.heap [] hl ⟨Nat.le_refl _, fun k q hk => ?_, va_S.rf⟩
  · rw [Nat.sub_self] at k
    exact k
  · cases hv
    intro i len pc st9 ls H locs he hd hR
    obtain ⟨rfl, rfl, rfl⟩ := jend_b he
    refine va_forget (fun q hq => hR.2.2.2.2 q hq) ?_
    refine W.widen (k := room_1.cells) (n := room_1.slots) hc hs ?_
    exact lw_ret hx hb hr hlocks hd
  · have : (jx_ws (jal b ad st s.heap.size) dA 24 (jhd L xs)) = [] := rfl
    rw [this] at hk
    simp at hk
end JOfRun
