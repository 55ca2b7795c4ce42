/-! the law's first words; the end -/
theorem jhp_new {G : jG} {K cn : Nat} {ini : Bool} {idx ci n : Nat} {fs st : List Value} {h : jH} (hG : G.2.1 cn idx = some (ci, fs)) (hn : h.length = n) : jhp G K cn ini (.new idx) st h = some (.ref n :: st, h ++ [.inr (ci, fs)], 3) := by
  subst hn
  unfold jhp
  dsimp only
  rw [hG]
set_option maxRecDepth 20000 in
theorem nw8 : jT0.1.2.1 13 8 = some (10, [.null, .null, .null, .null, .null, .null, .null, .null, .null, .int 0, .int 0, .int 0]) := by decide +kernel
set_option maxRecDepth 20000 in
theorem nw44 : jT0.1.2.1 13 44 = some (11, [.null, .null, .null, .null, .null, .null, .null, .int 0, .int 0, .int 0, .int 0, .int 0, .int 0, .int 0, .null, .null, .null, .null, .null, .null, .null, .null, .null, .null, .null, .int 0, .int 0, .int 0, .int 0, .int 0, .int 0, .int 0, .int 0, .int 0, .int 0, .int 0, .int 0, .int 0, .int 0, .int 0, .int 0, .null, .null, .null, .null, .null, .null, .null, .null, .null, .null, .null, .null, .null, .null, .null, .null, .null, .null, .null, .null, .null, .null, .int 0]) := by decide +kernel
theorem jhp_newL {G : jG} {K cn : Nat} {ini : Bool} {n : Nat} {st : List Value} {h : jH} (hn : h.length = n) : jhp G K cn ini (.newarray .long) (.int (Int32.ofInt 1) :: st) h = some (.ref n :: st, h ++ [lng0], 2) := by
  subst hn
  rfl
set_option maxRecDepth 20000 in
set_option maxHeartbeats 2000000 in
theorem law_pre {P : jH} {L : Nat} {xs : Nat → Int32} {r : jO} (p1 : ini_r = some (.inl none, P)) (hlen : P.length = 64) (e : jEv jT0 24 1000 jm_law (23, [(4, .int (Int32.ofInt ((0 : Nat) : Int))), (3, .ref 105), (2, .ref 64), (1, .ref 24), (0, .ref 0)], [], hh3 P L xs) r) : jEv jT0 24 1000 jm_law (0, [(0, .ref 0)], [], jhd L xs) r := by
  have h0 : jrun jT0 24 100000 999 jm_0_init_0 (0, [(0, .ref 24)], [], ini_h0) = some (.inl none, P) := p1
  have hc := (jrun_c0 (c := .inl (.int, L, .inl xs)) (T := jT0) (K := 24) (by omega) 100000 999 jm_0_init_0 0 [(0, .ref 24)] [] ini_h0 (.inl none) P rfl h0).2
  have hcl : (P.set 0 (.inl (.int, L, .inl xs))).length = 64 := by rw [List.length_set, hlen]
  refine jEv.hp (i := .new 8) (len := 3) rfl rfl rfl rfl (jhp_new (n := 24) nw8 rfl) ?_
  refine jEv.steps 1 (s' := (4, [(0, .ref 0)], [.ref 24, .ref 24], jhd L xs ++ [.inr (10, [.null, .null, .null, .null, .null, .null, .null, .null, .null, .int 0, .int 0, .int 0])])) rfl ?_
  refine jEv.call (d := 999) (kd := 1) (z := 0) (as := [.ref 24]) (r0 := [.ref 24]) (v := none) (h' := P.set 0 (.inl (.int, L, .inl xs))) rfl (by omega) (by omega) rfl (by decide) ⟨100000, hc⟩ ?_
  refine jEv.steps 1 (s' := (8, [(1, .ref 24), (0, .ref 0)], [], P.set 0 (.inl (.int, L, .inl xs)))) rfl ?_
  refine jEv.hp (i := .new 44) (len := 3) rfl rfl rfl rfl (jhp_new (n := 64) nw44 hcl) ?_
  refine jEv.steps 1 (s' := (12, [(1, .ref 24), (0, .ref 0)], [.ref 64, .ref 64], _)) rfl ?_
  refine jEv.call (d := 999) (kd := 1) (z := 126) (as := [.ref 64]) (r0 := [.ref 64]) (v := none) rfl (by omega) (by omega) rfl (by decide) (minit (d := 998) hcl) ?_
  refine jEv.steps 2 (s' := (17, [(2, .ref 64), (1, .ref 24), (0, .ref 0)], [.int (Int32.ofInt 1)], P.set 0 (.inl (.int, L, .inl xs)) ++ iniX)) rfl ?_
  refine jEv.hp (i := .newarray .long) (len := 2) rfl rfl rfl rfl (jhp_newL (n := 105) (by rw [List.length_append, hcl, iniX_len])) ?_
  refine jEv.steps 3 (s' := (23, [(4, .int (Int32.ofInt ((0 : Nat) : Int))), (3, .ref 105), (2, .ref 64), (1, .ref 24), (0, .ref 0)], [], _)) rfl ?_
  rw [List.append_assoc]
  exact e
theorem jall : jAll := by
  intro L xs hL
  obtain ⟨P, p1, p2, p3, p4, p5, p6, p7⟩ := ini_all
  obtain ⟨g, ⟨n, hq⟩, hn⟩ := lawrun (L := L) (xs := xs) (d := 1000) hL (by omega) 512 0 0 (sig0 P) tau0 0 A0 (jj0 p7) (by omega) (by omega)
  obtain ⟨h', r1, r2, -⟩ := qsound n 1000 jm_law _ _ hq (hh3 P L xs) (rel0 p2 p3 p4 p5 p6 L xs)
  obtain ⟨m, hm⟩ := law_pre p1 p2 (r2 (some (.int 1)) rfl)
  refine ⟨m, h', hm, ?_, ?_⟩
  · obtain ⟨it, len, cnt, made, a1, a2, a3, a4, a5, a6⟩ := r1
    have hb : (qtabs.map cnt).sum ≤ qtabs.length * 8192 := sum_le (fun t ht => by
      obtain ⟨w, fl, hq⟩ := qd_in ht
      obtain ⟨b1, b2, b3, b4, b5, b6, b7⟩ := a3 t w fl hq
      omega)
    have hl : qtabs.length = 11 := rfl
    rw [hl] at hb
    have e5 : h'.length = 106 + (qtabs.map cnt).sum + g.2.2.2 := a5
    have hn' : g.2.2.2 ≤ 0 + 512 := hn
    omega
  · obtain ⟨it, len, cnt, made, a1, a2, a3, a4, a5, a6⟩ := r1
    have hb : (qtabs.map made).sum ≤ qtabs.length * 524288 := sum_le (fun t ht => by
      obtain ⟨w, fl, hq⟩ := qd_in ht
      obtain ⟨b1, b2, b3, b4, b5, b6, b7⟩ := a3 t w fl hq
      omega)
    have hl : qtabs.length = 11 := rfl
    rw [hl] at hb
    have e6 : jtot h' = L + 259170 + (qtabs.map made).sum + 6 * g.2.2.2 := a6
    have hn' : g.2.2.2 ≤ 0 + 512 := hn
    omega
theorem i_vc : Claimed_1_1 ∧ Claimed_1_2 := i_vc_of jall
