/-! what the second machine does, the first does -/
section QOk
variable {S : Nat × (Nat → Int32)} {g g' : qG} {h : jH}
theorem Rel.get (hR : Rel S g h) {a : Nat} {q : Nat × Nat × List Nat} (hq : qd[a]? = some q) (h7 : q.1 < 7) : ∃ it, h[a]? = some (hcell S g it a q) := by
  obtain ⟨it, len, cnt, made, r1, -⟩ := hR
  exact ⟨it, r1 a q hq h7⟩
theorem qob_no {n : Nat} {j : Int32} (h : ¬ qob n j = true) : ¬ (j < 0 ∨ n ≤ j.toNatClampNeg) := by
  intro z
  apply h
  unfold qob
  rw [Bool.or_eq_true]
  rcases z with z | z
  · exact Or.inl (decide_eq_true z)
  · exact Or.inr (by simpa using z)
theorem jat_int : jatok FieldType.int = true := rfl
theorem jat_char : jatok FieldType.char = true := rfl
set_option maxHeartbeats 2000000 in
theorem qhp_ok {cn : Nat} {ini : Bool} {i : Instr} {st st' : List Value} {k : Nat} (hq : qhp jT0.1 S cn i st g = some (st', g', k)) (hR : Rel S g h) : ∃ h', Rel S g' h' ∧ jhp jT0.1 24 cn ini i st h = some (st', h', k) := by
  unfold qhp at hq
  split at hq
  · split at hq
    · rename_i a r
      split at hq
      · rename_i ci k0 kd hG
        split at hq
        · rename_i cj fl hd
          cases hb : Nat.beq cj ci with
          | false => rw [hb] at hq; cases hq
          | true =>
            rw [hb] at hq
            have e := Nat.eq_of_beq_eq_true hb
            subst e
            obtain ⟨it, ha⟩ := hR.get hd (Nat.le_of_ble_eq_true rfl)
            simp only [cond_true] at hq
            split at hq
            · rename_i hk
              cases hq
              exact ⟨h, hR, jhp_get hG ha (qd_obj hd).1 (by rw [List.getElem?_mapIdx, hk]; rfl)⟩
            · rename_i x hk
              cases hq
              exact ⟨h, hR, jhp_get hG ha (qd_obj hd).1 (by rw [List.getElem?_mapIdx, hk]; rfl)⟩
            · cases hq
        · cases hq
      · cases hq
    · cases hq
  · split at hq
    · rename_i v a r
      split at hq
      · rename_i ci k0 kd hG
        split at hq
        · rename_i cj fl hd
          cases hb : Nat.beq cj ci && Nat.blt kd 10 with
          | false => rw [hb] at hq; cases hq
          | true =>
            rw [hb] at hq
            rw [Bool.and_eq_true] at hb
            have e := Nat.eq_of_beq_eq_true hb.1
            subst e
            have hkd : kd < 10 := by simpa using hb.2
            simp only [cond_true] at hq
            split at hq
            · rename_i hk
              split at hq
              · cases hq
              · rename_i hf
                cases hq
                obtain ⟨fs, f1, f2, f3⟩ := hR.scalar hd hk v
                exact ⟨_, f3, jhp_put hG f1 (qd_obj hd).1 f2 (by simpa using hf) (Or.inl hkd)⟩
            · cases hq
        · cases hq
      · cases hq
    · cases hq
  · split at hq
    · rename_i v hG
      cases hq
      refine ⟨h, hR, ?_⟩
      unfold jhp
      simp only [hG]
    · cases hq
  · split at hq
    · rename_i x hG
      cases hq
      refine ⟨h, hR, ?_⟩
      unfold jhp
      simp only [hG]
    · rename_i x hG
      cases hq
      refine ⟨h, hR, ?_⟩
      unfold jhp
      simp only [hG]
    · cases hq
  · split at hq
    · rename_i x hG
      cases hq
      refine ⟨h, hR, ?_⟩
      unfold jhp
      simp only [hG]
    · cases hq
  · split at hq
    · rename_i x hG
      cases hq
      refine ⟨h, hR, ?_⟩
      unfold jhp
      simp only [hG]
    · cases hq
  · split at hq
    · rename_i a r
      split at hq
      · rename_i n fl hd
        cases hq
        obtain ⟨it, ha⟩ := hR.get hd (Nat.le_of_ble_eq_true rfl)
        exact ⟨h, hR, jhp_len (x := (n, .inl (qga g a))) ha jat_char⟩
      · rename_i n fl hd
        cases hq
        obtain ⟨it, ha⟩ := hR.get hd (Nat.le_of_ble_eq_true rfl)
        exact ⟨h, hR, jhp_len (x := (n, .inl (qga g a))) ha jat_int⟩
      · rename_i n fl hd
        cases hq
        obtain ⟨it, ha⟩ := hR.get hd (Nat.le_of_ble_eq_true rfl)
        exact ⟨h, hR, jhp_len (x := (S.1, .inl S.2)) ha jat_int⟩
      · cases hq
    · cases hq
  · split at hq
    · rename_i j a r
      split at hq
      · rename_i n fl hd
        split at hq
        · cases hq
        · rename_i hj
          cases hq
          obtain ⟨it, ha⟩ := hR.get hd (Nat.le_of_ble_eq_true rfl)
          exact ⟨h, hR, jhp_iald (f := qga g a) ha (qob_no hj)⟩
      · rename_i n fl hd
        split at hq
        · cases hq
        · rename_i hj
          cases hq
          obtain ⟨it, ha⟩ := hR.get hd (Nat.le_of_ble_eq_true rfl)
          exact ⟨h, hR, jhp_iald (f := S.2) ha (qob_no hj)⟩
      · cases hq
    · cases hq
  · split at hq
    · rename_i j a r
      split at hq
      · rename_i n fl hd
        split at hq
        · cases hq
        · rename_i hj
          cases hq
          obtain ⟨it, ha⟩ := hR.get hd (Nat.le_of_ble_eq_true rfl)
          exact ⟨h, hR, jhp_cald (f := qga g a) ha (qob_no hj)⟩
      · cases hq
    · cases hq
  · split at hq
    · rename_i j a r
      split at hq
      · rename_i n fl hd
        split at hq
        · cases hq
        · rename_i hj
          cases hq
          have e := qd_out hd
          subst e
          obtain ⟨f, f1, f2, -⟩ := hR.out
          have hj0 := qob_no hj
          have e0 : j.toNatClampNeg = 0 := by
            have := fun z => hj0 (Or.inr z)
            omega
          refine ⟨h, hR, ?_⟩
          rw [← f2, ← e0]
          exact jhp_lald f1 hj0
      · cases hq
    · cases hq
  · split at hq
    · rename_i x j a r
      split at hq
      · rename_i n fl hd
        split at hq
        · cases hq
        · rename_i hj
          cases hq
          obtain ⟨e1, e2, e3⟩ := hR.elem hd (Or.inr rfl) j.toNatClampNeg x
          exact ⟨_, e3, jhp_iast e1 (qob_no hj) e2⟩
      · cases hq
    · cases hq
  · split at hq
    · rename_i x j a r
      split at hq
      · rename_i n fl hd
        split at hq
        · cases hq
        · rename_i hj
          cases hq
          obtain ⟨e1, e2, e3⟩ := hR.elem hd (Or.inl rfl) j.toNatClampNeg (vp_nar .char x)
          exact ⟨_, e3, jhp_cast e1 (qob_no hj) e2⟩
      · cases hq
    · cases hq
  · split at hq
    · rename_i x j a r
      split at hq
      · rename_i n fl hd
        split at hq
        · cases hq
        · rename_i hj
          cases hq
          have e := qd_out hd
          subst e
          obtain ⟨f, f1, f2, f3⟩ := hR.out
          have hj0 := qob_no hj
          have e0 : j.toNatClampNeg = 0 := by
            have := fun z => hj0 (Or.inr z)
            omega
          refine ⟨_, f3 x, ?_⟩
          rw [← e0]
          exact jhp_last f1 hj0 (Nat.le_of_ble_eq_true rfl)
      · cases hq
    · cases hq
  · cases hq
set_option maxRecDepth 20000 in
theorem jz15 : jT0.2.2.1 15 = some jm_8_rows_15 := by rfl
set_option maxRecDepth 20000 in
theorem jz18 : jT0.2.2.1 18 = some jm_8_at_18 := by rfl
set_option maxRecDepth 20000 in
theorem jz30 : jT0.2.2.1 30 = some jm_8_put_30 := by rfl
set_option maxRecDepth 20000 in
theorem jz57 : jT0.2.2.1 57 = some jm_8_shrink_57 := by rfl
set_option maxRecDepth 20000 in
theorem jz61 : jT0.2.2.1 61 = some jm_8_append_61 := by rfl
theorem qgs_lo {t k : Nat} (ht : t < 64) : qgs g t k = g.1.1 (100 * t + k) := by
  unfold qgs
  rw [show Nat.blt t 64 = true by simpa using ht]
  rfl
theorem qga_lo {t : Nat} (ht : t < 64) : qga g t = g.1.2 t := by
  unfold qga
  rw [show Nat.blt t 64 = true by simpa using ht]
  rfl
theorem qpa_lo {t i : Nat} {v : Int32} (ht : t < 64) : qpa g t i v = (upA g.1 t i v, g.2) := by
  unfold qpa
  rw [show Nat.blt t 64 = true by simpa using ht]
  rfl
theorem qps_lo {t k : Nat} {v : Int32} (ht : t < 64) : qps g t k v = (upS g.1 (100 * t + k) v, g.2) := by
  unfold qps
  rw [show Nat.blt t 64 = true by simpa using ht]
  rfl
set_option maxHeartbeats 2000000 in
theorem qtab_ok {z d : Nat} {as : List Value} {v : Option Value} (hq : qtab z as g = some (v, g')) (hR : Rel S g h) : ∃ Z h', jT0.2.2.1 z = some Z ∧ (lg_sl as).length ≤ Z.2.2.1 ∧ Rel S g' h' ∧ jEv jT0 24 (d + 3) Z (0, lv_args 0 as, [], h) (.inl v, h') := by
  unfold qtab at hq
  split at hq
  · rename_i t bs
    split at hq
    · rename_i w fl hd
      obtain ⟨t1, t2, t3, t4⟩ := qd_tab hd
      obtain ⟨a, len, f, k1, k2, k3, k4, k5, k6, k7, k8⟩ := hR.table hd
      have e2 := qgs_lo (g := g) (k := 2) t2
      split at hq
      · cases hq
        rw [← e2]
        exact ⟨_, h, jz15, Nat.le_of_ble_eq_true rfl, hR, tab_rows k1 t1⟩
      · rename_i r c
        cases hq
        refine ⟨_, h, jz18, Nat.le_of_ble_eq_true rfl, hR, ?_⟩
        have e3 : tat g.1 t w r c = if r * Int32.ofNat w + c < 0 then 0 else if (r * Int32.ofNat w + c).toNatClampNeg < len then f (r * Int32.ofNat w + c).toNatClampNeg else 0 := by
          unfold tat
          rw [← qga_lo t2, k7]
        rw [e3]
        exact tab_at k1 t1 k2 (by omega)
      · rename_i r c v0
        split at hq
        · cases hq
        · rename_i hB
          cases hq
          unfold tputB at hB
          simp only [Bool.or_eq_true, decide_eq_true_eq, not_or] at hB
          have hB2 : (r * Int32.ofNat w + c).toNatClampNeg < 131072 := by
            have h9 : ¬ 131072 ≤ (r * Int32.ofNat w + c).toNatClampNeg := fun z => hB.2 (Nat.ble_eq.mpr z)
            omega
          obtain ⟨h', a', len', f', r1, r2, r3⟩ := tab_put (d := d) (v := v0) k1 t1 k2 k3 k4 (by omega) k6 hB.1 hB2
          refine ⟨_, h', jz30, Nat.le_of_ble_eq_true rfl, ?_, r1⟩
          unfold tput
          rw [← qpa_lo t2]
          refine k8 h' _ a' len' f' (by rw [qgs_qpa]; exact r2) (fun i => ?_) (fun b k hk hb => qgs_qpa) (fun b hb => by rw [qga_qpa, if_neg (fun z => hb z.symm)]) qpa_rest
          rw [qga_qpa, if_pos rfl, r3 i]
          unfold upd
          rw [k7 i]
      · rename_i f0
        cases hq
        have hs := tab_shr (d := d + 3) (g := f0) k1 t1
        unfold tshr
        rw [← e2]
        by_cases c1 : f0 < 0
        · rw [if_pos c1] at hs ⊢
          exact ⟨_, _, jz57, Nat.le_of_ble_eq_true rfl, hR, hs⟩
        · rw [if_neg c1] at hs ⊢
          by_cases c2 : qgs g t 2 ≤ f0
          · rw [if_pos c2] at hs ⊢
            exact ⟨_, _, jz57, Nat.le_of_ble_eq_true rfl, hR, hs⟩
          · rw [if_neg c2] at hs ⊢
            refine ⟨_, _, jz57, Nat.le_of_ble_eq_true rfl, ?_, hs⟩
            rw [← qps_lo t2]
            have e5 : qgs (qps g t 2 f0) t 2 = f0 := by rw [qgs_qps (by decide) (by decide), if_pos ⟨rfl, rfl⟩]
            refine k8 _ _ a len f (by rw [e5]; exact (tUp.refl k1 k2).rows k4) (fun i => by rw [qga_qps]; exact k7 i) (fun b k hk hb => by rw [qgs_qps (by decide) hk, if_neg (fun z => hb z.1.symm)]) (fun b hb => qga_qps) qps_rest
      · rename_i x y u v0
        split at hq
        · cases hq
        · rename_i hB
          cases hq
          unfold tappB at hB
          rw [← e2] at hB
          simp only [Bool.or_eq_true, decide_eq_true_eq, not_or] at hB
          have hB2 : ((qgs g t 2).toNatClampNeg + 1) * w ≤ 131072 := by
            have h9 : ¬ 131072 < ((qgs g t 2).toNatClampNeg + 1) * w := fun z => hB.2 (Nat.ble_eq.mpr z)
            omega
          obtain ⟨h', a', len', f', r1, r2, r3⟩ := tab_app (d := d) (x := x) (y := y) (u := u) (v := v0) rfl (by omega) k1 t1 k2 k3 k4 (by omega) k6 hB.1 hB2
          rw [← e2]
          refine ⟨_, h', jz61, Nat.le_of_ble_eq_true rfl, ?_, r1⟩
          have e6 : (tapp g.1 t w x y u v0, g.2) = qps (qpa (qpa (qpa (qpa g t ((qgs g t 2).toNatClampNeg * w) x) t ((qgs g t 2).toNatClampNeg * w + 1) y) t ((qgs g t 2).toNatClampNeg * w + 2) u) t ((qgs g t 2).toNatClampNeg * w + 3) v0) t 2 (qgs g t 2 + 1) := by
            rw [qps_lo t2, qpa_lo t2, qpa_lo t2, qpa_lo t2, qpa_lo t2, e2]
            rfl
          rw [e6]
          refine k8 h' _ a' len' f' (by rw [qgs_qps (by decide) (by decide), if_pos ⟨rfl, rfl⟩]; exact r2) (fun i => ?_) (fun b k hk hb => by rw [qgs_qps (by decide) hk, if_neg (fun z => hb z.1.symm), qgs_qpa, qgs_qpa, qgs_qpa, qgs_qpa]) (fun b hb => ?_) (by rw [qps_rest, qpa_rest, qpa_rest, qpa_rest, qpa_rest])
          · rw [qga_qps, qga_qpa, if_pos rfl, qga_qpa, if_pos rfl, qga_qpa, if_pos rfl, qga_qpa, if_pos rfl, r3 i]
            unfold upd
            rw [k7 i]
          · have hb' : ¬ t = b := fun z => hb z.symm
            rw [qga_qps, qga_qpa, if_neg hb', qga_qpa, if_neg hb', qga_qpa, if_neg hb', qga_qpa, if_neg hb']
      · cases hq
    · cases hq
  · cases hq
end QOk
