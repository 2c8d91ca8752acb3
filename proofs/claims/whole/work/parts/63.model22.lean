/-! PlanetaryGearboxModel: slipping, greatestTorque, ratioAsFloat -/
set_option maxHeartbeats 4000000 in
set_option maxRecDepth 100000 in
theorem c_X7_slipping (l : Launch) (D : va_G) (K : Nat → ClassId) (mm : Nat → Nat) (v : CV) (w0 : MS) (x : Int32) (sz : Nat) (hI : IV v) (hR : RM v w0)  : Met l yX7_slipping (.code yX7_slipping cX7_slipping 2 (some .int) :: TB) ({ frames := 5, cells := 0, slots := 0, locals := 127 } : Room) (va_Pc [.ref (mm 0), .int x] (cP D K (WMu K mm w0) sz)) (va_Qi (fun (z : Int32) (u : MS) => RM v u ∧ u.2.2.2.2.2.1 = nI (rs_slipping v.1 x).1 ∧ ((rs_slipping v.1 x).1 = 0 → z.toInt = (rs_slipping v.1 x).2)) (fun (u : MS) t => cB D K (va_A (WMu K mm w0) sz) (WMu K mm u) t) (va_A (WMu K mm w0) sz)) 0 0 (va_A (WMu K mm w0) sz) := by
  refine Met.ofW (cc := cX7_slipping) (maxL := 2) (ret := (some .int)) (by decide) rfl ?_
  intro p e s m args below meth c s₁ B hml hv
  obtain ⟨rfl, hsz, hP, hK, hD0⟩ := hv
  have hx := B.exec
  have hb := B.bytes
  have hr := B.returns
  have hts := hts_tl (atoms_spec (ws := (.code yX7_slipping cX7_slipping 2 (some .int) :: TB)) B.pre)
  have hown : s.vm.findClass RX7 = some m.cls := findClass_of_methodNamed B.named
  have hlocks := B.notSynchronized
  subst hsz
  have hD := hD0.self (sz := s.heap.size)
  generalize hAe : (va_A (WMu K mm w0) s.heap.size) = A at hD ⊢
  have hA : ∀ q : Nat, s.heap.size ≤ q → A q := fun q h => by rw [← hAe]; exact Or.inr h
  have hS : va_S A s.heap s.heap [] := va_S.rf
  clear hAe hD0
  obtain ⟨d, d1, d2, f1, f2, f, s0⟩ := v
  obtain ⟨ta, sl, ss, be, ch, th, M, rq, cq, pv, so, st, gs, gm, gu, gl, aw⟩ := w0
  obtain ⟨hd, hd1, hd2, hf1, hf2, hs20, hhf⟩ := id hI
  obtain ⟨hat, hat1, hat2, hss0, hss1, hch, hbe⟩ := id hR
  dsimp only at hd hd1 hd2 hf1 hf2 hs20 hhf hat hat1 hat2 hss0 hss1 hch hbe
  obtain ⟨n, m1, ge, hn, hm, hge, h0, h1, h2, hs9, he9⟩ := id hd
  obtain ⟨ha1, ha2, ha33, ha34, ha35⟩ := id hat
  have hp6 : 2 ^ m1 ≤ 64 := Nat.pow_le_pow_right (show 0 < 2 by decide) hm
  have h33 := ha33.trans h0
  have h34 := ha34.trans h1
  have h35 := ha35.trans h2
  have hn1 : dn d 8 0 = n := dn_of h0 (by omega)
  have hm1 : dn d 8 1 = m1 := dn_of h1 (by omega)
  have hg1 : dn d 8 2 = ge := dn_of h2 (by omega)
  have hP : va_P D vwCl (WM K mm ta sl ss be ch th M rq cq pv so st gs gm gu gl aw) s.heap := hP
  have hD : va_D A (WM K mm ta sl ss be ch th M rq cq pv so st gs gm gu gl aw) := hD
  have hl := lv_entry ([.ref (mm 0), .int x]) (n := 2) (Nat.le_of_ble_eq_true rfl)
  rw [lg_entry_eq]
  generalize (lg_sl ([.ref (mm 0), .int x]) ++ List.replicate (2 - (lg_sl ([.ref (mm 0), .int x])).length) Slot.unset).toArray = ls at hl ⊢
  have hl : lv_has ls 2 [(0, .ref (mm 0)), (1, .int x)] := hl
  refine lv_aload_n hx hb dX7_slipping_0 rfl (lv_at hl 0 rfl) ?_
  refine lv_iload_n hx hb dX7_slipping_1 rfl (lv_at hl 1 rfl) ?_
  refine lv_iconst (v := nI 1) hx hb dX7_slipping_2 (by decide) ?_
  refine lv_sipush (v := nI 10000) hx hb dX7_slipping_3 (by decide) ?_
  refine va_calli (va_runS (As := [.int x, .int (nI 1), .int (nI 10000)]) (rest := [.ref (mm 0)]) ⟨hx, hb, hml, hown, hts⟩ (c_X7_in l x (nI 1) (nI 10000) ) (va_cwS 3 hts (TB_S k_m_X7_49 k_st_X7_in k_in_X7 k_co_X7_in (fun _ h => h)) rfl rfl rfl (by decide +kernel) ⟨Nat.le_of_ble_eq_true rfl, Nat.le_of_ble_eq_true rfl⟩) ⟨tP_blind, tP_of⟩ rfl rfl hl.1 rfl (lv_room (Nat.le_of_ble_eq_true rfl)) dX7_slipping_6 ⟨Nat.le_of_ble_eq_true rfl, Nat.le_of_ble_eq_true rfl⟩) hS (fun q _ h => absurd h id) (fun q h => absurd h id) (fun zi u9 t9 H locs ht9 hvm hw hB hz1 hk1 hS => ?_)
  have hP := P_same hP hk1
  have hw := hw.trans (bI_iff (show _ ↔ (1 ≤ x.toInt ∧ x.toInt ≤ 10000) by rw [nI_toIntI (by omega), nI_toIntI (by omega)]; omega))
  by_cases hin9 : 1 ≤ x.toInt ∧ x.toInt ≤ 10000
  rotate_left
  · refine t_i (hw.trans (bI_f hin9).symm) ?_
    refine b_if_eq hx hb (nI_toIntI (by omega)) dX7_slipping_9 (tgt := 16) (by decide) (fun c9 => ?_) (fun c9 => absurd c9 (by omega))
    refine lv_iconst (v := nI 1) hx hb dX7_slipping_16 (by decide) ?_
    refine va_put (D := D) (ci := 7) (v := .int (nI 1)) (ty := .int) (C := RX7) (T := TX7) (N := 17) hx hb hts iX7 tyX7 tyX7_ok nmX7 hown hK hP hD hS 0 rfl rfl 5 (by decide) (hts _ k_f_X7_45) (fun _ h9 => h9) rfl (by decide +kernel) rfl rfl (Nat.le_of_ble_eq_true rfl) dX7_slipping_17 (fun H locs hP hD hS => ?_)
    have hP : va_P D vwCl (WM K mm ta sl ss be ch (nI 1) M rq cq pv so st gs gm gu gl aw) H := hP
    have hD : va_D A (WM K mm ta sl ss be ch (nI 1) M rq cq pv so st gs gm gu gl aw) := hD
    refine lv_aload_n hx hb dX7_slipping_20 rfl (lv_at hl 0 rfl) ?_
    refine va_get (D := D) (ci := 7) (C := RX7) (T := TX7) (N := 17) hx hb hts iX7 hown hK hP 0 rfl rfl 5 (by decide) (hts _ k_f_X7_45) (fun _ h9 => h9) rfl dX7_slipping_21 ?_
    refine b_if_eq hx hb (nI_toIntI (by omega)) dX7_slipping_24 (tgt := 29) (by decide) (fun c24 => absurd c24 (by omega)) (fun c24 => ?_)
    refine lv_iconst (v := nI 0) hx hb dX7_slipping_27 (by decide) ?_
    have hrs : rs_slipping d x = _ := (cI_t (by omega))
    exact W.iret (v := nI 0) hx hb hr (fun t9 ht9 hW => ⟨⟨nI 0, (ta, sl, ss, be, ch, (nI 1), M, rq, cq, pv, so, st, gs, gm, gu, gl, aw), rfl, ⟨hR, by rw [hrs], by rw [hrs]; exact fun h9 => absurd h9 (by decide)⟩, by rw [ht9]; exact hP, va_K.moved hW.alike hK, hD⟩, hS.F ht9⟩) hS.2.2 dX7_slipping_28
  refine t_i (hw.trans (bI_t hin9).symm) ?_
  obtain ⟨tx, htx1, htx2, rfl⟩ : ∃ k : Nat, 1 ≤ k ∧ k ≤ 10000 ∧ x = nI k := ⟨x.toInt.toNat, by omega, by omega, (i32_eq _ _).mpr (by rw [nI_toIntI (by omega)]; omega)⟩
  have htxn : (nI tx).toInt = (tx : Int) := nI_toIntI (by omega)
  refine b_if_eq hx hb (nI_toIntI (by omega)) dX7_slipping_9 (tgt := 16) (by decide) (fun c9 => absurd c9 (by omega)) (fun c9 => ?_)
  refine lv_iconst (v := nI 0) hx hb dX7_slipping_12 (by decide) ?_
  refine lv_goto (tgt := 17) hx hb dX7_slipping_13 (by decide) ?_
  refine va_put (D := D) (ci := 7) (v := .int (nI 0)) (ty := .int) (C := RX7) (T := TX7) (N := 17) hx hb hts iX7 tyX7 tyX7_ok nmX7 hown hK hP hD hS 0 rfl rfl 5 (by decide) (hts _ k_f_X7_45) (fun _ h9 => h9) rfl (by decide +kernel) rfl rfl (Nat.le_of_ble_eq_true rfl) dX7_slipping_17 (fun H locs hP hD hS => ?_)
  have hP : va_P D vwCl (WM K mm ta sl ss be ch (nI 0) M rq cq pv so st gs gm gu gl aw) H := hP
  have hD : va_D A (WM K mm ta sl ss be ch (nI 0) M rq cq pv so st gs gm gu gl aw) := hD
  refine lv_aload_n hx hb dX7_slipping_20 rfl (lv_at hl 0 rfl) ?_
  refine va_get (D := D) (ci := 7) (C := RX7) (T := TX7) (N := 17) hx hb hts iX7 hown hK hP 0 rfl rfl 5 (by decide) (hts _ k_f_X7_45) (fun _ h9 => h9) rfl dX7_slipping_21 ?_
  refine b_if_eq hx hb (nI_toIntI (by omega)) dX7_slipping_24 (tgt := 29) (by decide) (fun c24 => ?_) (fun c24 => absurd c24 (by omega))
  refine lv_aload_n hx hb dX7_slipping_29 rfl (lv_at hl 0 rfl) ?_
  have hFc := freeAll hD hS hA
  refine va_callv (va_runV (As := []) (rest := []) ⟨hx, hb, hml, hown, hts⟩ (c_X7_layTorques l D K mm ta sl ss be ch (nI 0) M rq cq pv so st gs gm gu gl aw d H.size hd hat) (cwV 0 hts (TB_V k_m_X7_144 k_im_X7_layTorques k_se_X7_layTorques k_in_X7 k_co_X7_layTorques (fun _ h => h)) rfl rfl rfl (by decide +kernel) ⟨Nat.le_of_ble_eq_true rfl, Nat.le_of_ble_eq_true rfl⟩) ⟨cP_blind, va_recv hK hP (ci := 7) (q0 := 0) rfl rfl, cP_of hP hK hD⟩ rfl rfl hl.1 rfl (lv_room (Nat.le_of_ble_eq_true rfl)) dX7_slipping_30 ⟨Nat.le_of_ble_eq_true rfl, Nat.le_of_ble_eq_true rfl⟩) hS (fun q _ h => hFc q h) hFc (fun u7 t9 H locs ht9 hvm hw hB hz1 hk1 hS => ?_)
  obtain ⟨hP, hK1, hD1⟩ := hB
  rw [ht9] at hP
  have hD := hD1.weaken (fun _ _ _ h => hFc _ h)
  have hP : va_P D vwCl (WM K mm ta sl ss be ch (nI 0) u7.1 (nI 6) (nI 10) u7.2.1 u7.2.2 st gs gm gu gl aw) H := hP
  have hD : va_D A (WM K mm ta sl ss be ch (nI 0) u7.1 (nI 6) (nI 10) u7.2.1 u7.2.2 st gs gm gu gl aw) := hD
  have hs1 := hw
  rw [hg1] at hs1
  refine lv_aload_n hx hb dX7_slipping_33 rfl (lv_at hl 0 rfl) ?_
  refine lv_iload_n hx hb dX7_slipping_34 rfl (lv_at hl 1 rfl) ?_
  refine va_calli (va_runV (As := [.int (nI tx)]) (rest := []) ⟨hx, hb, hml, hown, hts⟩ (c_X7_slips l D K mm ta sl ss be ch (nI 0) u7.1 (nI 6) (nI 10) u7.2.1 u7.2.2 st gs gm gu gl aw d tx H.size htx2 hd hat (by rw [hg1]; exact hs1)) (cwV 1 hts (TB_V k_m_X7_147 k_im_X7_slips k_se_X7_slips k_in_X7 k_co_X7_slips (fun _ h => h)) rfl rfl rfl (by decide +kernel) ⟨Nat.le_of_ble_eq_true rfl, Nat.le_of_ble_eq_true rfl⟩) ⟨cP_blind, va_recv hK hP (ci := 7) (q0 := 0) rfl rfl, cP_of hP hK hD⟩ rfl rfl hl.1 rfl (lv_room (Nat.le_of_ble_eq_true rfl)) dX7_slipping_35 ⟨Nat.le_of_ble_eq_true rfl, Nat.le_of_ble_eq_true rfl⟩) hS (fun q _ h => absurd h id) (fun q h => absurd h id) (fun sz u9 t9 H locs ht9 hvm hw hB hz1 hk1 hS => ?_)
  have hP := P_same hP hk1
  have hslb : slp d ((tx : Nat) : Int) 6 < 64 := slp_lt d _ 6
  refine t_i hw ?_
  have hrs : rs_slipping d (nI tx) = _ := ((cI_f (by omega)).trans (rfl))
  exact W.iret (v := nI (slp d ((tx : Nat) : Int) 6)) hx hb hr (fun t9 ht9 hW => ⟨⟨nI (slp d ((tx : Nat) : Int) 6), (ta, sl, ss, be, ch, (nI 0), u7.1, (nI 6), (nI 10), u7.2.1, u7.2.2, st, gs, gm, gu, gl, aw), rfl, ⟨hR, by rw [hrs], by rw [hrs]; exact fun h9 => by rw [nI_toIntI (by omega), htxn]⟩, by rw [ht9]; exact hP, va_K.moved hW.alike hK, hD⟩, hS.F ht9⟩) hS.2.2 dX7_slipping_38
set_option maxHeartbeats 4000000 in
set_option maxRecDepth 100000 in
theorem c_X7_greatestTorque (l : Launch) (D : va_G) (K : Nat → ClassId) (mm : Nat → Nat) (v : CV) (w0 : MS)  (sz : Nat) (hI : IV v) (hR : RM v w0)  : Met l yX7_greatestTorque (.code yX7_greatestTorque cX7_greatestTorque 2 (some .int) :: TB) ({ frames := 6, cells := 0, slots := 0, locals := 150 } : Room) (va_Pc [.ref (mm 0)] (cP D K (WMu K mm w0) sz)) (va_Qi (fun (z : Int32) (u : MS) => RM v u ∧ u.2.2.2.2.2.1 = nI (rs_greatest v.1).1 ∧ ((rs_greatest v.1).1 = 0 → z.toInt = (rs_greatest v.1).2)) (fun (u : MS) t => cB D K (va_A (WMu K mm w0) sz) (WMu K mm u) t) (va_A (WMu K mm w0) sz)) 0 0 (va_A (WMu K mm w0) sz) := by
  refine Met.ofW (cc := cX7_greatestTorque) (maxL := 2) (ret := (some .int)) (by decide) rfl ?_
  intro p e s m args below meth c s₁ B hml hv
  obtain ⟨rfl, hsz, hP, hK, hD0⟩ := hv
  have hx := B.exec
  have hb := B.bytes
  have hr := B.returns
  have hts := hts_tl (atoms_spec (ws := (.code yX7_greatestTorque cX7_greatestTorque 2 (some .int) :: TB)) B.pre)
  have hown : s.vm.findClass RX7 = some m.cls := findClass_of_methodNamed B.named
  have hlocks := B.notSynchronized
  subst hsz
  have hD := hD0.self (sz := s.heap.size)
  generalize hAe : (va_A (WMu K mm w0) s.heap.size) = A at hD ⊢
  have hA : ∀ q : Nat, s.heap.size ≤ q → A q := fun q h => by rw [← hAe]; exact Or.inr h
  have hS : va_S A s.heap s.heap [] := va_S.rf
  clear hAe hD0
  obtain ⟨d, d1, d2, f1, f2, f, s0⟩ := v
  obtain ⟨ta, sl, ss, be, ch, th, M, rq, cq, pv, so, st, gs, gm, gu, gl, aw⟩ := w0
  obtain ⟨hd, hd1, hd2, hf1, hf2, hs20, hhf⟩ := id hI
  obtain ⟨hat, hat1, hat2, hss0, hss1, hch, hbe⟩ := id hR
  dsimp only at hd hd1 hd2 hf1 hf2 hs20 hhf hat hat1 hat2 hss0 hss1 hch hbe
  obtain ⟨n, m1, ge, hn, hm, hge, h0, h1, h2, hs9, he9⟩ := id hd
  obtain ⟨ha1, ha2, ha33, ha34, ha35⟩ := id hat
  have hp6 : 2 ^ m1 ≤ 64 := Nat.pow_le_pow_right (show 0 < 2 by decide) hm
  have h33 := ha33.trans h0
  have h34 := ha34.trans h1
  have h35 := ha35.trans h2
  have hn1 : dn d 8 0 = n := dn_of h0 (by omega)
  have hm1 : dn d 8 1 = m1 := dn_of h1 (by omega)
  have hg1 : dn d 8 2 = ge := dn_of h2 (by omega)
  have hP : va_P D vwCl (WM K mm ta sl ss be ch th M rq cq pv so st gs gm gu gl aw) s.heap := hP
  have hD : va_D A (WM K mm ta sl ss be ch th M rq cq pv so st gs gm gu gl aw) := hD
  have hl := lv_entry ([.ref (mm 0)]) (n := 2) (Nat.le_of_ble_eq_true rfl)
  rw [lg_entry_eq]
  generalize (lg_sl ([.ref (mm 0)]) ++ List.replicate (2 - (lg_sl ([.ref (mm 0)])).length) Slot.unset).toArray = ls at hl ⊢
  have hl : lv_has ls 2 [(0, .ref (mm 0))] := hl
  refine lv_aload_n hx hb dX7_greatestTorque_0 rfl (lv_at hl 0 rfl) ?_
  refine lv_aload_n hx hb dX7_greatestTorque_1 rfl (lv_at hl 0 rfl) ?_
  refine lv_aload_n hx hb dX7_greatestTorque_2 rfl (lv_at hl 0 rfl) ?_
  refine va_get (D := D) (ci := 7) (C := RX7) (T := TX7) (N := 17) hx hb hts iX7 hown hK hP 0 rfl rfl 0 (by decide) (hts _ k_f_X7_7) (fun _ h9 => h9) rfl dX7_greatestTorque_3 ?_
  refine lv_bipush (v := nI 35) hx hb dX7_greatestTorque_6 (by decide) ?_
  refine n_iald hx hb hK hP 1 0 rfl rfl (i := 35) (n := 36) (by omega) (by decide) dX7_greatestTorque_8 ?_
  refine t_i (show _ = nI ge from h35) ?_
  have hFc := freeAll hD hS hA
  refine va_calli (va_runV (As := [.int (nI ge)]) (rest := [.ref (mm 0)]) ⟨hx, hb, hml, hown, hts⟩ (c_X7_stateOf l D K mm ta sl ss be ch th M rq cq pv so st gs gm gu gl aw d ge s.heap.size hd hat (by omega)) (cwV 1 hts (TB_V k_m_X7_127 k_im_X7_stateOf k_se_X7_stateOf k_in_X7 k_co_X7_stateOf (fun _ h => h)) rfl rfl rfl (by decide +kernel) ⟨Nat.le_of_ble_eq_true rfl, Nat.le_of_ble_eq_true rfl⟩) ⟨cP_blind, va_recv hK hP (ci := 7) (q0 := 0) rfl rfl, cP_of hP hK hD⟩ rfl rfl hl.1 rfl (lv_room (Nat.le_of_ble_eq_true rfl)) dX7_greatestTorque_9 ⟨Nat.le_of_ble_eq_true rfl, Nat.le_of_ble_eq_true rfl⟩) hS (fun q _ h => hFc q h) hFc (fun sz9 u6 t9 H locs ht9 hvm hw hB hz1 hk1 hS => ?_)
  obtain ⟨hP, hK1, hD1⟩ := hB
  rw [ht9] at hP
  have hD := hD1.weaken (fun _ _ _ h => hFc _ h)
  have hP : va_P D vwCl (WM K mm ta sl ss be ch th u6.1.1 u6.2 (nI 6) u6.1.2.1 u6.1.2.2 st gs gm gu gl aw) H := hP
  have hD : va_D A (WM K mm ta sl ss be ch th u6.1.1 u6.2 (nI 6) u6.1.2.1 u6.1.2.2 st gs gm gu gl aw) := hD
  obtain ⟨hsz9, nr, hnr, hrq9, hs0⟩ := hw
  have hst3 := stC_le (SP d ge)
  have hst3 : stM d ge ≤ 3 := hst3
  refine t_i hsz9 ?_
  refine b_if_ne hx hb (nI_toIntI (by omega)) dX7_greatestTorque_12 (tgt := 19) (by decide) (fun c12 => ?_) (fun c12 => ?_)
  · refine lv_iconst (v := nI 1) hx hb dX7_greatestTorque_19 (by decide) ?_
    refine va_put (D := D) (ci := 7) (v := .int (nI 1)) (ty := .int) (C := RX7) (T := TX7) (N := 17) hx hb hts iX7 tyX7 tyX7_ok nmX7 hown hK hP hD hS 0 rfl rfl 5 (by decide) (hts _ k_f_X7_45) (fun _ h9 => h9) rfl (by decide +kernel) rfl rfl (Nat.le_of_ble_eq_true rfl) dX7_greatestTorque_20 (fun H locs hP hD hS => ?_)
    have hP : va_P D vwCl (WM K mm ta sl ss be ch (nI 1) u6.1.1 u6.2 (nI 6) u6.1.2.1 u6.1.2.2 st gs gm gu gl aw) H := hP
    have hD : va_D A (WM K mm ta sl ss be ch (nI 1) u6.1.1 u6.2 (nI 6) u6.1.2.1 u6.1.2.2 st gs gm gu gl aw) := hD
    refine lv_aload_n hx hb dX7_greatestTorque_23 rfl (lv_at hl 0 rfl) ?_
    refine va_get (D := D) (ci := 7) (C := RX7) (T := TX7) (N := 17) hx hb hts iX7 hown hK hP 0 rfl rfl 5 (by decide) (hts _ k_f_X7_45) (fun _ h9 => h9) rfl dX7_greatestTorque_24 ?_
    refine b_if_eq hx hb (nI_toIntI (by omega)) dX7_greatestTorque_27 (tgt := 32) (by decide) (fun c27 => absurd c27 (by omega)) (fun c27 => ?_)
    refine lv_iconst (v := nI 0) hx hb dX7_greatestTorque_30 (by decide) ?_
    have hrs : rs_greatest d = _ := (cI_t (by rw [hg1]; omega))
    exact W.iret (v := nI 0) hx hb hr (fun t9 ht9 hW => ⟨⟨nI 0, (ta, sl, ss, be, ch, (nI 1), u6.1.1, u6.2, (nI 6), u6.1.2.1, u6.1.2.2, st, gs, gm, gu, gl, aw), rfl, ⟨hR, by rw [hrs], by rw [hrs]; exact fun h9 => absurd h9 (by decide)⟩, by rw [ht9]; exact hP, va_K.moved hW.alike hK, hD⟩, hS.F ht9⟩) hS.2.2 dX7_greatestTorque_31
  refine lv_iconst (v := nI 0) hx hb dX7_greatestTorque_15 (by decide) ?_
  refine lv_goto (tgt := 20) hx hb dX7_greatestTorque_16 (by decide) ?_
  refine va_put (D := D) (ci := 7) (v := .int (nI 0)) (ty := .int) (C := RX7) (T := TX7) (N := 17) hx hb hts iX7 tyX7 tyX7_ok nmX7 hown hK hP hD hS 0 rfl rfl 5 (by decide) (hts _ k_f_X7_45) (fun _ h9 => h9) rfl (by decide +kernel) rfl rfl (Nat.le_of_ble_eq_true rfl) dX7_greatestTorque_20 (fun H locs hP hD hS => ?_)
  have hP : va_P D vwCl (WM K mm ta sl ss be ch (nI 0) u6.1.1 u6.2 (nI 6) u6.1.2.1 u6.1.2.2 st gs gm gu gl aw) H := hP
  have hD : va_D A (WM K mm ta sl ss be ch (nI 0) u6.1.1 u6.2 (nI 6) u6.1.2.1 u6.1.2.2 st gs gm gu gl aw) := hD
  refine lv_aload_n hx hb dX7_greatestTorque_23 rfl (lv_at hl 0 rfl) ?_
  refine va_get (D := D) (ci := 7) (C := RX7) (T := TX7) (N := 17) hx hb hts iX7 hown hK hP 0 rfl rfl 5 (by decide) (hts _ k_f_X7_45) (fun _ h9 => h9) rfl dX7_greatestTorque_24 ?_
  refine b_if_eq hx hb (nI_toIntI (by omega)) dX7_greatestTorque_27 (tgt := 32) (by decide) (fun c27 => ?_) (fun c27 => absurd c27 (by omega))
  refine lv_aload_n hx hb dX7_greatestTorque_32 rfl (lv_at hl 0 rfl) ?_
  have hFc := freeAll hD hS hA
  refine va_callv (va_runV (As := []) (rest := []) ⟨hx, hb, hml, hown, hts⟩ (c_X7_layTorques l D K mm ta sl ss be ch (nI 0) u6.1.1 u6.2 (nI 6) u6.1.2.1 u6.1.2.2 st gs gm gu gl aw d H.size hd hat) (cwV 0 hts (TB_V k_m_X7_144 k_im_X7_layTorques k_se_X7_layTorques k_in_X7 k_co_X7_layTorques (fun _ h => h)) rfl rfl rfl (by decide +kernel) ⟨Nat.le_of_ble_eq_true rfl, Nat.le_of_ble_eq_true rfl⟩) ⟨cP_blind, va_recv hK hP (ci := 7) (q0 := 0) rfl rfl, cP_of hP hK hD⟩ rfl rfl hl.1 rfl (lv_room (Nat.le_of_ble_eq_true rfl)) dX7_greatestTorque_33 ⟨Nat.le_of_ble_eq_true rfl, Nat.le_of_ble_eq_true rfl⟩) hS (fun q _ h => hFc q h) hFc (fun u7 t9 H locs ht9 hvm hw hB hz1 hk1 hS => ?_)
  obtain ⟨hP, hK1, hD1⟩ := hB
  rw [ht9] at hP
  have hD := hD1.weaken (fun _ _ _ h => hFc _ h)
  have hP : va_P D vwCl (WM K mm ta sl ss be ch (nI 0) u7.1 (nI 6) (nI 10) u7.2.1 u7.2.2 st gs gm gu gl aw) H := hP
  have hD : va_D A (WM K mm ta sl ss be ch (nI 0) u7.1 (nI 6) (nI 10) u7.2.1 u7.2.2 st gs gm gu gl aw) := hD
  have hs1 := hw
  rw [hg1] at hs1
  refine lv_sipush (v := nI 10000) hx hb dX7_greatestTorque_36 (by decide) ?_
  refine lv_istore_n (lv' := [(1, .int (nI 10000)), (0, .ref (mm 0))]) hx hb dX7_greatestTorque_39 rfl hl (by decide) rfl (fun ls hl => ?_)
  have L40 : ∀ (fuel : Nat) (k : Nat) (H : Heap) (locs : List Loc) (ls : Array Slot), k < fuel → (grt d 6 ≤ k) → (k ≤ 10000) → va_P D vwCl (WM K mm ta sl ss be ch (nI 0) u7.1 (nI 6) (nI 10) u7.2.1 u7.2.2 st gs gm gu gl aw) H → va_D A (WM K mm ta sl ss be ch (nI 0) u7.1 (nI 6) (nI 10) u7.2.1 u7.2.2 st gs gm gu gl aw) → va_S A s.heap H locs → lv_has ls 2 [(1, .int (nI k)), (0, .ref (mm 0))] → W p l e ({ frames := 6, cells := 0, slots := 0, locals := 150 } : Room) s m [.ref (mm 0)].toArray below meth c H locs 0 0 (MQ below (va_Qi (fun (z : Int32) (u : MS) => RM (d, d1, d2, f1, f2, f, s0) u ∧ u.2.2.2.2.2.1 = nI (rs_greatest (d, d1, d2, f1, f2, f, s0).1).1 ∧ ((rs_greatest (d, d1, d2, f1, f2, f, s0).1).1 = 0 → z.toInt = (rs_greatest (d, d1, d2, f1, f2, f, s0).1).2)) (fun (u : MS) t => cB D K A (WMu K mm u) t) A) [.ref (mm 0)].toArray s 0 0 A) (F0 m 40 ls []) := by
    intro fuel
    induction fuel with
    | zero =>
      intro k H locs ls hfu
      exact absurd hfu (Nat.not_lt_zero _)
    | succ fuel ih40 =>
      intro k H locs ls hfu hk1 hk2 hP hD hS hl
      refine lv_iload_n hx hb dX7_greatestTorque_40 rfl (lv_at hl 0 rfl) ?_
      refine b_if_le hx hb (nI_toIntI (by omega)) dX7_greatestTorque_41 (tgt := 58) (by decide) (fun c41 => ?_) (fun c41 => ?_)
      · refine lv_iload_n hx hb dX7_greatestTorque_58 rfl (lv_at hl 0 rfl) ?_
        have hkg : k = grt d 6 := by omega
        have hrs : rs_greatest d = _ := ((cI_f (fun z => z (by rw [hg1]; omega))).trans (rfl))
        exact W.iret (v := nI k) hx hb hr (fun t9 ht9 hW => ⟨⟨nI k, (ta, sl, ss, be, ch, (nI 0), u7.1, (nI 6), (nI 10), u7.2.1, u7.2.2, st, gs, gm, gu, gl, aw), rfl, ⟨hR, by rw [hrs], by rw [hrs]; exact fun h9 => by rw [nI_toIntI (by omega), hkg]⟩, by rw [ht9]; exact hP, va_K.moved hW.alike hK, hD⟩, hS.F ht9⟩) hS.2.2 dX7_greatestTorque_59
      refine lv_aload_n hx hb dX7_greatestTorque_44 rfl (lv_at hl 1 rfl) ?_
      refine lv_iload_n hx hb dX7_greatestTorque_45 rfl (lv_at hl 0 rfl) ?_
      refine va_calli (va_runV (As := [.int (nI k)]) (rest := []) ⟨hx, hb, hml, hown, hts⟩ (c_X7_slips l D K mm ta sl ss be ch (nI 0) u7.1 (nI 6) (nI 10) u7.2.1 u7.2.2 st gs gm gu gl aw d k H.size hk2 hd hat (by rw [hg1]; exact hs1)) (cwV 1 hts (TB_V k_m_X7_147 k_im_X7_slips k_se_X7_slips k_in_X7 k_co_X7_slips (fun _ h => h)) rfl rfl rfl (by decide +kernel) ⟨Nat.le_of_ble_eq_true rfl, Nat.le_of_ble_eq_true rfl⟩) ⟨cP_blind, va_recv hK hP (ci := 7) (q0 := 0) rfl rfl, cP_of hP hK hD⟩ rfl rfl hl.1 rfl (lv_room (Nat.le_of_ble_eq_true rfl)) dX7_greatestTorque_46 ⟨Nat.le_of_ble_eq_true rfl, Nat.le_of_ble_eq_true rfl⟩) hS (fun q _ h => absurd h id) (fun q h => absurd h id) (fun sz u9 t9 H locs ht9 hvm hw hB hz1 hk1 hS => ?_)
      have hP := P_same hP hk1
      have hslb : slp d ((k : Nat) : Int) 6 < 64 := slp_lt d _ 6
      refine t_i hw ?_
      have hsg := slp_grt (d := d) hk2 6
      refine b_if_eq hx hb (nI_toIntI (by omega)) dX7_greatestTorque_49 (tgt := 58) (by decide) (fun c49 => ?_) (fun c49 => ?_)
      · refine lv_iload_n hx hb dX7_greatestTorque_58 rfl (lv_at hl 0 rfl) ?_
        have hkg : k = grt d 6 := by omega
        have hrs : rs_greatest d = _ := ((cI_f (fun z => z (by rw [hg1]; omega))).trans (rfl))
        exact W.iret (v := nI k) hx hb hr (fun t9 ht9 hW => ⟨⟨nI k, (ta, sl, ss, be, ch, (nI 0), u7.1, (nI 6), (nI 10), u7.2.1, u7.2.2, st, gs, gm, gu, gl, aw), rfl, ⟨hR, by rw [hrs], by rw [hrs]; exact fun h9 => by rw [nI_toIntI (by omega), hkg]⟩, by rw [ht9]; exact hP, va_K.moved hW.alike hK, hD⟩, hS.F ht9⟩) hS.2.2 dX7_greatestTorque_59
      refine lv_iinc (v := nI (k - 1)) (lv' := [(1, .int (nI (k - 1))), (0, .ref (mm 0))]) hx hb dX7_greatestTorque_52 hl (k := 0) rfl (nI_dec k (by omega)) (by decide) rfl (fun ls hl => ?_)
      refine lv_goto (tgt := 40) hx hb dX7_greatestTorque_55 (by decide) ?_
      exact ih40 (k - 1) _ _ _ (by omega) (by omega) (by omega) hP hD hS (lv_sub hl [0, 1] rfl)
  exact L40 _ 10000 _ _ _ (Nat.lt_succ_self _) (grt_le d 6) (by omega) hP hD hS (lv_sub hl [0, 1] rfl)
set_option maxHeartbeats 4000000 in
set_option maxRecDepth 100000 in
theorem c_X7_ratioAsFloat (l : Launch) (D : va_G) (K : Nat → ClassId) (mm : Nat → Nat) (v : CV) (w0 : MS)  (sz : Nat) (hI : IV v) (hR : RM v w0)  : Met l yX7_ratioAsFloat (.code yX7_ratioAsFloat cX7_ratioAsFloat 1 (some .float) :: TB) ({ frames := 6, cells := 0, slots := 0, locals := 150 } : Room) (va_Pc [.ref (mm 0)] (cP D K (WMu K mm w0) sz)) (va_Qf (fun (z : UInt32) (u : MS) => RM v u ∧ u.2.2.2.2.2.1 = nI (rs_raf v.1).1 ∧ ((rs_raf v.1).1 = 0 → vf_n32 z ∧ z = (rs_raf v.1).2)) (fun (u : MS) t => cB D K (va_A (WMu K mm w0) sz) (WMu K mm u) t) (va_A (WMu K mm w0) sz)) 0 0 (va_A (WMu K mm w0) sz) := by
  refine Met.ofW (cc := cX7_ratioAsFloat) (maxL := 1) (ret := (some .float)) (by decide) rfl ?_
  intro p e s m args below meth c s₁ B hml hv
  obtain ⟨rfl, hsz, hP, hK, hD0⟩ := hv
  have hx := B.exec
  have hb := B.bytes
  have hr := B.returns
  have hts := hts_tl (atoms_spec (ws := (.code yX7_ratioAsFloat cX7_ratioAsFloat 1 (some .float) :: TB)) B.pre)
  have hown : s.vm.findClass RX7 = some m.cls := findClass_of_methodNamed B.named
  have hlocks := B.notSynchronized
  subst hsz
  have hD := hD0.self (sz := s.heap.size)
  generalize hAe : (va_A (WMu K mm w0) s.heap.size) = A at hD ⊢
  have hA : ∀ q : Nat, s.heap.size ≤ q → A q := fun q h => by rw [← hAe]; exact Or.inr h
  have hS : va_S A s.heap s.heap [] := va_S.rf
  clear hAe hD0
  obtain ⟨d, d1, d2, f1, f2, f, s0⟩ := v
  obtain ⟨ta, sl, ss, be, ch, th, M, rq, cq, pv, so, st, gs, gm, gu, gl, aw⟩ := w0
  obtain ⟨hd, hd1, hd2, hf1, hf2, hs20, hhf⟩ := id hI
  obtain ⟨hat, hat1, hat2, hss0, hss1, hch, hbe⟩ := id hR
  dsimp only at hd hd1 hd2 hf1 hf2 hs20 hhf hat hat1 hat2 hss0 hss1 hch hbe
  obtain ⟨n, m1, ge, hn, hm, hge, h0, h1, h2, hs9, he9⟩ := id hd
  obtain ⟨ha1, ha2, ha33, ha34, ha35⟩ := id hat
  have hp6 : 2 ^ m1 ≤ 64 := Nat.pow_le_pow_right (show 0 < 2 by decide) hm
  have h33 := ha33.trans h0
  have h34 := ha34.trans h1
  have h35 := ha35.trans h2
  have hn1 : dn d 8 0 = n := dn_of h0 (by omega)
  have hm1 : dn d 8 1 = m1 := dn_of h1 (by omega)
  have hg1 : dn d 8 2 = ge := dn_of h2 (by omega)
  have hP : va_P D vwCl (WM K mm ta sl ss be ch th M rq cq pv so st gs gm gu gl aw) s.heap := hP
  have hD : va_D A (WM K mm ta sl ss be ch th M rq cq pv so st gs gm gu gl aw) := hD
  have hl := lv_entry ([.ref (mm 0)]) (n := 1) (Nat.le_of_ble_eq_true rfl)
  rw [lg_entry_eq]
  generalize (lg_sl ([.ref (mm 0)]) ++ List.replicate (1 - (lg_sl ([.ref (mm 0)])).length) Slot.unset).toArray = ls at hl ⊢
  have hl : lv_has ls 1 [(0, .ref (mm 0))] := hl
  refine lv_aload_n hx hb dX7_ratioAsFloat_0 rfl (lv_at hl 0 rfl) ?_
  refine lv_aload_n hx hb dX7_ratioAsFloat_1 rfl (lv_at hl 0 rfl) ?_
  refine lv_aload_n hx hb dX7_ratioAsFloat_2 rfl (lv_at hl 0 rfl) ?_
  refine va_get (D := D) (ci := 7) (C := RX7) (T := TX7) (N := 17) hx hb hts iX7 hown hK hP 0 rfl rfl 0 (by decide) (hts _ k_f_X7_7) (fun _ h9 => h9) rfl dX7_ratioAsFloat_3 ?_
  refine lv_bipush (v := nI 35) hx hb dX7_ratioAsFloat_6 (by decide) ?_
  refine n_iald hx hb hK hP 1 0 rfl rfl (i := 35) (n := 36) (by omega) (by decide) dX7_ratioAsFloat_8 ?_
  refine t_i (show _ = nI ge from h35) ?_
  have hFc := freeAll hD hS hA
  refine va_calli (va_runV (As := [.int (nI ge)]) (rest := [.ref (mm 0)]) ⟨hx, hb, hml, hown, hts⟩ (c_X7_stateOf l D K mm ta sl ss be ch th M rq cq pv so st gs gm gu gl aw d ge s.heap.size hd hat (by omega)) (cwV 1 hts (TB_V k_m_X7_127 k_im_X7_stateOf k_se_X7_stateOf k_in_X7 k_co_X7_stateOf (fun _ h => h)) rfl rfl rfl (by decide +kernel) ⟨Nat.le_of_ble_eq_true rfl, Nat.le_of_ble_eq_true rfl⟩) ⟨cP_blind, va_recv hK hP (ci := 7) (q0 := 0) rfl rfl, cP_of hP hK hD⟩ rfl rfl hl.1 rfl (lv_room (Nat.le_of_ble_eq_true rfl)) dX7_ratioAsFloat_9 ⟨Nat.le_of_ble_eq_true rfl, Nat.le_of_ble_eq_true rfl⟩) hS (fun q _ h => hFc q h) hFc (fun sz9 u6 t9 H locs ht9 hvm hw hB hz1 hk1 hS => ?_)
  obtain ⟨hP, hK1, hD1⟩ := hB
  rw [ht9] at hP
  have hD := hD1.weaken (fun _ _ _ h => hFc _ h)
  have hP : va_P D vwCl (WM K mm ta sl ss be ch th u6.1.1 u6.2 (nI 6) u6.1.2.1 u6.1.2.2 st gs gm gu gl aw) H := hP
  have hD : va_D A (WM K mm ta sl ss be ch th u6.1.1 u6.2 (nI 6) u6.1.2.1 u6.1.2.2 st gs gm gu gl aw) := hD
  obtain ⟨hsz9, nr, hnr, hrq9, hs0⟩ := hw
  have hst3 := stC_le (SP d ge)
  have hst3 : stM d ge ≤ 3 := hst3
  refine t_i hsz9 ?_
  refine b_if_ne hx hb (nI_toIntI (by omega)) dX7_ratioAsFloat_12 (tgt := 19) (by decide) (fun c12 => ?_) (fun c12 => ?_)
  · refine lv_iconst (v := nI 1) hx hb dX7_ratioAsFloat_19 (by decide) ?_
    refine va_put (D := D) (ci := 7) (v := .int (nI 1)) (ty := .int) (C := RX7) (T := TX7) (N := 17) hx hb hts iX7 tyX7 tyX7_ok nmX7 hown hK hP hD hS 0 rfl rfl 5 (by decide) (hts _ k_f_X7_45) (fun _ h9 => h9) rfl (by decide +kernel) rfl rfl (Nat.le_of_ble_eq_true rfl) dX7_ratioAsFloat_20 (fun H locs hP hD hS => ?_)
    have hP : va_P D vwCl (WM K mm ta sl ss be ch (nI 1) u6.1.1 u6.2 (nI 6) u6.1.2.1 u6.1.2.2 st gs gm gu gl aw) H := hP
    have hD : va_D A (WM K mm ta sl ss be ch (nI 1) u6.1.1 u6.2 (nI 6) u6.1.2.1 u6.1.2.2 st gs gm gu gl aw) := hD
    refine lv_aload_n hx hb dX7_ratioAsFloat_23 rfl (lv_at hl 0 rfl) ?_
    refine va_get (D := D) (ci := 7) (C := RX7) (T := TX7) (N := 17) hx hb hts iX7 hown hK hP 0 rfl rfl 5 (by decide) (hts _ k_f_X7_45) (fun _ h9 => h9) rfl dX7_ratioAsFloat_24 ?_
    refine b_if_eq hx hb (nI_toIntI (by omega)) dX7_ratioAsFloat_27 (tgt := 34) (by decide) (fun c27 => absurd c27 (by omega)) (fun c27 => ?_)
    refine lv_fconst0 hx hb dX7_ratioAsFloat_30 ?_
    refine lv_goto (tgt := 47) hx hb dX7_ratioAsFloat_31 (by decide) ?_
    have hrs : rs_raf d = _ := (cI_t (by rw [hg1]; omega))
    exact W.fret (v := FP.fconst0) hx hb hr (fun t9 ht9 hW => ⟨⟨FP.fconst0, (ta, sl, ss, be, ch, (nI 1), u6.1.1, u6.2, (nI 6), u6.1.2.1, u6.1.2.2, st, gs, gm, gu, gl, aw), rfl, ⟨hR, by rw [hrs], by rw [hrs]; exact fun h9 => absurd h9 (by decide)⟩, by rw [ht9]; exact hP, va_K.moved hW.alike hK, hD⟩, hS.F ht9⟩) hS.2.2 dX7_ratioAsFloat_47
  refine lv_iconst (v := nI 0) hx hb dX7_ratioAsFloat_15 (by decide) ?_
  refine lv_goto (tgt := 20) hx hb dX7_ratioAsFloat_16 (by decide) ?_
  refine va_put (D := D) (ci := 7) (v := .int (nI 0)) (ty := .int) (C := RX7) (T := TX7) (N := 17) hx hb hts iX7 tyX7 tyX7_ok nmX7 hown hK hP hD hS 0 rfl rfl 5 (by decide) (hts _ k_f_X7_45) (fun _ h9 => h9) rfl (by decide +kernel) rfl rfl (Nat.le_of_ble_eq_true rfl) dX7_ratioAsFloat_20 (fun H locs hP hD hS => ?_)
  have hP : va_P D vwCl (WM K mm ta sl ss be ch (nI 0) u6.1.1 u6.2 (nI 6) u6.1.2.1 u6.1.2.2 st gs gm gu gl aw) H := hP
  have hD : va_D A (WM K mm ta sl ss be ch (nI 0) u6.1.1 u6.2 (nI 6) u6.1.2.1 u6.1.2.2 st gs gm gu gl aw) := hD
  refine lv_aload_n hx hb dX7_ratioAsFloat_23 rfl (lv_at hl 0 rfl) ?_
  refine va_get (D := D) (ci := 7) (C := RX7) (T := TX7) (N := 17) hx hb hts iX7 hown hK hP 0 rfl rfl 5 (by decide) (hts _ k_f_X7_45) (fun _ h9 => h9) rfl dX7_ratioAsFloat_24 ?_
  refine b_if_eq hx hb (nI_toIntI (by omega)) dX7_ratioAsFloat_27 (tgt := 34) (by decide) (fun c27 => ?_) (fun c27 => absurd c27 (by omega))
  refine lv_aload_n hx hb dX7_ratioAsFloat_34 rfl (lv_at hl 0 rfl) ?_
  refine lv_iconst (v := nI 0) hx hb dX7_ratioAsFloat_35 (by decide) ?_
  have hst0 : stM d ge = 0 := by omega
  refine va_calll (va_runV (As := [.int (nI 0)]) (rest := []) ⟨hx, hb, hml, hown, hts⟩ (c_X7_ratioPart l D K mm ta sl ss be ch (nI 0) u6.1.1 u6.2 (nI 6) u6.1.2.1 u6.1.2.2 st gs gm gu gl aw (SP d ge) nr 0 H.size hnr (by decide) hs0 hst0) (cwV 1 hts (TB_V k_m_X7_141 k_im_X7_ratioPart k_se_X7_ratioPart k_in_X7 k_co_X7_ratioPart (fun _ h => h)) rfl rfl rfl (by decide +kernel) ⟨Nat.le_of_ble_eq_true rfl, Nat.le_of_ble_eq_true rfl⟩) ⟨cP_blind, va_recv hK hP (ci := 7) (q0 := 0) rfl rfl, cP_of hP hK hD⟩ rfl rfl hl.1 rfl (lv_room (Nat.le_of_ble_eq_true rfl)) dX7_ratioAsFloat_36 ⟨Nat.le_of_ble_eq_true rfl, Nat.le_of_ble_eq_true rfl⟩) hS (fun q _ h => absurd h id) (fun q h => absurd h id) (fun rr0 u9 t9 H locs ht9 hvm hw hB hz1 hk1 hS => ?_)
  have hP := P_same hP hk1
  have hr0 : rr0.toInt = rtN (SP d ge) := hw
  refine lv_l2f hx hb dX7_ratioAsFloat_39 ?_
  refine lv_aload_n hx hb dX7_ratioAsFloat_40 rfl (lv_at hl 0 rfl) ?_
  refine lv_iconst (v := nI 1) hx hb dX7_ratioAsFloat_41 (by decide) ?_
  refine va_calll (va_runV (As := [.int (nI 1)]) (rest := [.float (FP.l2f rr0)]) ⟨hx, hb, hml, hown, hts⟩ (c_X7_ratioPart l D K mm ta sl ss be ch (nI 0) u6.1.1 u6.2 (nI 6) u6.1.2.1 u6.1.2.2 st gs gm gu gl aw (SP d ge) nr 1 H.size hnr (by decide) hs0 hst0) (cwV 1 hts (TB_V k_m_X7_141 k_im_X7_ratioPart k_se_X7_ratioPart k_in_X7 k_co_X7_ratioPart (fun _ h => h)) rfl rfl rfl (by decide +kernel) ⟨Nat.le_of_ble_eq_true rfl, Nat.le_of_ble_eq_true rfl⟩) ⟨cP_blind, va_recv hK hP (ci := 7) (q0 := 0) rfl rfl, cP_of hP hK hD⟩ rfl rfl hl.1 rfl (lv_room (Nat.le_of_ble_eq_true rfl)) dX7_ratioAsFloat_42 ⟨Nat.le_of_ble_eq_true rfl, Nat.le_of_ble_eq_true rfl⟩) hS (fun q _ h => absurd h id) (fun q h => absurd h id) (fun rr1 u9 t9 H locs ht9 hvm hw hB hz1 hk1 hS => ?_)
  have hP := P_same hP hk1
  have hr1 : rr1.toInt = rtD (SP d ge) := hw
  refine lv_l2f hx hb dX7_ratioAsFloat_45 ?_
  have hdr := stC_drive.mp (show stC (SP d ge) = 0 from hst0)
  obtain ⟨kv, hkv, hpv9, hne9, hb19, hb29, hvn, hvd⟩ := hs0.val hnr (by decide) (t := 1) (by decide) hdr.1 hdr.2.1
  obtain ⟨hle1, hle2⟩ := Lval_le (c := (u6.1.1 kv 10).toInt) hne9
  rw [hvn] at hle1
  rw [hvd] at hle2
  have hne1 : rr0.toInt ≠ 0 := by rw [hr0]; exact rtN_ne _
  have hne2 : rr1.toInt ≠ 0 := by rw [hr1]; exact rtD_ne hst0
  have hN9 : vf_n32 (FP.fdiv (FP.l2f rr0) (FP.l2f rr1)) := fq_n32 hne1 hne2 (by rw [hr0]; exact rtN_le (by omega)) (by rw [hr1]; exact rtD_le (by omega))
  refine lv_fdiv hx hb dX7_ratioAsFloat_46 hN9 ?_
  have hrs : rs_raf d = _ := ((cI_f (fun z => z (by rw [hg1]; exact hst0))).trans (rfl))
  exact W.fret (v := FP.fdiv (FP.l2f rr0) (FP.l2f rr1)) hx hb hr (fun t9 ht9 hW => ⟨⟨FP.fdiv (FP.l2f rr0) (FP.l2f rr1), (ta, sl, ss, be, ch, (nI 0), u6.1.1, u6.2, (nI 6), u6.1.2.1, u6.1.2.2, st, gs, gm, gu, gl, aw), rfl, ⟨hR, by rw [hrs], by rw [hrs]; exact fun h9 => ⟨hN9, by rw [hg1]; unfold fqS; rw [← i64_of hr0, ← i64_of hr1]; rfl⟩⟩, by rw [ht9]; exact hP, va_K.moved hW.alike hK, hD⟩, hS.F ht9⟩) hS.2.2 dX7_ratioAsFloat_47
