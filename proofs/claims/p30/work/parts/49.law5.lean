/-! the law: powers, walked -/
set_option maxHeartbeats 4000000 in
set_option maxRecDepth 100000 in
theorem c_L_powers (l : Launch) (hlf : l.stackTraces = false) (D : va_G) (K : Nat → ClassId) (ad q q1 q2 g r r2 : Nat → Nat) (v : CV) (i : CI) (me cl : Nat) (sz : Nat) (hI : IV v) (hJ : II v.1 i) (hme : me = dn v.1 8 1) (hcl64 : cl < 64) (hcl : ∀ j, j < dn v.1 8 1 → (cl.testBit j = true ↔ ¬ v.1 6 j = -1)) : Met l yL_powers (.code yL_powers cL_powers 18 (some .boolean) :: TB) ({ frames := 9, cells := 29, slots := 174, locals := 194 } : Room) (va_Pc [.ref (ad 0), .int (nI me), .int (nI cl)] (cPM D K (WX K ad q q1 q2 g r r2 v i) sz)) (va_Qi (fun (z : Int32) (u : CV × CI) => z = nI 1 ∧ u.1 = v ∧ II u.1.1 u.2) (fun (u : CV × CI) t => cB D K (va_A (WX K ad q q1 q2 g r r2 v i) sz) (WX K ad q q1 q2 g r r2 u.1 u.2) t) (va_A (WX K ad q q1 q2 g r r2 v i) sz)) 29 174 (va_A (WX K ad q q1 q2 g r r2 v i) sz) := by
  refine Met.ofW (cc := cL_powers) (maxL := 18) (ret := (some .boolean)) (by decide) rfl ?_
  intro p e s m args below meth c s₁ B hml hv
  obtain ⟨rfl, ⟨hsz, hP, hK, hD0⟩, hTX, hCL⟩ := hv
  have hx := B.exec
  have hb := B.bytes
  have hr := B.returns
  have hts := hts_tl (atoms_spec (ws := (.code yL_powers cL_powers 18 (some .boolean) :: TB)) B.pre)
  have hown : s.vm.findClass RL = some m.cls := findClass_of_methodNamed B.named
  have hlocks := B.notSynchronized
  subst hsz
  have hD := hD0.self (sz := s.heap.size)
  generalize hAe : (va_A (WX K ad q q1 q2 g r r2 v i) s.heap.size) = A at hD hTX ⊢
  have hA : ∀ q : Nat, s.heap.size ≤ q → A q := fun q h => by rw [← hAe]; exact Or.inr h
  have hS : va_S A s.heap s.heap [] := va_S.rf
  clear hAe hD0
  have hP : va_P D vwCl (WX K ad q q1 q2 g r r2 v i) s.heap := hP
  have hD : va_D A (WX K ad q q1 q2 g r r2 v i) := hD
  have hl := lv_entry ([.ref (ad 0), .int (nI me), .int (nI cl)]) (n := 18) (Nat.le_of_ble_eq_true rfl)
  rw [lg_entry_eq]
  generalize (lg_sl ([.ref (ad 0), .int (nI me), .int (nI cl)]) ++ List.replicate (18 - (lg_sl ([.ref (ad 0), .int (nI me), .int (nI cl)])).length) Slot.unset).toArray = ls at hl ⊢
  have hl : lv_has ls 18 [(0, .ref (ad 0)), (1, .int (nI me)), (2, .int (nI cl))] := hl
  have hm6 := DV_m hI.1
  obtain ⟨hgl, hge2, hp64, hge64⟩ := DV_g hI.1
  refine lv_aload_n hx hb dL_powers_0 rfl (lv_at hl 0 rfl) ?_
  have hFc := freeAll hD hS hA
  refine va_calli (va_runV (As := []) (rest := []) ⟨hx, hb, hml, hown, hts⟩ (c_X6_state l D K ad q q1 q2 g r r2 v i  s.heap.size hI hJ) (cwV 0 hts (TB_V k_m_L_91 k_im_X6_state k_se_X6_state k_in_X6 k_co_X6_state (fun _ h => h)) rfl rfl rfl (by decide +kernel) ⟨Nat.le_of_ble_eq_true rfl, Nat.le_of_ble_eq_true rfl⟩) ⟨cP_blind, va_recv hK hP (ci := 6) (q0 := 0) rfl rfl, cP_of hP hK hD⟩ rfl rfl hl.1 rfl (lv_room (Nat.le_of_ble_eq_true rfl)) dL_powers_1 ⟨(Nat.le_of_ble_eq_true rfl), (Nat.le_of_ble_eq_true rfl)⟩) hS (fun q _ h => hFc q h) hFc (fun rz u9 t9 H locs ht9 hal hw hB hz1 hk1 hS => ?_)
  obtain ⟨v9, i9⟩ := u9
  obtain ⟨hP1, hK1, hD1⟩ := hB
  rw [ht9] at hP1
  have hP2 := hP1
  have hD2 := hD1.weaken (fun _ _ _ h => hFc _ h)
  obtain ⟨hv9, hJ9, hr9⟩ := hw
  have hv9 : v9 = v := hv9
  dsimp only at hJ9 hr9
  rw [hv9] at hP2 hD2 hJ9
  dsimp only at hP2 hD2
  have hJ : II v.1 i9 := hJ9
  have hP : va_P D vwCl (WX K ad q q1 q2 g r r2 v i9) H := hP2
  have hD : va_D A (WX K ad q q1 q2 g r r2 v i9) := hD2
  by_cases hst : stM v.1 (dn v.1 8 2) = 0
  rotate_left
  · refine b_if_eq hx hb rfl dL_powers_4 (tgt := 9) (by decide) (fun c4 => absurd c4 (by rw [hr9]; omega)) (fun c4 => ?_)
    refine lv_iconst (v := nI 1) hx hb dL_powers_7 (by decide) ?_
    refine W.widen (k := 29) (n := 174) (Nat.le_of_ble_eq_true rfl) (Nat.le_of_ble_eq_true rfl) ?_
    exact W.zret (v := nI 1) hx hb hr (by decide) (fun t9 ht9 hW => ⟨⟨nI 1, (v, i9), rfl, ⟨rfl, rfl, hJ⟩, by rw [ht9]; exact hP, va_K.moved hW.alike hK, hD⟩, hS.F ht9⟩) hS.2.2 dL_powers_8
  refine t_i ((i32_eq rz (nI 0)).mpr (by rw [nI_toIntI (by decide), hr9, hst])) ?_
  refine b_if_eq hx hb (nI_toIntI (by omega)) dL_powers_4 (tgt := 9) (by decide) (fun c4 => ?_) (fun c4 => absurd c4 (by omega))
  obtain ⟨X, dd, Dd, N0, L0, hXT, hX10, hdd, hDd, hDB, ⟨hpo1, hpo2, hpr1, hpr2⟩, hL0, hL0D, hSI0, hpk⟩ := pow_facts hI.1 hst
  have hL0b := lw_le hDd hDB hL0D
  refine lv_aload_n hx hb dL_powers_9 rfl (lv_at hl 0 rfl) ?_
  refine lv_iconst (v := nI 0) hx hb dL_powers_10 (by decide) ?_
  have hrs : rs_outputTorque v.1 (nI 0) = (0, N0) := hpo1
  have hFc := freeAll hD hS hA
  refine vx_calll (vx_runV (As := [.int (nI 0)]) (rest := []) ⟨hx, hb, hml, hown, hts⟩ (c_X6_outputTorque l hlf D K ad q q1 q2 g r r2 v i9 (nI 0) H.size hI hJ) (cwV 1 hts (TB_V k_m_L_94 k_im_X6_outputTorque k_se_X6_outputTorque k_in_X6 k_co_X6_outputTorque (fun _ h => h)) rfl rfl rfl (by decide +kernel) ⟨Nat.le_of_ble_eq_true rfl, Nat.le_of_ble_eq_true rfl⟩) ⟨cPT_blind, va_recv hK hP (ci := 6) (q0 := 0) rfl rfl, cPT_of hP hK hD hTX hS hFc⟩ rfl rfl hl.1 rfl (lv_room (Nat.le_of_ble_eq_true rfl)) dL_powers_11 ⟨(Nat.le_of_ble_eq_true rfl), (Nat.le_of_ble_eq_true rfl)⟩) hS (fun q _ h => hFc q h) hFc (fun q _ h => hFc q h) (fun E ce q9 u9 t9 H locs ht9 hal hpx hB hz1 hk1 hS hce hcv hcl => ?_) (fun rz u9 t9 H locs ht9 hal hw hB hz1 hk1 hS => ?_)
  · exact absurd hB.1.1 (by rw [hrs]; exact Nat.lt_irrefl 0)
  obtain ⟨v9, i9⟩ := u9
  obtain ⟨hP1, hK1, hD1⟩ := hB
  rw [ht9] at hP1
  have hP2 := hP1
  have hD2 := hD1.weaken (fun _ _ _ h => hFc _ h)
  obtain ⟨hv9, hJ9, hr9⟩ := hw
  have hv9 : v9 = v := hv9
  dsimp only at hJ9 hr9
  rw [hv9] at hP2 hD2 hJ9
  dsimp only at hP2 hD2
  have hJ : II v.1 i9 := hJ9
  have hP : va_P D vwCl (WX K ad q q1 q2 g r r2 v i9) H := hP2
  have hD : va_D A (WX K ad q q1 q2 g r r2 v i9) := hD2
  have hz : rz.toInt = N0 := (Prod.mk.inj (hr9.symm.trans hrs)).2
  refine t_l (i64_of hz) ?_
  refine lv_aload_n hx hb dL_powers_14 rfl (lv_at hl 0 rfl) ?_
  refine lv_iconst (v := nI 0) hx hb dL_powers_15 (by decide) ?_
  have hrs : rs_ratio v.1 (nI 0) = (0, (-N0)) := hpr1
  have hFc := freeAll hD hS hA
  refine vx_calll (vx_runV (As := [.int (nI 0)]) (rest := [.long (Int64.ofInt N0)]) ⟨hx, hb, hml, hown, hts⟩ (c_X6_ratio l hlf D K ad q q1 q2 g r r2 v i9 (nI 0) H.size hI hJ) (cwV 1 hts (TB_V k_m_L_98 k_im_X6_ratio k_se_X6_ratio k_in_X6 k_co_X6_ratio (fun _ h => h)) rfl rfl rfl (by decide +kernel) ⟨Nat.le_of_ble_eq_true rfl, Nat.le_of_ble_eq_true rfl⟩) ⟨cPT_blind, va_recv hK hP (ci := 6) (q0 := 0) rfl rfl, cPT_of hP hK hD hTX hS hFc⟩ rfl rfl hl.1 rfl (lv_room (Nat.le_of_ble_eq_true rfl)) dL_powers_16 ⟨(Nat.le_of_ble_eq_true rfl), (Nat.le_of_ble_eq_true rfl)⟩) hS (fun q _ h => hFc q h) hFc (fun q _ h => hFc q h) (fun E ce q9 u9 t9 H locs ht9 hal hpx hB hz1 hk1 hS hce hcv hcl => ?_) (fun rz u9 t9 H locs ht9 hal hw hB hz1 hk1 hS => ?_)
  · exact absurd hB.1.1 (by rw [hrs]; exact Nat.lt_irrefl 0)
  obtain ⟨v9, i9⟩ := u9
  obtain ⟨hP1, hK1, hD1⟩ := hB
  rw [ht9] at hP1
  have hP2 := hP1
  have hD2 := hD1.weaken (fun _ _ _ h => hFc _ h)
  obtain ⟨hv9, hJ9, hr9⟩ := hw
  have hv9 : v9 = v := hv9
  dsimp only at hJ9 hr9
  rw [hv9] at hP2 hD2 hJ9
  dsimp only at hP2 hD2
  have hJ : II v.1 i9 := hJ9
  have hP : va_P D vwCl (WX K ad q q1 q2 g r r2 v i9) H := hP2
  have hD : va_D A (WX K ad q q1 q2 g r r2 v i9) := hD2
  have hz : rz.toInt = (-N0) := (Prod.mk.inj (hr9.symm.trans hrs)).2
  refine t_l (i64_of hz) ?_
  refine lv_lneg hx hb dL_powers_19 ?_
  refine t_l (l_neg N0) ?_
  refine b_lcmp_ne hx hb rfl rfl dL_powers_20 dL_powers_21 (tgt := 38) (by decide) (fun c20 => absurd c20 (fun z => z rfl)) (fun c20 => ?_)
  refine lv_aload_n hx hb dL_powers_24 rfl (lv_at hl 0 rfl) ?_
  refine lv_iconst (v := nI 1) hx hb dL_powers_25 (by decide) ?_
  have hrs : rs_outputTorque v.1 (nI 1) = (0, ((L0 : Nat) : Int)) := hpo2
  have hFc := freeAll hD hS hA
  refine vx_calll (vx_runV (As := [.int (nI 1)]) (rest := []) ⟨hx, hb, hml, hown, hts⟩ (c_X6_outputTorque l hlf D K ad q q1 q2 g r r2 v i9 (nI 1) H.size hI hJ) (cwV 1 hts (TB_V k_m_L_94 k_im_X6_outputTorque k_se_X6_outputTorque k_in_X6 k_co_X6_outputTorque (fun _ h => h)) rfl rfl rfl (by decide +kernel) ⟨Nat.le_of_ble_eq_true rfl, Nat.le_of_ble_eq_true rfl⟩) ⟨cPT_blind, va_recv hK hP (ci := 6) (q0 := 0) rfl rfl, cPT_of hP hK hD hTX hS hFc⟩ rfl rfl hl.1 rfl (lv_room (Nat.le_of_ble_eq_true rfl)) dL_powers_26 ⟨(Nat.le_of_ble_eq_true rfl), (Nat.le_of_ble_eq_true rfl)⟩) hS (fun q _ h => hFc q h) hFc (fun q _ h => hFc q h) (fun E ce q9 u9 t9 H locs ht9 hal hpx hB hz1 hk1 hS hce hcv hcl => ?_) (fun rz u9 t9 H locs ht9 hal hw hB hz1 hk1 hS => ?_)
  · exact absurd hB.1.1 (by rw [hrs]; exact Nat.lt_irrefl 0)
  obtain ⟨v9, i9⟩ := u9
  obtain ⟨hP1, hK1, hD1⟩ := hB
  rw [ht9] at hP1
  have hP2 := hP1
  have hD2 := hD1.weaken (fun _ _ _ h => hFc _ h)
  obtain ⟨hv9, hJ9, hr9⟩ := hw
  have hv9 : v9 = v := hv9
  dsimp only at hJ9 hr9
  rw [hv9] at hP2 hD2 hJ9
  dsimp only at hP2 hD2
  have hJ : II v.1 i9 := hJ9
  have hP : va_P D vwCl (WX K ad q q1 q2 g r r2 v i9) H := hP2
  have hD : va_D A (WX K ad q q1 q2 g r r2 v i9) := hD2
  have hz : rz.toInt = ((L0 : Nat) : Int) := (Prod.mk.inj (hr9.symm.trans hrs)).2
  refine t_l (L_ext (x := rz) (y := lN L0) (by rw [lN_toI (by omega)]; exact hz)) ?_
  refine lv_aload_n hx hb dL_powers_29 rfl (lv_at hl 0 rfl) ?_
  refine lv_iconst (v := nI 1) hx hb dL_powers_30 (by decide) ?_
  have hrs : rs_ratio v.1 (nI 1) = (0, ((L0 : Nat) : Int)) := hpr2
  have hFc := freeAll hD hS hA
  refine vx_calll (vx_runV (As := [.int (nI 1)]) (rest := [.long (lN L0)]) ⟨hx, hb, hml, hown, hts⟩ (c_X6_ratio l hlf D K ad q q1 q2 g r r2 v i9 (nI 1) H.size hI hJ) (cwV 1 hts (TB_V k_m_L_98 k_im_X6_ratio k_se_X6_ratio k_in_X6 k_co_X6_ratio (fun _ h => h)) rfl rfl rfl (by decide +kernel) ⟨Nat.le_of_ble_eq_true rfl, Nat.le_of_ble_eq_true rfl⟩) ⟨cPT_blind, va_recv hK hP (ci := 6) (q0 := 0) rfl rfl, cPT_of hP hK hD hTX hS hFc⟩ rfl rfl hl.1 rfl (lv_room (Nat.le_of_ble_eq_true rfl)) dL_powers_31 ⟨(Nat.le_of_ble_eq_true rfl), (Nat.le_of_ble_eq_true rfl)⟩) hS (fun q _ h => hFc q h) hFc (fun q _ h => hFc q h) (fun E ce q9 u9 t9 H locs ht9 hal hpx hB hz1 hk1 hS hce hcv hcl => ?_) (fun rz u9 t9 H locs ht9 hal hw hB hz1 hk1 hS => ?_)
  · exact absurd hB.1.1 (by rw [hrs]; exact Nat.lt_irrefl 0)
  obtain ⟨v9, i9⟩ := u9
  obtain ⟨hP1, hK1, hD1⟩ := hB
  rw [ht9] at hP1
  have hP2 := hP1
  have hD2 := hD1.weaken (fun _ _ _ h => hFc _ h)
  obtain ⟨hv9, hJ9, hr9⟩ := hw
  have hv9 : v9 = v := hv9
  dsimp only at hJ9 hr9
  rw [hv9] at hP2 hD2 hJ9
  dsimp only at hP2 hD2
  have hJ : II v.1 i9 := hJ9
  have hP : va_P D vwCl (WX K ad q q1 q2 g r r2 v i9) H := hP2
  have hD : va_D A (WX K ad q q1 q2 g r r2 v i9) := hD2
  have hz : rz.toInt = ((L0 : Nat) : Int) := (Prod.mk.inj (hr9.symm.trans hrs)).2
  refine t_l (L_ext (x := rz) (y := lN L0) (by rw [lN_toI (by omega)]; exact hz)) ?_
  refine b_lcmp_eq hx hb rfl rfl dL_powers_34 dL_powers_35 (tgt := 40) (by decide) (fun c34 => ?_) (fun c34 => absurd c34 (fun z => z rfl))
  refine lv_aload_n hx hb dL_powers_40 rfl (lv_at hl 0 rfl) ?_
  refine lv_iconst (v := nI 0) hx hb dL_powers_41 (by decide) ?_
  have hrs : rs_outputTorque v.1 (nI 0) = (0, N0) := hpo1
  have hFc := freeAll hD hS hA
  refine vx_calll (vx_runV (As := [.int (nI 0)]) (rest := []) ⟨hx, hb, hml, hown, hts⟩ (c_X6_outputTorque l hlf D K ad q q1 q2 g r r2 v i9 (nI 0) H.size hI hJ) (cwV 1 hts (TB_V k_m_L_94 k_im_X6_outputTorque k_se_X6_outputTorque k_in_X6 k_co_X6_outputTorque (fun _ h => h)) rfl rfl rfl (by decide +kernel) ⟨Nat.le_of_ble_eq_true rfl, Nat.le_of_ble_eq_true rfl⟩) ⟨cPT_blind, va_recv hK hP (ci := 6) (q0 := 0) rfl rfl, cPT_of hP hK hD hTX hS hFc⟩ rfl rfl hl.1 rfl (lv_room (Nat.le_of_ble_eq_true rfl)) dL_powers_42 ⟨(Nat.le_of_ble_eq_true rfl), (Nat.le_of_ble_eq_true rfl)⟩) hS (fun q _ h => hFc q h) hFc (fun q _ h => hFc q h) (fun E ce q9 u9 t9 H locs ht9 hal hpx hB hz1 hk1 hS hce hcv hcl => ?_) (fun rz u9 t9 H locs ht9 hal hw hB hz1 hk1 hS => ?_)
  · exact absurd hB.1.1 (by rw [hrs]; exact Nat.lt_irrefl 0)
  obtain ⟨v9, i9⟩ := u9
  obtain ⟨hP1, hK1, hD1⟩ := hB
  rw [ht9] at hP1
  have hP2 := hP1
  have hD2 := hD1.weaken (fun _ _ _ h => hFc _ h)
  obtain ⟨hv9, hJ9, hr9⟩ := hw
  have hv9 : v9 = v := hv9
  dsimp only at hJ9 hr9
  rw [hv9] at hP2 hD2 hJ9
  dsimp only at hP2 hD2
  have hJ : II v.1 i9 := hJ9
  have hP : va_P D vwCl (WX K ad q q1 q2 g r r2 v i9) H := hP2
  have hD : va_D A (WX K ad q q1 q2 g r r2 v i9) := hD2
  have hz : rz.toInt = N0 := (Prod.mk.inj (hr9.symm.trans hrs)).2
  refine t_l (i64_of hz) ?_
  refine lv_aload_n hx hb dL_powers_45 rfl (lv_at hl 0 rfl) ?_
  refine lv_iconst (v := nI 1) hx hb dL_powers_46 (by decide) ?_
  have hrs : rs_outputTorque v.1 (nI 1) = (0, ((L0 : Nat) : Int)) := hpo2
  have hFc := freeAll hD hS hA
  refine vx_calll (vx_runV (As := [.int (nI 1)]) (rest := [.long (Int64.ofInt N0)]) ⟨hx, hb, hml, hown, hts⟩ (c_X6_outputTorque l hlf D K ad q q1 q2 g r r2 v i9 (nI 1) H.size hI hJ) (cwV 1 hts (TB_V k_m_L_94 k_im_X6_outputTorque k_se_X6_outputTorque k_in_X6 k_co_X6_outputTorque (fun _ h => h)) rfl rfl rfl (by decide +kernel) ⟨Nat.le_of_ble_eq_true rfl, Nat.le_of_ble_eq_true rfl⟩) ⟨cPT_blind, va_recv hK hP (ci := 6) (q0 := 0) rfl rfl, cPT_of hP hK hD hTX hS hFc⟩ rfl rfl hl.1 rfl (lv_room (Nat.le_of_ble_eq_true rfl)) dL_powers_47 ⟨(Nat.le_of_ble_eq_true rfl), (Nat.le_of_ble_eq_true rfl)⟩) hS (fun q _ h => hFc q h) hFc (fun q _ h => hFc q h) (fun E ce q9 u9 t9 H locs ht9 hal hpx hB hz1 hk1 hS hce hcv hcl => ?_) (fun rz u9 t9 H locs ht9 hal hw hB hz1 hk1 hS => ?_)
  · exact absurd hB.1.1 (by rw [hrs]; exact Nat.lt_irrefl 0)
  obtain ⟨v9, i9⟩ := u9
  obtain ⟨hP1, hK1, hD1⟩ := hB
  rw [ht9] at hP1
  have hP2 := hP1
  have hD2 := hD1.weaken (fun _ _ _ h => hFc _ h)
  obtain ⟨hv9, hJ9, hr9⟩ := hw
  have hv9 : v9 = v := hv9
  dsimp only at hJ9 hr9
  rw [hv9] at hP2 hD2 hJ9
  dsimp only at hP2 hD2
  have hJ : II v.1 i9 := hJ9
  have hP : va_P D vwCl (WX K ad q q1 q2 g r r2 v i9) H := hP2
  have hD : va_D A (WX K ad q q1 q2 g r r2 v i9) := hD2
  have hz : rz.toInt = ((L0 : Nat) : Int) := (Prod.mk.inj (hr9.symm.trans hrs)).2
  refine t_l (L_ext (x := rz) (y := lN L0) (by rw [lN_toI (by omega)]; exact hz)) ?_
  refine lv_ladd hx hb dL_powers_50 ?_
  refine t_l (l_addN _ _) ?_
  refine lv_lstore_n (lv' := [(3, .long (Int64.ofInt (N0 + (L0 : Int)))), (0, .ref (ad 0)), (1, .int (nI me)), (2, .int (nI cl))]) hx hb dL_powers_51 rfl hl (by decide) rfl (fun ls hl => ?_)
  refine lv_aload_n hx hb dL_powers_52 rfl (lv_at hl 1 rfl) ?_
  refine lv_iconst (v := nI 1) hx hb dL_powers_53 (by decide) ?_
  have hrs : rs_outputTorque v.1 (nI 1) = (0, ((L0 : Nat) : Int)) := hpo2
  have hFc := freeAll hD hS hA
  refine vx_calll (vx_runV (As := [.int (nI 1)]) (rest := []) ⟨hx, hb, hml, hown, hts⟩ (c_X6_outputTorque l hlf D K ad q q1 q2 g r r2 v i9 (nI 1) H.size hI hJ) (cwV 1 hts (TB_V k_m_L_94 k_im_X6_outputTorque k_se_X6_outputTorque k_in_X6 k_co_X6_outputTorque (fun _ h => h)) rfl rfl rfl (by decide +kernel) ⟨Nat.le_of_ble_eq_true rfl, Nat.le_of_ble_eq_true rfl⟩) ⟨cPT_blind, va_recv hK hP (ci := 6) (q0 := 0) rfl rfl, cPT_of hP hK hD hTX hS hFc⟩ rfl rfl hl.1 rfl (lv_room (Nat.le_of_ble_eq_true rfl)) dL_powers_54 ⟨(Nat.le_of_ble_eq_true rfl), (Nat.le_of_ble_eq_true rfl)⟩) hS (fun q _ h => hFc q h) hFc (fun q _ h => hFc q h) (fun E ce q9 u9 t9 H locs ht9 hal hpx hB hz1 hk1 hS hce hcv hcl => ?_) (fun rz u9 t9 H locs ht9 hal hw hB hz1 hk1 hS => ?_)
  · exact absurd hB.1.1 (by rw [hrs]; exact Nat.lt_irrefl 0)
  obtain ⟨v9, i9⟩ := u9
  obtain ⟨hP1, hK1, hD1⟩ := hB
  rw [ht9] at hP1
  have hP2 := hP1
  have hD2 := hD1.weaken (fun _ _ _ h => hFc _ h)
  obtain ⟨hv9, hJ9, hr9⟩ := hw
  have hv9 : v9 = v := hv9
  dsimp only at hJ9 hr9
  rw [hv9] at hP2 hD2 hJ9
  dsimp only at hP2 hD2
  have hJ : II v.1 i9 := hJ9
  have hP : va_P D vwCl (WX K ad q q1 q2 g r r2 v i9) H := hP2
  have hD : va_D A (WX K ad q q1 q2 g r r2 v i9) := hD2
  have hz : rz.toInt = ((L0 : Nat) : Int) := (Prod.mk.inj (hr9.symm.trans hrs)).2
  refine t_l (L_ext (x := rz) (y := lN L0) (by rw [lN_toI (by omega)]; exact hz)) ?_
  refine lv_lstore (lv' := [(5, .long (lN L0)), (3, .long (Int64.ofInt (N0 + (L0 : Int)))), (0, .ref (ad 0)), (1, .int (nI me)), (2, .int (nI cl))]) hx hb dL_powers_57 hl (by decide) rfl (fun ls hl => ?_)
  refine lv_iconst (v := nI 1) hx hb dL_powers_59 (by decide) ?_
  refine lv_istore (lv' := [(7, .int (nI 1)), (5, .long (lN L0)), (3, .long (Int64.ofInt (N0 + (L0 : Int)))), (0, .ref (ad 0)), (1, .int (nI me)), (2, .int (nI cl))]) hx hb dL_powers_60 hl (by decide) rfl (fun ls hl => ?_)
  refine lv_aload_n hx hb dL_powers_62 rfl (lv_at hl 3 rfl) ?_
  refine lv_sipush (v := nI 500) hx hb dL_powers_63 (by decide) ?_
  obtain ⟨sl, hslr, hsl64, hsl0, hslb⟩ := slip_at (d := v.1) (x := 500) hm6 (by omega) (by omega)
  have hrs : rs_slipping v.1 (nI 500) = (0, ((sl : Nat) : Int)) := hslr
  have hFc := freeAll hD hS hA
  refine vx_calli (vx_runV (As := [.int (nI 500)]) (rest := []) ⟨hx, hb, hml, hown, hts⟩ (c_X6_slipping l hlf D K ad q q1 q2 g r r2 v i9 (nI 500) H.size hI hJ) (cwV 1 hts (TB_V k_m_L_101 k_im_X6_slipping k_se_X6_slipping k_in_X6 k_co_X6_slipping (fun _ h => h)) rfl rfl rfl (by decide +kernel) ⟨Nat.le_of_ble_eq_true rfl, Nat.le_of_ble_eq_true rfl⟩) ⟨cPT_blind, va_recv hK hP (ci := 6) (q0 := 0) rfl rfl, cPT_of hP hK hD hTX hS hFc⟩ rfl rfl hl.1 rfl (lv_room (Nat.le_of_ble_eq_true rfl)) dL_powers_66 ⟨(Nat.le_of_ble_eq_true rfl), (Nat.le_of_ble_eq_true rfl)⟩) hS (fun q _ h => hFc q h) hFc (fun q _ h => hFc q h) (fun E ce q9 u9 t9 H locs ht9 hal hpx hB hz1 hk1 hS hce hcv hcl => ?_) (fun rz u9 t9 H locs ht9 hal hw hB hz1 hk1 hS => ?_)
  · exact absurd hB.1.1 (by rw [hrs]; exact Nat.lt_irrefl 0)
  obtain ⟨v9, i9⟩ := u9
  obtain ⟨hP1, hK1, hD1⟩ := hB
  rw [ht9] at hP1
  have hP2 := hP1
  have hD2 := hD1.weaken (fun _ _ _ h => hFc _ h)
  obtain ⟨hv9, hJ9, hr9⟩ := hw
  have hv9 : v9 = v := hv9
  dsimp only at hJ9 hr9
  rw [hv9] at hP2 hD2 hJ9
  dsimp only at hP2 hD2
  have hJ : II v.1 i9 := hJ9
  have hP : va_P D vwCl (WX K ad q q1 q2 g r r2 v i9) H := hP2
  have hD : va_D A (WX K ad q q1 q2 g r r2 v i9) := hD2
  have hz : rz.toInt = ((sl : Nat) : Int) := (Prod.mk.inj (hr9.symm.trans hrs)).2
  refine t_i ((i32_eq rz (nI sl)).mpr (by rw [nI_toIntI (by omega)]; exact hz)) ?_
  refine lv_istore (lv' := [(8, .int (nI sl)), (7, .int (nI 1)), (5, .long (lN L0)), (3, .long (Int64.ofInt (N0 + (L0 : Int)))), (0, .ref (ad 0)), (1, .int (nI me)), (2, .int (nI cl))]) hx hb dL_powers_69 hl (by decide) rfl (fun ls hl => ?_)
  refine lv_aload_n hx hb dL_powers_71 rfl (lv_at hl 4 rfl) ?_
  have hgt := grt_le v.1 6
  have hrs : rs_greatest v.1 = (0, ((grt v.1 6 : Nat) : Int)) := (cI_f (fun z => z hst))
  have hFc := freeAll hD hS hA
  refine vx_calli (vx_runV (As := []) (rest := []) ⟨hx, hb, hml, hown, hts⟩ (c_X6_greatestTorque l hlf D K ad q q1 q2 g r r2 v i9  H.size hI hJ) (cwV 0 hts (TB_V k_m_L_104 k_im_X6_greatestTorque k_se_X6_greatestTorque k_in_X6 k_co_X6_greatestTorque (fun _ h => h)) rfl rfl rfl (by decide +kernel) ⟨Nat.le_of_ble_eq_true rfl, Nat.le_of_ble_eq_true rfl⟩) ⟨cPT_blind, va_recv hK hP (ci := 6) (q0 := 0) rfl rfl, cPT_of hP hK hD hTX hS hFc⟩ rfl rfl hl.1 rfl (lv_room (Nat.le_of_ble_eq_true rfl)) dL_powers_72 ⟨(Nat.le_of_ble_eq_true rfl), (Nat.le_of_ble_eq_true rfl)⟩) hS (fun q _ h => hFc q h) hFc (fun q _ h => hFc q h) (fun E ce q9 u9 t9 H locs ht9 hal hpx hB hz1 hk1 hS hce hcv hcl => ?_) (fun rz u9 t9 H locs ht9 hal hw hB hz1 hk1 hS => ?_)
  · exact absurd hB.1.1 (by rw [hrs]; exact Nat.lt_irrefl 0)
  obtain ⟨v9, i9⟩ := u9
  obtain ⟨hP1, hK1, hD1⟩ := hB
  rw [ht9] at hP1
  have hP2 := hP1
  have hD2 := hD1.weaken (fun _ _ _ h => hFc _ h)
  obtain ⟨hv9, hJ9, hr9⟩ := hw
  have hv9 : v9 = v := hv9
  dsimp only at hJ9 hr9
  rw [hv9] at hP2 hD2 hJ9
  dsimp only at hP2 hD2
  have hJ : II v.1 i9 := hJ9
  have hP : va_P D vwCl (WX K ad q q1 q2 g r r2 v i9) H := hP2
  have hD : va_D A (WX K ad q q1 q2 g r r2 v i9) := hD2
  have hz : rz.toInt = ((grt v.1 6 : Nat) : Int) := (Prod.mk.inj (hr9.symm.trans hrs)).2
  refine t_i ((i32_eq rz (nI (grt v.1 6))).mpr (by rw [nI_toIntI (by omega)]; exact hz)) ?_
  refine lv_istore (lv' := [(9, .int (nI (grt v.1 6))), (8, .int (nI sl)), (7, .int (nI 1)), (5, .long (lN L0)), (3, .long (Int64.ofInt (N0 + (L0 : Int)))), (0, .ref (ad 0)), (1, .int (nI me)), (2, .int (nI cl))]) hx hb dL_powers_75 hl (by decide) rfl (fun ls hl => ?_)
  refine lv_iconst (v := nI 0) hx hb dL_powers_77 (by decide) ?_
  refine lv_istore (lv' := [(10, .int (nI 0)), (9, .int (nI (grt v.1 6))), (8, .int (nI sl)), (7, .int (nI 1)), (5, .long (lN L0)), (3, .long (Int64.ofInt (N0 + (L0 : Int)))), (0, .ref (ad 0)), (1, .int (nI me)), (2, .int (nI cl))]) hx hb dL_powers_78 hl (by decide) rfl (fun ls hl => ?_)
  refine W.widen (k := 9 + 0 * 3) (n := 54 + 0 * 18) (by omega) (by omega) ?_
  have L80 : ∀ (fuel : Nat) (i : CI) (k : Nat) (al : Nat) (U : Int) (Lw : Nat) (H : Heap) (locs : List Loc) (ls : Array Slot), me - k < fuel → (II v.1 i) → (k ≤ me) → (al ≤ 1) → (al = 1 → ∀ j, j < k → (dn v.1 8 2).testBit j = true → dtT v.1 j) → (0 < Lw) → ((Lw : Int) ∣ Dd) → (SI v.1 X dd U Lw k) → va_P D vwCl (WX K ad q q1 q2 g r r2 v i) H → va_D A (WX K ad q q1 q2 g r r2 v i) → va_S A s.heap H locs → lv_has ls 18 [(0, .ref (ad 0)), (1, .int (nI me)), (2, .int (nI cl)), (3, .long (Int64.ofInt U)), (5, .long (lN Lw)), (7, .int (nI al)), (8, .int (nI sl)), (9, .int (nI (grt v.1 6))), (10, .int (nI k))] → W p l e ({ frames := 9, cells := 29, slots := 174, locals := 194 } : Room) s m [.ref (ad 0), .int (nI me), .int (nI cl)].toArray below meth c H locs (9 + k * 3) (54 + k * 18) (MQ below (va_Qi (fun (z : Int32) (u : CV × CI) => z = nI 1 ∧ u.1 = v ∧ II u.1.1 u.2) (fun (u : CV × CI) t => cB D K A (WX K ad q q1 q2 g r r2 u.1 u.2) t) A) [.ref (ad 0), .int (nI me), .int (nI cl)].toArray s 29 174 A) (F0 m 80 ls []) := by
    intro fuel
    induction fuel with
    | zero =>
      intro i k al U Lw H locs ls hfu
      exact absurd hfu (Nat.not_lt_zero _)
    | succ fuel ih80 =>
      intro i k al U Lw H locs ls hfu hJ hkm hal1 hdall hLw hLD hSI hP hD hS hl
      have hLwb := lw_le hDd hDB hLD
      refine lv_iload hx hb dL_powers_80 (lv_at hl 8 rfl) ?_
      refine lv_iload_n hx hb dL_powers_82 rfl (lv_at hl 1 rfl) ?_
      refine b_icmp_ge hx hb (nI_toIntI (by omega)) (nI_toIntI (by omega)) dL_powers_83 (tgt := 214) (by decide) (fun c83 => ?_) (fun c83 => ?_)
      · refine lv_iload hx hb dL_powers_214 (lv_at hl 7 rfl) ?_
        refine lv_sipush (v := nI 10000) hx hb dL_powers_216 (by decide) ?_
        refine b_icmp_ge hx hb (nI_toIntI (by omega)) (nI_toIntI (by omega)) dL_powers_219 (tgt := 233) (by decide) (fun c219 => ?_) (fun c219 => ?_)
        · refine lv_iload hx hb dL_powers_233 (lv_at hl 7 rfl) ?_
          refine b_if_le hx hb (nI_toIntI (by omega)) dL_powers_235 (tgt := 247) (by decide) (fun c235 => ?_) (fun c235 => ?_)
          · refine lv_iload hx hb dL_powers_247 (lv_at hl 6 rfl) ?_
            refine b_if_eq hx hb (nI_toIntI (by omega)) dL_powers_249 (tgt := 256) (by decide) (fun c249 => ?_) (fun c249 => ?_)
            · refine lv_iconst (v := nI 0) hx hb dL_powers_256 (by decide) ?_
              refine lv_iload hx hb dL_powers_257 (lv_at hl 7 rfl) ?_
              refine lv_sipush (v := nI 500) hx hb dL_powers_259 (by decide) ?_
              refine b_icmp_ge hx hb (nI_toIntI (by omega)) (nI_toIntI (by omega)) dL_powers_262 (tgt := 269) (by decide) (fun c262 => ?_) (fun c262 => absurd c262 (by omega))
              refine lv_iconst (v := nI 0) hx hb dL_powers_269 (by decide) ?_
              refine b_icmp_eq hx hb (nI_toIntI (by omega)) (nI_toIntI (by omega)) dL_powers_270 (tgt := 275) (by decide) (fun c270 => ?_) (fun c270 => absurd c270 (by omega))
              refine lv_iload hx hb dL_powers_275 (lv_at hl 5 rfl) ?_
              refine b_if_eq hx hb (nI_toIntI (by omega)) dL_powers_277 (tgt := 286) (by decide) (fun c277 => ?_) (fun c277 => ?_)
              · refine lv_iconst (v := nI 1) hx hb dL_powers_286 (by decide) ?_
                refine lv_goto (tgt := 291) hx hb dL_powers_287 (by decide) ?_
                refine W.widen (k := 29) (n := 174) (by omega) (by omega) ?_
                exact W.zret (v := nI 1) hx hb hr (by decide) (fun t9 ht9 hW => ⟨⟨nI 1, (v, i), rfl, ⟨rfl, rfl, hJ⟩, by rw [ht9]; exact hP, va_K.moved hW.alike hK, hD⟩, hS.F ht9⟩) hS.2.2 dL_powers_291
              have hkme : k = dn v.1 8 1 := by omega
              have hU0 : U = 0 := pow_end hI.1 hXT hX10 hdd (by rw [← hkme]; exact hSI) (fun j hj => hdall (by omega) j (by omega))
              refine lv_lload_n hx hb dL_powers_280 rfl (lv_at hl 3 rfl) ?_
              refine lv_lconst (v := 0) hx hb dL_powers_281 (by decide) ?_
              refine b_lcmp_ne hx hb rfl (show (0 : Int64).toInt = 0 by decide) dL_powers_282 dL_powers_283 (tgt := 290) (by decide) (fun c282 => absurd c282 (fun z => z (by rw [hU0]; decide))) (fun c282 => ?_)
              refine lv_iconst (v := nI 1) hx hb dL_powers_286 (by decide) ?_
              refine lv_goto (tgt := 291) hx hb dL_powers_287 (by decide) ?_
              refine W.widen (k := 29) (n := 174) (by omega) (by omega) ?_
              exact W.zret (v := nI 1) hx hb hr (by decide) (fun t9 ht9 hW => ⟨⟨nI 1, (v, i), rfl, ⟨rfl, rfl, hJ⟩, by rw [ht9]; exact hP, va_K.moved hW.alike hK, hD⟩, hS.F ht9⟩) hS.2.2 dL_powers_291
            refine lv_iconst (v := nI 1) hx hb dL_powers_252 (by decide) ?_
            refine lv_goto (tgt := 257) hx hb dL_powers_253 (by decide) ?_
            refine lv_iload hx hb dL_powers_257 (lv_at hl 7 rfl) ?_
            refine lv_sipush (v := nI 500) hx hb dL_powers_259 (by decide) ?_
            refine b_icmp_ge hx hb (nI_toIntI (by omega)) (nI_toIntI (by omega)) dL_powers_262 (tgt := 269) (by decide) (fun c262 => absurd c262 (by omega)) (fun c262 => ?_)
            refine lv_iconst (v := nI 1) hx hb dL_powers_265 (by decide) ?_
            refine lv_goto (tgt := 270) hx hb dL_powers_266 (by decide) ?_
            refine b_icmp_eq hx hb (nI_toIntI (by omega)) (nI_toIntI (by omega)) dL_powers_270 (tgt := 275) (by decide) (fun c270 => ?_) (fun c270 => absurd c270 (by omega))
            refine lv_iload hx hb dL_powers_275 (lv_at hl 5 rfl) ?_
            refine b_if_eq hx hb (nI_toIntI (by omega)) dL_powers_277 (tgt := 286) (by decide) (fun c277 => ?_) (fun c277 => ?_)
            · refine lv_iconst (v := nI 1) hx hb dL_powers_286 (by decide) ?_
              refine lv_goto (tgt := 291) hx hb dL_powers_287 (by decide) ?_
              refine W.widen (k := 29) (n := 174) (by omega) (by omega) ?_
              exact W.zret (v := nI 1) hx hb hr (by decide) (fun t9 ht9 hW => ⟨⟨nI 1, (v, i), rfl, ⟨rfl, rfl, hJ⟩, by rw [ht9]; exact hP, va_K.moved hW.alike hK, hD⟩, hS.F ht9⟩) hS.2.2 dL_powers_291
            have hkme : k = dn v.1 8 1 := by omega
            have hU0 : U = 0 := pow_end hI.1 hXT hX10 hdd (by rw [← hkme]; exact hSI) (fun j hj => hdall (by omega) j (by omega))
            refine lv_lload_n hx hb dL_powers_280 rfl (lv_at hl 3 rfl) ?_
            refine lv_lconst (v := 0) hx hb dL_powers_281 (by decide) ?_
            refine b_lcmp_ne hx hb rfl (show (0 : Int64).toInt = 0 by decide) dL_powers_282 dL_powers_283 (tgt := 290) (by decide) (fun c282 => absurd c282 (fun z => z (by rw [hU0]; decide))) (fun c282 => ?_)
            refine lv_iconst (v := nI 1) hx hb dL_powers_286 (by decide) ?_
            refine lv_goto (tgt := 291) hx hb dL_powers_287 (by decide) ?_
            refine W.widen (k := 29) (n := 174) (by omega) (by omega) ?_
            exact W.zret (v := nI 1) hx hb hr (by decide) (fun t9 ht9 hW => ⟨⟨nI 1, (v, i), rfl, ⟨rfl, rfl, hJ⟩, by rw [ht9]; exact hP, va_K.moved hW.alike hK, hD⟩, hS.F ht9⟩) hS.2.2 dL_powers_291
          refine lv_aload_n hx hb dL_powers_238 rfl (lv_at hl 0 rfl) ?_
          refine lv_iload hx hb dL_powers_239 (lv_at hl 7 rfl) ?_
          obtain ⟨s2, hs2r, hs264, hs20, hs2b⟩ := slip_at (d := v.1) (x := grt v.1 6) hm6 (by omega) (by omega)
          have hrs : rs_slipping v.1 (nI (grt v.1 6)) = (0, ((s2 : Nat) : Int)) := hs2r
          have hFc := freeAll hD hS hA
          refine vx_calli (vx_runV (As := [.int (nI (grt v.1 6))]) (rest := []) ⟨hx, hb, hml, hown, hts⟩ (c_X6_slipping l hlf D K ad q q1 q2 g r r2 v i (nI (grt v.1 6)) H.size hI hJ) (cwV 1 hts (TB_V k_m_L_101 k_im_X6_slipping k_se_X6_slipping k_in_X6 k_co_X6_slipping (fun _ h => h)) rfl rfl rfl (by decide +kernel) ⟨Nat.le_of_ble_eq_true rfl, Nat.le_of_ble_eq_true rfl⟩) ⟨cPT_blind, va_recv hK hP (ci := 6) (q0 := 0) rfl rfl, cPT_of hP hK hD hTX hS hFc⟩ rfl rfl hl.1 rfl (lv_room (Nat.le_of_ble_eq_true rfl)) dL_powers_241 ⟨(show (9 + k * 3) + 1 ≤ 29 by omega), (show (54 + k * 18) + 6 ≤ 174 by omega)⟩) hS (fun q _ h => hFc q h) hFc (fun q _ h => hFc q h) (fun E ce q9 u9 t9 H locs ht9 hal hpx hB hz1 hk1 hS hce hcv hcl => ?_) (fun rz u9 t9 H locs ht9 hal hw hB hz1 hk1 hS => ?_)
          · exact absurd hB.1.1 (by rw [hrs]; exact Nat.lt_irrefl 0)
          obtain ⟨v9, i9⟩ := u9
          obtain ⟨hP1, hK1, hD1⟩ := hB
          rw [ht9] at hP1
          have hP2 := hP1
          have hD2 := hD1.weaken (fun _ _ _ h => hFc _ h)
          obtain ⟨hv9, hJ9, hr9⟩ := hw
          have hv9 : v9 = v := hv9
          dsimp only at hJ9 hr9
          rw [hv9] at hP2 hD2 hJ9
          dsimp only at hP2 hD2
          have hJ : II v.1 i9 := hJ9
          have hP : va_P D vwCl (WX K ad q q1 q2 g r r2 v i9) H := hP2
          have hD : va_D A (WX K ad q q1 q2 g r r2 v i9) := hD2
          have hz : rz.toInt = ((s2 : Nat) : Int) := (Prod.mk.inj (hr9.symm.trans hrs)).2
          refine t_i ((i32_eq rz (nI s2)).mpr (by rw [nI_toIntI (by omega)]; exact hz)) ?_
          have hs2n : s2 = 0 := Classical.byContradiction fun z => absurd (hs20.mp z) (by omega)
          refine b_if_ne hx hb (nI_toIntI (by omega)) dL_powers_244 (tgt := 273) (by decide) (fun c244 => absurd c244 (by omega)) (fun c244 => ?_)
          refine lv_iload hx hb dL_powers_247 (lv_at hl 6 rfl) ?_
          refine b_if_eq hx hb (nI_toIntI (by omega)) dL_powers_249 (tgt := 256) (by decide) (fun c249 => ?_) (fun c249 => ?_)
          · refine lv_iconst (v := nI 0) hx hb dL_powers_256 (by decide) ?_
            refine lv_iload hx hb dL_powers_257 (lv_at hl 7 rfl) ?_
            refine lv_sipush (v := nI 500) hx hb dL_powers_259 (by decide) ?_
            refine b_icmp_ge hx hb (nI_toIntI (by omega)) (nI_toIntI (by omega)) dL_powers_262 (tgt := 269) (by decide) (fun c262 => ?_) (fun c262 => absurd c262 (by omega))
            refine lv_iconst (v := nI 0) hx hb dL_powers_269 (by decide) ?_
            refine b_icmp_eq hx hb (nI_toIntI (by omega)) (nI_toIntI (by omega)) dL_powers_270 (tgt := 275) (by decide) (fun c270 => ?_) (fun c270 => absurd c270 (by omega))
            refine lv_iload hx hb dL_powers_275 (lv_at hl 5 rfl) ?_
            refine b_if_eq hx hb (nI_toIntI (by omega)) dL_powers_277 (tgt := 286) (by decide) (fun c277 => ?_) (fun c277 => ?_)
            · refine lv_iconst (v := nI 1) hx hb dL_powers_286 (by decide) ?_
              refine lv_goto (tgt := 291) hx hb dL_powers_287 (by decide) ?_
              refine W.widen (k := 29) (n := 174) (by omega) (by omega) ?_
              exact W.zret (v := nI 1) hx hb hr (by decide) (fun t9 ht9 hW => ⟨⟨nI 1, (v, i9), rfl, ⟨rfl, rfl, hJ⟩, by rw [ht9]; exact hP, va_K.moved hW.alike hK, hD⟩, hS.F ht9⟩) hS.2.2 dL_powers_291
            have hkme : k = dn v.1 8 1 := by omega
            have hU0 : U = 0 := pow_end hI.1 hXT hX10 hdd (by rw [← hkme]; exact hSI) (fun j hj => hdall (by omega) j (by omega))
            refine lv_lload_n hx hb dL_powers_280 rfl (lv_at hl 3 rfl) ?_
            refine lv_lconst (v := 0) hx hb dL_powers_281 (by decide) ?_
            refine b_lcmp_ne hx hb rfl (show (0 : Int64).toInt = 0 by decide) dL_powers_282 dL_powers_283 (tgt := 290) (by decide) (fun c282 => absurd c282 (fun z => z (by rw [hU0]; decide))) (fun c282 => ?_)
            refine lv_iconst (v := nI 1) hx hb dL_powers_286 (by decide) ?_
            refine lv_goto (tgt := 291) hx hb dL_powers_287 (by decide) ?_
            refine W.widen (k := 29) (n := 174) (by omega) (by omega) ?_
            exact W.zret (v := nI 1) hx hb hr (by decide) (fun t9 ht9 hW => ⟨⟨nI 1, (v, i9), rfl, ⟨rfl, rfl, hJ⟩, by rw [ht9]; exact hP, va_K.moved hW.alike hK, hD⟩, hS.F ht9⟩) hS.2.2 dL_powers_291
          refine lv_iconst (v := nI 1) hx hb dL_powers_252 (by decide) ?_
          refine lv_goto (tgt := 257) hx hb dL_powers_253 (by decide) ?_
          refine lv_iload hx hb dL_powers_257 (lv_at hl 7 rfl) ?_
          refine lv_sipush (v := nI 500) hx hb dL_powers_259 (by decide) ?_
          refine b_icmp_ge hx hb (nI_toIntI (by omega)) (nI_toIntI (by omega)) dL_powers_262 (tgt := 269) (by decide) (fun c262 => absurd c262 (by omega)) (fun c262 => ?_)
          refine lv_iconst (v := nI 1) hx hb dL_powers_265 (by decide) ?_
          refine lv_goto (tgt := 270) hx hb dL_powers_266 (by decide) ?_
          refine b_icmp_eq hx hb (nI_toIntI (by omega)) (nI_toIntI (by omega)) dL_powers_270 (tgt := 275) (by decide) (fun c270 => ?_) (fun c270 => absurd c270 (by omega))
          refine lv_iload hx hb dL_powers_275 (lv_at hl 5 rfl) ?_
          refine b_if_eq hx hb (nI_toIntI (by omega)) dL_powers_277 (tgt := 286) (by decide) (fun c277 => ?_) (fun c277 => ?_)
          · refine lv_iconst (v := nI 1) hx hb dL_powers_286 (by decide) ?_
            refine lv_goto (tgt := 291) hx hb dL_powers_287 (by decide) ?_
            refine W.widen (k := 29) (n := 174) (by omega) (by omega) ?_
            exact W.zret (v := nI 1) hx hb hr (by decide) (fun t9 ht9 hW => ⟨⟨nI 1, (v, i9), rfl, ⟨rfl, rfl, hJ⟩, by rw [ht9]; exact hP, va_K.moved hW.alike hK, hD⟩, hS.F ht9⟩) hS.2.2 dL_powers_291
          have hkme : k = dn v.1 8 1 := by omega
          have hU0 : U = 0 := pow_end hI.1 hXT hX10 hdd (by rw [← hkme]; exact hSI) (fun j hj => hdall (by omega) j (by omega))
          refine lv_lload_n hx hb dL_powers_280 rfl (lv_at hl 3 rfl) ?_
          refine lv_lconst (v := 0) hx hb dL_powers_281 (by decide) ?_
          refine b_lcmp_ne hx hb rfl (show (0 : Int64).toInt = 0 by decide) dL_powers_282 dL_powers_283 (tgt := 290) (by decide) (fun c282 => absurd c282 (fun z => z (by rw [hU0]; decide))) (fun c282 => ?_)
          refine lv_iconst (v := nI 1) hx hb dL_powers_286 (by decide) ?_
          refine lv_goto (tgt := 291) hx hb dL_powers_287 (by decide) ?_
          refine W.widen (k := 29) (n := 174) (by omega) (by omega) ?_
          exact W.zret (v := nI 1) hx hb hr (by decide) (fun t9 ht9 hW => ⟨⟨nI 1, (v, i9), rfl, ⟨rfl, rfl, hJ⟩, by rw [ht9]; exact hP, va_K.moved hW.alike hK, hD⟩, hS.F ht9⟩) hS.2.2 dL_powers_291
        refine lv_aload_n hx hb dL_powers_222 rfl (lv_at hl 0 rfl) ?_
        refine lv_iload hx hb dL_powers_223 (lv_at hl 7 rfl) ?_
        refine lv_iconst (v := nI 1) hx hb dL_powers_225 (by decide) ?_
        refine lv_iadd hx hb dL_powers_226 ?_
        refine t_i (nI_add _ _) ?_
        obtain ⟨s1, hs1r, hs164, hs10, hs1b⟩ := slip_at (d := v.1) (x := grt v.1 6 + 1) hm6 (by omega) (by omega)
        have hrs : rs_slipping v.1 (nI (grt v.1 6 + 1)) = (0, ((s1 : Nat) : Int)) := hs1r
        have hFc := freeAll hD hS hA
        refine vx_calli (vx_runV (As := [.int (nI (grt v.1 6 + 1))]) (rest := []) ⟨hx, hb, hml, hown, hts⟩ (c_X6_slipping l hlf D K ad q q1 q2 g r r2 v i (nI (grt v.1 6 + 1)) H.size hI hJ) (cwV 1 hts (TB_V k_m_L_101 k_im_X6_slipping k_se_X6_slipping k_in_X6 k_co_X6_slipping (fun _ h => h)) rfl rfl rfl (by decide +kernel) ⟨Nat.le_of_ble_eq_true rfl, Nat.le_of_ble_eq_true rfl⟩) ⟨cPT_blind, va_recv hK hP (ci := 6) (q0 := 0) rfl rfl, cPT_of hP hK hD hTX hS hFc⟩ rfl rfl hl.1 rfl (lv_room (Nat.le_of_ble_eq_true rfl)) dL_powers_227 ⟨(show (9 + k * 3) + 1 ≤ 29 by omega), (show (54 + k * 18) + 6 ≤ 174 by omega)⟩) hS (fun q _ h => hFc q h) hFc (fun q _ h => hFc q h) (fun E ce q9 u9 t9 H locs ht9 hal hpx hB hz1 hk1 hS hce hcv hcl => ?_) (fun rz u9 t9 H locs ht9 hal hw hB hz1 hk1 hS => ?_)
        · exact absurd hB.1.1 (by rw [hrs]; exact Nat.lt_irrefl 0)
        obtain ⟨v9, i9⟩ := u9
        obtain ⟨hP1, hK1, hD1⟩ := hB
        rw [ht9] at hP1
        have hP2 := hP1
        have hD2 := hD1.weaken (fun _ _ _ h => hFc _ h)
        obtain ⟨hv9, hJ9, hr9⟩ := hw
        have hv9 : v9 = v := hv9
        dsimp only at hJ9 hr9
        rw [hv9] at hP2 hD2 hJ9
        dsimp only at hP2 hD2
        have hJ : II v.1 i9 := hJ9
        have hP : va_P D vwCl (WX K ad q q1 q2 g r r2 v i9) H := hP2
        have hD : va_D A (WX K ad q q1 q2 g r r2 v i9) := hD2
        have hz : rz.toInt = ((s1 : Nat) : Int) := (Prod.mk.inj (hr9.symm.trans hrs)).2
        refine t_i ((i32_eq rz (nI s1)).mpr (by rw [nI_toIntI (by omega)]; exact hz)) ?_
        have hs1n : s1 ≠ 0 := hs10.mpr (by omega)
        refine b_if_eq hx hb (nI_toIntI (by omega)) dL_powers_230 (tgt := 273) (by decide) (fun c230 => absurd c230 (by omega)) (fun c230 => ?_)
        refine lv_iload hx hb dL_powers_233 (lv_at hl 7 rfl) ?_
        refine b_if_le hx hb (nI_toIntI (by omega)) dL_powers_235 (tgt := 247) (by decide) (fun c235 => ?_) (fun c235 => ?_)
        · refine lv_iload hx hb dL_powers_247 (lv_at hl 6 rfl) ?_
          refine b_if_eq hx hb (nI_toIntI (by omega)) dL_powers_249 (tgt := 256) (by decide) (fun c249 => ?_) (fun c249 => ?_)
          · refine lv_iconst (v := nI 0) hx hb dL_powers_256 (by decide) ?_
            refine lv_iload hx hb dL_powers_257 (lv_at hl 7 rfl) ?_
            refine lv_sipush (v := nI 500) hx hb dL_powers_259 (by decide) ?_
            refine b_icmp_ge hx hb (nI_toIntI (by omega)) (nI_toIntI (by omega)) dL_powers_262 (tgt := 269) (by decide) (fun c262 => ?_) (fun c262 => absurd c262 (by omega))
            refine lv_iconst (v := nI 0) hx hb dL_powers_269 (by decide) ?_
            refine b_icmp_eq hx hb (nI_toIntI (by omega)) (nI_toIntI (by omega)) dL_powers_270 (tgt := 275) (by decide) (fun c270 => ?_) (fun c270 => absurd c270 (by omega))
            refine lv_iload hx hb dL_powers_275 (lv_at hl 5 rfl) ?_
            refine b_if_eq hx hb (nI_toIntI (by omega)) dL_powers_277 (tgt := 286) (by decide) (fun c277 => ?_) (fun c277 => ?_)
            · refine lv_iconst (v := nI 1) hx hb dL_powers_286 (by decide) ?_
              refine lv_goto (tgt := 291) hx hb dL_powers_287 (by decide) ?_
              refine W.widen (k := 29) (n := 174) (by omega) (by omega) ?_
              exact W.zret (v := nI 1) hx hb hr (by decide) (fun t9 ht9 hW => ⟨⟨nI 1, (v, i9), rfl, ⟨rfl, rfl, hJ⟩, by rw [ht9]; exact hP, va_K.moved hW.alike hK, hD⟩, hS.F ht9⟩) hS.2.2 dL_powers_291
            have hkme : k = dn v.1 8 1 := by omega
            have hU0 : U = 0 := pow_end hI.1 hXT hX10 hdd (by rw [← hkme]; exact hSI) (fun j hj => hdall (by omega) j (by omega))
            refine lv_lload_n hx hb dL_powers_280 rfl (lv_at hl 3 rfl) ?_
            refine lv_lconst (v := 0) hx hb dL_powers_281 (by decide) ?_
            refine b_lcmp_ne hx hb rfl (show (0 : Int64).toInt = 0 by decide) dL_powers_282 dL_powers_283 (tgt := 290) (by decide) (fun c282 => absurd c282 (fun z => z (by rw [hU0]; decide))) (fun c282 => ?_)
            refine lv_iconst (v := nI 1) hx hb dL_powers_286 (by decide) ?_
            refine lv_goto (tgt := 291) hx hb dL_powers_287 (by decide) ?_
            refine W.widen (k := 29) (n := 174) (by omega) (by omega) ?_
            exact W.zret (v := nI 1) hx hb hr (by decide) (fun t9 ht9 hW => ⟨⟨nI 1, (v, i9), rfl, ⟨rfl, rfl, hJ⟩, by rw [ht9]; exact hP, va_K.moved hW.alike hK, hD⟩, hS.F ht9⟩) hS.2.2 dL_powers_291
          refine lv_iconst (v := nI 1) hx hb dL_powers_252 (by decide) ?_
          refine lv_goto (tgt := 257) hx hb dL_powers_253 (by decide) ?_
          refine lv_iload hx hb dL_powers_257 (lv_at hl 7 rfl) ?_
          refine lv_sipush (v := nI 500) hx hb dL_powers_259 (by decide) ?_
          refine b_icmp_ge hx hb (nI_toIntI (by omega)) (nI_toIntI (by omega)) dL_powers_262 (tgt := 269) (by decide) (fun c262 => absurd c262 (by omega)) (fun c262 => ?_)
          refine lv_iconst (v := nI 1) hx hb dL_powers_265 (by decide) ?_
          refine lv_goto (tgt := 270) hx hb dL_powers_266 (by decide) ?_
          refine b_icmp_eq hx hb (nI_toIntI (by omega)) (nI_toIntI (by omega)) dL_powers_270 (tgt := 275) (by decide) (fun c270 => ?_) (fun c270 => absurd c270 (by omega))
          refine lv_iload hx hb dL_powers_275 (lv_at hl 5 rfl) ?_
          refine b_if_eq hx hb (nI_toIntI (by omega)) dL_powers_277 (tgt := 286) (by decide) (fun c277 => ?_) (fun c277 => ?_)
          · refine lv_iconst (v := nI 1) hx hb dL_powers_286 (by decide) ?_
            refine lv_goto (tgt := 291) hx hb dL_powers_287 (by decide) ?_
            refine W.widen (k := 29) (n := 174) (by omega) (by omega) ?_
            exact W.zret (v := nI 1) hx hb hr (by decide) (fun t9 ht9 hW => ⟨⟨nI 1, (v, i9), rfl, ⟨rfl, rfl, hJ⟩, by rw [ht9]; exact hP, va_K.moved hW.alike hK, hD⟩, hS.F ht9⟩) hS.2.2 dL_powers_291
          have hkme : k = dn v.1 8 1 := by omega
          have hU0 : U = 0 := pow_end hI.1 hXT hX10 hdd (by rw [← hkme]; exact hSI) (fun j hj => hdall (by omega) j (by omega))
          refine lv_lload_n hx hb dL_powers_280 rfl (lv_at hl 3 rfl) ?_
          refine lv_lconst (v := 0) hx hb dL_powers_281 (by decide) ?_
          refine b_lcmp_ne hx hb rfl (show (0 : Int64).toInt = 0 by decide) dL_powers_282 dL_powers_283 (tgt := 290) (by decide) (fun c282 => absurd c282 (fun z => z (by rw [hU0]; decide))) (fun c282 => ?_)
          refine lv_iconst (v := nI 1) hx hb dL_powers_286 (by decide) ?_
          refine lv_goto (tgt := 291) hx hb dL_powers_287 (by decide) ?_
          refine W.widen (k := 29) (n := 174) (by omega) (by omega) ?_
          exact W.zret (v := nI 1) hx hb hr (by decide) (fun t9 ht9 hW => ⟨⟨nI 1, (v, i9), rfl, ⟨rfl, rfl, hJ⟩, by rw [ht9]; exact hP, va_K.moved hW.alike hK, hD⟩, hS.F ht9⟩) hS.2.2 dL_powers_291
        refine lv_aload_n hx hb dL_powers_238 rfl (lv_at hl 0 rfl) ?_
        refine lv_iload hx hb dL_powers_239 (lv_at hl 7 rfl) ?_
        obtain ⟨s2, hs2r, hs264, hs20, hs2b⟩ := slip_at (d := v.1) (x := grt v.1 6) hm6 (by omega) (by omega)
        have hrs : rs_slipping v.1 (nI (grt v.1 6)) = (0, ((s2 : Nat) : Int)) := hs2r
        have hFc := freeAll hD hS hA
        refine vx_calli (vx_runV (As := [.int (nI (grt v.1 6))]) (rest := []) ⟨hx, hb, hml, hown, hts⟩ (c_X6_slipping l hlf D K ad q q1 q2 g r r2 v i9 (nI (grt v.1 6)) H.size hI hJ) (cwV 1 hts (TB_V k_m_L_101 k_im_X6_slipping k_se_X6_slipping k_in_X6 k_co_X6_slipping (fun _ h => h)) rfl rfl rfl (by decide +kernel) ⟨Nat.le_of_ble_eq_true rfl, Nat.le_of_ble_eq_true rfl⟩) ⟨cPT_blind, va_recv hK hP (ci := 6) (q0 := 0) rfl rfl, cPT_of hP hK hD hTX hS hFc⟩ rfl rfl hl.1 rfl (lv_room (Nat.le_of_ble_eq_true rfl)) dL_powers_241 ⟨(show ((9 + k * 3) + 1) + 1 ≤ 29 by omega), (show ((54 + k * 18) + 6) + 6 ≤ 174 by omega)⟩) hS (fun q _ h => hFc q h) hFc (fun q _ h => hFc q h) (fun E ce q9 u9 t9 H locs ht9 hal hpx hB hz1 hk1 hS hce hcv hcl => ?_) (fun rz u9 t9 H locs ht9 hal hw hB hz1 hk1 hS => ?_)
        · exact absurd hB.1.1 (by rw [hrs]; exact Nat.lt_irrefl 0)
        obtain ⟨v9, i9⟩ := u9
        obtain ⟨hP1, hK1, hD1⟩ := hB
        rw [ht9] at hP1
        have hP2 := hP1
        have hD2 := hD1.weaken (fun _ _ _ h => hFc _ h)
        obtain ⟨hv9, hJ9, hr9⟩ := hw
        have hv9 : v9 = v := hv9
        dsimp only at hJ9 hr9
        rw [hv9] at hP2 hD2 hJ9
        dsimp only at hP2 hD2
        have hJ : II v.1 i9 := hJ9
        have hP : va_P D vwCl (WX K ad q q1 q2 g r r2 v i9) H := hP2
        have hD : va_D A (WX K ad q q1 q2 g r r2 v i9) := hD2
        have hz : rz.toInt = ((s2 : Nat) : Int) := (Prod.mk.inj (hr9.symm.trans hrs)).2
        refine t_i ((i32_eq rz (nI s2)).mpr (by rw [nI_toIntI (by omega)]; exact hz)) ?_
        have hs2n : s2 = 0 := Classical.byContradiction fun z => absurd (hs20.mp z) (by omega)
        refine b_if_ne hx hb (nI_toIntI (by omega)) dL_powers_244 (tgt := 273) (by decide) (fun c244 => absurd c244 (by omega)) (fun c244 => ?_)
        refine lv_iload hx hb dL_powers_247 (lv_at hl 6 rfl) ?_
        refine b_if_eq hx hb (nI_toIntI (by omega)) dL_powers_249 (tgt := 256) (by decide) (fun c249 => ?_) (fun c249 => ?_)
        · refine lv_iconst (v := nI 0) hx hb dL_powers_256 (by decide) ?_
          refine lv_iload hx hb dL_powers_257 (lv_at hl 7 rfl) ?_
          refine lv_sipush (v := nI 500) hx hb dL_powers_259 (by decide) ?_
          refine b_icmp_ge hx hb (nI_toIntI (by omega)) (nI_toIntI (by omega)) dL_powers_262 (tgt := 269) (by decide) (fun c262 => ?_) (fun c262 => absurd c262 (by omega))
          refine lv_iconst (v := nI 0) hx hb dL_powers_269 (by decide) ?_
          refine b_icmp_eq hx hb (nI_toIntI (by omega)) (nI_toIntI (by omega)) dL_powers_270 (tgt := 275) (by decide) (fun c270 => ?_) (fun c270 => absurd c270 (by omega))
          refine lv_iload hx hb dL_powers_275 (lv_at hl 5 rfl) ?_
          refine b_if_eq hx hb (nI_toIntI (by omega)) dL_powers_277 (tgt := 286) (by decide) (fun c277 => ?_) (fun c277 => ?_)
          · refine lv_iconst (v := nI 1) hx hb dL_powers_286 (by decide) ?_
            refine lv_goto (tgt := 291) hx hb dL_powers_287 (by decide) ?_
            refine W.widen (k := 29) (n := 174) (by omega) (by omega) ?_
            exact W.zret (v := nI 1) hx hb hr (by decide) (fun t9 ht9 hW => ⟨⟨nI 1, (v, i9), rfl, ⟨rfl, rfl, hJ⟩, by rw [ht9]; exact hP, va_K.moved hW.alike hK, hD⟩, hS.F ht9⟩) hS.2.2 dL_powers_291
          have hkme : k = dn v.1 8 1 := by omega
          have hU0 : U = 0 := pow_end hI.1 hXT hX10 hdd (by rw [← hkme]; exact hSI) (fun j hj => hdall (by omega) j (by omega))
          refine lv_lload_n hx hb dL_powers_280 rfl (lv_at hl 3 rfl) ?_
          refine lv_lconst (v := 0) hx hb dL_powers_281 (by decide) ?_
          refine b_lcmp_ne hx hb rfl (show (0 : Int64).toInt = 0 by decide) dL_powers_282 dL_powers_283 (tgt := 290) (by decide) (fun c282 => absurd c282 (fun z => z (by rw [hU0]; decide))) (fun c282 => ?_)
          refine lv_iconst (v := nI 1) hx hb dL_powers_286 (by decide) ?_
          refine lv_goto (tgt := 291) hx hb dL_powers_287 (by decide) ?_
          refine W.widen (k := 29) (n := 174) (by omega) (by omega) ?_
          exact W.zret (v := nI 1) hx hb hr (by decide) (fun t9 ht9 hW => ⟨⟨nI 1, (v, i9), rfl, ⟨rfl, rfl, hJ⟩, by rw [ht9]; exact hP, va_K.moved hW.alike hK, hD⟩, hS.F ht9⟩) hS.2.2 dL_powers_291
        refine lv_iconst (v := nI 1) hx hb dL_powers_252 (by decide) ?_
        refine lv_goto (tgt := 257) hx hb dL_powers_253 (by decide) ?_
        refine lv_iload hx hb dL_powers_257 (lv_at hl 7 rfl) ?_
        refine lv_sipush (v := nI 500) hx hb dL_powers_259 (by decide) ?_
        refine b_icmp_ge hx hb (nI_toIntI (by omega)) (nI_toIntI (by omega)) dL_powers_262 (tgt := 269) (by decide) (fun c262 => absurd c262 (by omega)) (fun c262 => ?_)
        refine lv_iconst (v := nI 1) hx hb dL_powers_265 (by decide) ?_
        refine lv_goto (tgt := 270) hx hb dL_powers_266 (by decide) ?_
        refine b_icmp_eq hx hb (nI_toIntI (by omega)) (nI_toIntI (by omega)) dL_powers_270 (tgt := 275) (by decide) (fun c270 => ?_) (fun c270 => absurd c270 (by omega))
        refine lv_iload hx hb dL_powers_275 (lv_at hl 5 rfl) ?_
        refine b_if_eq hx hb (nI_toIntI (by omega)) dL_powers_277 (tgt := 286) (by decide) (fun c277 => ?_) (fun c277 => ?_)
        · refine lv_iconst (v := nI 1) hx hb dL_powers_286 (by decide) ?_
          refine lv_goto (tgt := 291) hx hb dL_powers_287 (by decide) ?_
          refine W.widen (k := 29) (n := 174) (by omega) (by omega) ?_
          exact W.zret (v := nI 1) hx hb hr (by decide) (fun t9 ht9 hW => ⟨⟨nI 1, (v, i9), rfl, ⟨rfl, rfl, hJ⟩, by rw [ht9]; exact hP, va_K.moved hW.alike hK, hD⟩, hS.F ht9⟩) hS.2.2 dL_powers_291
        have hkme : k = dn v.1 8 1 := by omega
        have hU0 : U = 0 := pow_end hI.1 hXT hX10 hdd (by rw [← hkme]; exact hSI) (fun j hj => hdall (by omega) j (by omega))
        refine lv_lload_n hx hb dL_powers_280 rfl (lv_at hl 3 rfl) ?_
        refine lv_lconst (v := 0) hx hb dL_powers_281 (by decide) ?_
        refine b_lcmp_ne hx hb rfl (show (0 : Int64).toInt = 0 by decide) dL_powers_282 dL_powers_283 (tgt := 290) (by decide) (fun c282 => absurd c282 (fun z => z (by rw [hU0]; decide))) (fun c282 => ?_)
        refine lv_iconst (v := nI 1) hx hb dL_powers_286 (by decide) ?_
        refine lv_goto (tgt := 291) hx hb dL_powers_287 (by decide) ?_
        refine W.widen (k := 29) (n := 174) (by omega) (by omega) ?_
        exact W.zret (v := nI 1) hx hb hr (by decide) (fun t9 ht9 hW => ⟨⟨nI 1, (v, i9), rfl, ⟨rfl, rfl, hJ⟩, by rw [ht9]; exact hP, va_K.moved hW.alike hK, hD⟩, hS.F ht9⟩) hS.2.2 dL_powers_291
      refine lv_aload_n hx hb dL_powers_86 rfl (lv_at hl 0 rfl) ?_
      have hFc := freeAll hD hS hA
      refine va_calli (va_runV (As := []) (rest := []) ⟨hx, hb, hml, hown, hts⟩ (c_X6_engaged l D K ad q q1 q2 g r r2 v i  H.size hI hJ) (cwV 0 hts (TB_V k_m_L_51 k_im_X6_engaged k_se_X6_engaged k_in_X6 k_co_X6_engaged (fun _ h => h)) rfl rfl rfl (by decide +kernel) ⟨Nat.le_of_ble_eq_true rfl, Nat.le_of_ble_eq_true rfl⟩) ⟨cP_blind, va_recv hK hP (ci := 6) (q0 := 0) rfl rfl, cP_of hP hK hD⟩ rfl rfl hl.1 rfl (lv_room (Nat.le_of_ble_eq_true rfl)) dL_powers_87 ⟨(show (9 + k * 3) + 0 ≤ 29 by omega), (show (54 + k * 18) + 0 ≤ 174 by omega)⟩) hS (fun q _ h => hFc q h) hFc (fun rz u9 t9 H locs ht9 hal hw hB hz1 hk1 hS => ?_)
      obtain ⟨v9, i9⟩ := u9
      obtain ⟨hP1, hK1, hD1⟩ := hB
      rw [ht9] at hP1
      have hP2 := hP1
      have hD2 := hD1.weaken (fun _ _ _ h => hFc _ h)
      obtain ⟨hv9, hJ9, hr9⟩ := hw
      have hv9 : v9 = v := hv9
      dsimp only at hJ9 hr9
      rw [hv9] at hP2 hD2 hJ9
      dsimp only at hP2 hD2
      have hJ : II v.1 i9 := hJ9
      have hP : va_P D vwCl (WX K ad q q1 q2 g r r2 v i9) H := hP2
      have hD : va_D A (WX K ad q q1 q2 g r r2 v i9) := hD2
      refine t_i (hr9.trans hge2) ?_
      have hk6 : k < 6 := by omega
      refine lv_iload hx hb dL_powers_90 (lv_at hl 8 rfl) ?_
      refine lv_ishr hx hb dL_powers_92 ?_
      refine lv_iconst (v := nI 1) hx hb dL_powers_93 (by decide) ?_
      refine lv_iand hx hb dL_powers_94 ?_
      by_cases hbk : (dn v.1 8 2).testBit k = true
      rotate_left
      · refine t_i (w_bit0 hge64 hk6 hbk) ?_
        refine b_if_ne hx hb (nI_toIntI (by omega)) dL_powers_95 (tgt := 111) (by decide) (fun c95 => absurd c95 (by omega)) (fun c95 => ?_)
        refine lv_iload hx hb dL_powers_98 (lv_at hl 6 rfl) ?_
        refine lv_iload hx hb dL_powers_100 (lv_at hl 8 rfl) ?_
        refine lv_ishr hx hb dL_powers_102 ?_
        refine lv_iconst (v := nI 1) hx hb dL_powers_103 (by decide) ?_
        refine lv_iand hx hb dL_powers_104 ?_
        refine t_i (w_bit0 hsl64 hk6 (hslb k hbk)) ?_
        refine lv_iconst (v := nI 1) hx hb dL_powers_105 (by decide) ?_
        refine b_icmp_ne hx hb (nI_toIntI (by omega)) (nI_toIntI (by omega)) dL_powers_106 (tgt := 208) (by decide) (fun c106 => ?_) (fun c106 => absurd c106 (by omega))
        refine lv_iinc (v := nI (k + 1)) (lv' := [(10, .int (nI (k + 1))), (0, .ref (ad 0)), (1, .int (nI me)), (2, .int (nI cl)), (3, .long (Int64.ofInt U)), (5, .long (lN Lw)), (7, .int (nI al)), (8, .int (nI sl)), (9, .int (nI (grt v.1 6)))]) hx hb dL_powers_208 hl (k := 8) rfl (nI_add k 1) (by decide) rfl (fun ls hl => ?_)
        refine lv_goto (tgt := 80) hx hb dL_powers_211 (by decide) ?_
        refine W.widen (k := 9 + (k + 1) * 3) (n := 54 + (k + 1) * 18) (by omega) (by omega) ?_
        exact ih80 i9 (k + 1) al U Lw _ _ _ (by omega) hJ (by omega) hal1 (fun h1 j hj hb9 => by by_cases e : j = k <;> first | (subst e; exact absurd hb9 hbk) | exact hdall h1 j (by omega) hb9) hLw hLD (SI_no hSI (fun z => hbk z.1.2)) hP hD hS (lv_sub hl [1, 2, 3, 4, 5, 6, 7, 8, 0] rfl)
      refine t_i (w_bit1 hge64 hk6 hbk) ?_
      refine b_if_ne hx hb (nI_toIntI (by omega)) dL_powers_95 (tgt := 111) (by decide) (fun c95 => ?_) (fun c95 => absurd c95 (by omega))
      refine lv_aload_n hx hb dL_powers_111 rfl (lv_at hl 0 rfl) ?_
      refine lv_iload hx hb dL_powers_112 (lv_at hl 8 rfl) ?_
      have hFc := freeAll hD hS hA
      refine va_calli (vx_runSW (As := [.ref (ad 0), .int (nI k)]) (rest := []) ⟨hx, hb, hml, hown, hts⟩ (c_L_hasTorque l hlf D K ad q q1 q2 g r r2 v i9 k H.size hI hJ (by omega) hbk) (vx_cwSW 2 hts (TB_SW k_m_L_107 k_st_L_hasTorque k_in_L k_co_L_hasTorque (fun _ h => h)) rfl rfl rfl (by decide +kernel) ⟨Nat.le_of_ble_eq_true rfl, Nat.le_of_ble_eq_true rfl⟩) ⟨cPM_blind, cPM_of hP hK hD hTX hCL hS hFc⟩ rfl rfl hl.1 rfl (lv_room (Nat.le_of_ble_eq_true rfl)) dL_powers_114 ⟨(show ((9 + k * 3) + 0) + 1 ≤ 29 by omega), (show ((54 + k * 18) + 0) + 6 ≤ 174 by omega)⟩) hS (fun q _ h => hFc q h) hFc (fun rz u9 t9 H locs ht9 hal hw hB hz1 hk1 hS => ?_)
      obtain ⟨v9, i9⟩ := u9
      obtain ⟨hP1, hK1, hD1⟩ := hB
      rw [ht9] at hP1
      have hP2 := hP1
      have hD2 := hD1.weaken (fun _ _ _ h => hFc _ h)
      obtain ⟨hz, hv9, hJ9⟩ := hw
      have hv9 : v9 = v := hv9
      dsimp only at hJ9 hz
      rw [hv9] at hP2 hD2 hJ9
      dsimp only at hP2 hD2
      have hJ : II v.1 i9 := hJ9
      have hP : va_P D vwCl (WX K ad q q1 q2 g r r2 v i9) H := hP2
      have hD : va_D A (WX K ad q q1 q2 g r r2 v i9) := hD2
      by_cases hdt : dtT v.1 k
      rotate_left
      · refine t_i (hz.trans (bI_f hdt).symm) ?_
        refine lv_istore (lv' := [(11, .int (nI 0)), (0, .ref (ad 0)), (1, .int (nI me)), (2, .int (nI cl)), (3, .long (Int64.ofInt U)), (5, .long (lN Lw)), (7, .int (nI al)), (8, .int (nI sl)), (9, .int (nI (grt v.1 6))), (10, .int (nI k))]) hx hb dL_powers_117 hl (by decide) rfl (fun ls hl => ?_)
        suffices h136 : ∀ ls : Array Slot, lv_has ls 18 [(0, .ref (ad 0)), (1, .int (nI me)), (2, .int (nI cl)), (3, .long (Int64.ofInt U)), (5, .long (lN Lw)), (7, .int (nI 0)), (8, .int (nI sl)), (9, .int (nI (grt v.1 6))), (10, .int (nI k)), (11, .int (nI 0))] → W p l e ({ frames := 9, cells := 29, slots := 174, locals := 194 } : Room) s m [.ref (ad 0), .int (nI me), .int (nI cl)].toArray below meth c H locs (((9 + k * 3) + 0) + 1) (((54 + k * 18) + 0) + 6) (MQ below (va_Qi (fun (z : Int32) (u : CV × CI) => z = nI 1 ∧ u.1 = v ∧ II u.1.1 u.2) (fun (u : CV × CI) t => cB D K A (WX K ad q q1 q2 g r r2 u.1 u.2) t) A) [.ref (ad 0), .int (nI me), .int (nI cl)].toArray s 29 174 A) (F0 m 136 ls []) by
          rcases (show al = 0 ∨ al = 1 by omega) with hal01 | hal01
          · subst hal01
            refine lv_iload hx hb dL_powers_119 (lv_at hl 6 rfl) ?_
            refine b_if_eq hx hb (nI_toIntI (by omega)) dL_powers_121 (tgt := 133) (by decide) (fun c121 => ?_) (fun c121 => absurd c121 (by omega))
            refine lv_iconst (v := nI 0) hx hb dL_powers_133 (by decide) ?_
            refine lv_istore (lv' := [(7, .int (nI 0)), (11, .int (nI 0)), (0, .ref (ad 0)), (1, .int (nI me)), (2, .int (nI cl)), (3, .long (Int64.ofInt U)), (5, .long (lN Lw)), (8, .int (nI sl)), (9, .int (nI (grt v.1 6))), (10, .int (nI k))]) hx hb dL_powers_134 hl (by decide) rfl (fun ls hl => ?_)
            exact h136 _ (lv_sub hl [2, 3, 4, 5, 6, 0, 7, 8, 9, 1] rfl)
          · subst hal01
            refine lv_iload hx hb dL_powers_119 (lv_at hl 6 rfl) ?_
            refine b_if_eq hx hb (nI_toIntI (by omega)) dL_powers_121 (tgt := 133) (by decide) (fun c121 => absurd c121 (by omega)) (fun c121 => ?_)
            refine lv_iload hx hb dL_powers_124 (lv_at hl 0 rfl) ?_
            refine b_if_eq hx hb (nI_toIntI (by omega)) dL_powers_126 (tgt := 133) (by decide) (fun c126 => ?_) (fun c126 => absurd c126 (by omega))
            refine lv_iconst (v := nI 0) hx hb dL_powers_133 (by decide) ?_
            refine lv_istore (lv' := [(7, .int (nI 0)), (11, .int (nI 0)), (0, .ref (ad 0)), (1, .int (nI me)), (2, .int (nI cl)), (3, .long (Int64.ofInt U)), (5, .long (lN Lw)), (8, .int (nI sl)), (9, .int (nI (grt v.1 6))), (10, .int (nI k))]) hx hb dL_powers_134 hl (by decide) rfl (fun ls hl => ?_)
            exact h136 _ (lv_sub hl [2, 3, 4, 5, 6, 0, 7, 8, 9, 1] rfl)
        intro ls hl
        refine lv_iload hx hb dL_powers_136 (lv_at hl 9 rfl) ?_
        refine b_if_eq hx hb (nI_toIntI (by omega)) dL_powers_138 (tgt := 208) (by decide) (fun c138 => ?_) (fun c138 => absurd c138 (by omega))
        refine lv_iinc (v := nI (k + 1)) (lv' := [(10, .int (nI (k + 1))), (0, .ref (ad 0)), (1, .int (nI me)), (2, .int (nI cl)), (3, .long (Int64.ofInt U)), (5, .long (lN Lw)), (7, .int (nI 0)), (8, .int (nI sl)), (9, .int (nI (grt v.1 6))), (11, .int (nI 0))]) hx hb dL_powers_208 hl (k := 8) rfl (nI_add k 1) (by decide) rfl (fun ls hl => ?_)
        refine lv_goto (tgt := 80) hx hb dL_powers_211 (by decide) ?_
        refine W.widen (k := 9 + (k + 1) * 3) (n := 54 + (k + 1) * 18) (by omega) (by omega) ?_
        exact ih80 i9 (k + 1) 0 U Lw _ _ _ (by omega) hJ (by omega) (by decide) (fun h1 => absurd h1 (by decide)) hLw hLD (SI_no hSI (fun z => hdt z.2.1)) hP hD hS (lv_sub hl [1, 2, 3, 4, 5, 6, 7, 8, 0] rfl)
      refine t_i (hz.trans (bI_t hdt).symm) ?_
      refine lv_istore (lv' := [(11, .int (nI 1)), (0, .ref (ad 0)), (1, .int (nI me)), (2, .int (nI cl)), (3, .long (Int64.ofInt U)), (5, .long (lN Lw)), (7, .int (nI al)), (8, .int (nI sl)), (9, .int (nI (grt v.1 6))), (10, .int (nI k))]) hx hb dL_powers_117 hl (by decide) rfl (fun ls hl => ?_)
      suffices h136 : ∀ ls : Array Slot, lv_has ls 18 [(0, .ref (ad 0)), (1, .int (nI me)), (2, .int (nI cl)), (3, .long (Int64.ofInt U)), (5, .long (lN Lw)), (7, .int (nI al)), (8, .int (nI sl)), (9, .int (nI (grt v.1 6))), (10, .int (nI k)), (11, .int (nI 1))] → W p l e ({ frames := 9, cells := 29, slots := 174, locals := 194 } : Room) s m [.ref (ad 0), .int (nI me), .int (nI cl)].toArray below meth c H locs (((9 + k * 3) + 0) + 1) (((54 + k * 18) + 0) + 6) (MQ below (va_Qi (fun (z : Int32) (u : CV × CI) => z = nI 1 ∧ u.1 = v ∧ II u.1.1 u.2) (fun (u : CV × CI) t => cB D K A (WX K ad q q1 q2 g r r2 u.1 u.2) t) A) [.ref (ad 0), .int (nI me), .int (nI cl)].toArray s 29 174 A) (F0 m 136 ls []) by
        rcases (show al = 0 ∨ al = 1 by omega) with hal01 | hal01
        · subst hal01
          refine lv_iload hx hb dL_powers_119 (lv_at hl 6 rfl) ?_
          refine b_if_eq hx hb (nI_toIntI (by omega)) dL_powers_121 (tgt := 133) (by decide) (fun c121 => ?_) (fun c121 => absurd c121 (by omega))
          refine lv_iconst (v := nI 0) hx hb dL_powers_133 (by decide) ?_
          refine lv_istore (lv' := [(7, .int (nI 0)), (11, .int (nI 1)), (0, .ref (ad 0)), (1, .int (nI me)), (2, .int (nI cl)), (3, .long (Int64.ofInt U)), (5, .long (lN Lw)), (8, .int (nI sl)), (9, .int (nI (grt v.1 6))), (10, .int (nI k))]) hx hb dL_powers_134 hl (by decide) rfl (fun ls hl => ?_)
          exact h136 _ (lv_sub hl [2, 3, 4, 5, 6, 0, 7, 8, 9, 1] rfl)
        · subst hal01
          refine lv_iload hx hb dL_powers_119 (lv_at hl 6 rfl) ?_
          refine b_if_eq hx hb (nI_toIntI (by omega)) dL_powers_121 (tgt := 133) (by decide) (fun c121 => absurd c121 (by omega)) (fun c121 => ?_)
          refine lv_iload hx hb dL_powers_124 (lv_at hl 0 rfl) ?_
          refine b_if_eq hx hb (nI_toIntI (by omega)) dL_powers_126 (tgt := 133) (by decide) (fun c126 => absurd c126 (by omega)) (fun c126 => ?_)
          refine lv_iconst (v := nI 1) hx hb dL_powers_129 (by decide) ?_
          refine lv_goto (tgt := 134) hx hb dL_powers_130 (by decide) ?_
          refine lv_istore (lv' := [(7, .int (nI 1)), (11, .int (nI 1)), (0, .ref (ad 0)), (1, .int (nI me)), (2, .int (nI cl)), (3, .long (Int64.ofInt U)), (5, .long (lN Lw)), (8, .int (nI sl)), (9, .int (nI (grt v.1 6))), (10, .int (nI k))]) hx hb dL_powers_134 hl (by decide) rfl (fun ls hl => ?_)
          exact h136 _ (lv_sub hl [2, 3, 4, 5, 6, 0, 7, 8, 9, 1] rfl)
      intro ls hl
      refine lv_iload hx hb dL_powers_136 (lv_at hl 9 rfl) ?_
      refine b_if_eq hx hb (nI_toIntI (by omega)) dL_powers_138 (tgt := 208) (by decide) (fun c138 => absurd c138 (by omega)) (fun c138 => ?_)
      refine lv_iload_n hx hb dL_powers_141 rfl (lv_at hl 2 rfl) ?_
      refine lv_iload hx hb dL_powers_142 (lv_at hl 8 rfl) ?_
      refine lv_ishr hx hb dL_powers_144 ?_
      refine lv_iconst (v := nI 1) hx hb dL_powers_145 (by decide) ?_
      refine lv_iand hx hb dL_powers_146 ?_
      by_cases hbr : v.1 6 k = -1
      rotate_left
      · refine t_i (w_bit1 hcl64 hk6 ((hcl k (by omega)).mpr hbr)) ?_
        refine lv_iconst (v := nI 1) hx hb dL_powers_147 (by decide) ?_
        refine b_icmp_ne hx hb (nI_toIntI (by omega)) (nI_toIntI (by omega)) dL_powers_148 (tgt := 154) (by decide) (fun c148 => absurd c148 (by omega)) (fun c148 => ?_)
        refine lv_goto (tgt := 208) hx hb dL_powers_151 (by decide) ?_
        refine lv_iinc (v := nI (k + 1)) (lv' := [(10, .int (nI (k + 1))), (0, .ref (ad 0)), (1, .int (nI me)), (2, .int (nI cl)), (3, .long (Int64.ofInt U)), (5, .long (lN Lw)), (7, .int (nI al)), (8, .int (nI sl)), (9, .int (nI (grt v.1 6))), (11, .int (nI 1))]) hx hb dL_powers_208 hl (k := 8) rfl (nI_add k 1) (by decide) rfl (fun ls hl => ?_)
        refine lv_goto (tgt := 80) hx hb dL_powers_211 (by decide) ?_
        refine W.widen (k := 9 + (k + 1) * 3) (n := 54 + (k + 1) * 18) (by omega) (by omega) ?_
        exact ih80 i9 (k + 1) al U Lw _ _ _ (by omega) hJ (by omega) hal1 (fun h1 j hj hb9 => by by_cases e : j = k <;> first | (subst e; exact hdt) | exact hdall h1 j (by omega) hb9) hLw hLD (SI_no hSI (fun z => hbr z.2.2)) hP hD hS (lv_sub hl [1, 2, 3, 4, 5, 6, 7, 8, 0] rfl)
      refine t_i (w_bit0 hcl64 hk6 (fun z => (hcl k (by omega)).mp z hbr)) ?_
      refine lv_iconst (v := nI 1) hx hb dL_powers_147 (by decide) ?_
      refine b_icmp_ne hx hb (nI_toIntI (by omega)) (nI_toIntI (by omega)) dL_powers_148 (tgt := 154) (by decide) (fun c148 => ?_) (fun c148 => absurd c148 (by omega))
      refine lv_aload_n hx hb dL_powers_154 rfl (lv_at hl 0 rfl) ?_
      refine lv_iload hx hb dL_powers_155 (lv_at hl 8 rfl) ?_
      refine lv_iconst (v := nI 0) hx hb dL_powers_157 (by decide) ?_
      obtain ⟨N9, l9, hN9, hl9, hl9p, hl9D, hl9x⟩ := hpk k hdt hk6
      have hl9b := lw_le hDd hDB hl9D
      have hrs : rs_torque v.1 (nI k) (nI 0) = (0, N9) := ((rs_torque_at (by omega) hk6 hbk).trans ((cI_f (fun z => z hdt)).trans (by rw [hN9])))
      have hFc := freeAll hD hS hA
      refine vx_calll (vx_runV (As := [.int (nI k), .int (nI 0)]) (rest := []) ⟨hx, hb, hml, hown, hts⟩ (c_X6_torque l hlf D K ad q q1 q2 g r r2 v i9 (nI k) (nI 0) H.size hI hJ) (cwV 2 hts (TB_V k_m_L_85 k_im_X6_torque k_se_X6_torque k_in_X6 k_co_X6_torque (fun _ h => h)) rfl rfl rfl (by decide +kernel) ⟨Nat.le_of_ble_eq_true rfl, Nat.le_of_ble_eq_true rfl⟩) ⟨cPT_blind, va_recv hK hP (ci := 6) (q0 := 0) rfl rfl, cPT_of hP hK hD hTX hS hFc⟩ rfl rfl hl.1 rfl (lv_room (Nat.le_of_ble_eq_true rfl)) dL_powers_158 ⟨(show (((9 + k * 3) + 0) + 1) + 1 ≤ 29 by omega), (show (((54 + k * 18) + 0) + 6) + 6 ≤ 174 by omega)⟩) hS (fun q _ h => hFc q h) hFc (fun q _ h => hFc q h) (fun E ce q9 u9 t9 H locs ht9 hal hpx hB hz1 hk1 hS hce hcv hcl => ?_) (fun rz u9 t9 H locs ht9 hal hw hB hz1 hk1 hS => ?_)
      · exact absurd hB.1.1 (by rw [hrs]; exact Nat.lt_irrefl 0)
      obtain ⟨v9, i9⟩ := u9
      obtain ⟨hP1, hK1, hD1⟩ := hB
      rw [ht9] at hP1
      have hP2 := hP1
      have hD2 := hD1.weaken (fun _ _ _ h => hFc _ h)
      obtain ⟨hv9, hJ9, hr9⟩ := hw
      have hv9 : v9 = v := hv9
      dsimp only at hJ9 hr9
      rw [hv9] at hP2 hD2 hJ9
      dsimp only at hP2 hD2
      have hJ : II v.1 i9 := hJ9
      have hP : va_P D vwCl (WX K ad q q1 q2 g r r2 v i9) H := hP2
      have hD : va_D A (WX K ad q q1 q2 g r r2 v i9) := hD2
      have hz : rz.toInt = N9 := (Prod.mk.inj (hr9.symm.trans hrs)).2
      refine t_l (i64_of hz) ?_
      refine lv_lstore (lv' := [(12, .long (Int64.ofInt N9)), (0, .ref (ad 0)), (1, .int (nI me)), (2, .int (nI cl)), (3, .long (Int64.ofInt U)), (5, .long (lN Lw)), (7, .int (nI al)), (8, .int (nI sl)), (9, .int (nI (grt v.1 6))), (10, .int (nI k)), (11, .int (nI 1))]) hx hb dL_powers_161 hl (by decide) rfl (fun ls hl => ?_)
      refine lv_aload_n hx hb dL_powers_163 rfl (lv_at hl 1 rfl) ?_
      refine lv_iload hx hb dL_powers_164 (lv_at hl 9 rfl) ?_
      refine lv_iconst (v := nI 1) hx hb dL_powers_166 (by decide) ?_
      have hrs : rs_torque v.1 (nI k) (nI 1) = (0, ((l9 : Nat) : Int)) := ((rs_torque_1 (by omega) hk6 hbk hdt).trans (by rw [hl9]))
      have hFc := freeAll hD hS hA
      refine vx_calll (vx_runV (As := [.int (nI k), .int (nI 1)]) (rest := []) ⟨hx, hb, hml, hown, hts⟩ (c_X6_torque l hlf D K ad q q1 q2 g r r2 v i9 (nI k) (nI 1) H.size hI hJ) (cwV 2 hts (TB_V k_m_L_85 k_im_X6_torque k_se_X6_torque k_in_X6 k_co_X6_torque (fun _ h => h)) rfl rfl rfl (by decide +kernel) ⟨Nat.le_of_ble_eq_true rfl, Nat.le_of_ble_eq_true rfl⟩) ⟨cPT_blind, va_recv hK hP (ci := 6) (q0 := 0) rfl rfl, cPT_of hP hK hD hTX hS hFc⟩ rfl rfl hl.1 rfl (lv_room (Nat.le_of_ble_eq_true rfl)) dL_powers_167 ⟨(show ((((9 + k * 3) + 0) + 1) + 1) + 1 ≤ 29 by omega), (show ((((54 + k * 18) + 0) + 6) + 6) + 6 ≤ 174 by omega)⟩) hS (fun q _ h => hFc q h) hFc (fun q _ h => hFc q h) (fun E ce q9 u9 t9 H locs ht9 hal hpx hB hz1 hk1 hS hce hcv hcl => ?_) (fun rz u9 t9 H locs ht9 hal hw hB hz1 hk1 hS => ?_)
      · exact absurd hB.1.1 (by rw [hrs]; exact Nat.lt_irrefl 0)
      obtain ⟨v9, i9⟩ := u9
      obtain ⟨hP1, hK1, hD1⟩ := hB
      rw [ht9] at hP1
      have hP2 := hP1
      have hD2 := hD1.weaken (fun _ _ _ h => hFc _ h)
      obtain ⟨hv9, hJ9, hr9⟩ := hw
      have hv9 : v9 = v := hv9
      dsimp only at hJ9 hr9
      rw [hv9] at hP2 hD2 hJ9
      dsimp only at hP2 hD2
      have hJ : II v.1 i9 := hJ9
      have hP : va_P D vwCl (WX K ad q q1 q2 g r r2 v i9) H := hP2
      have hD : va_D A (WX K ad q q1 q2 g r r2 v i9) := hD2
      have hz : rz.toInt = ((l9 : Nat) : Int) := (Prod.mk.inj (hr9.symm.trans hrs)).2
      refine t_l (L_ext (x := rz) (y := lN l9) (by rw [lN_toI (by omega)]; exact hz)) ?_
      refine lv_lstore (lv' := [(14, .long (lN l9)), (12, .long (Int64.ofInt N9)), (0, .ref (ad 0)), (1, .int (nI me)), (2, .int (nI cl)), (3, .long (Int64.ofInt U)), (5, .long (lN Lw)), (7, .int (nI al)), (8, .int (nI sl)), (9, .int (nI (grt v.1 6))), (10, .int (nI k)), (11, .int (nI 1))]) hx hb dL_powers_170 hl (by decide) rfl (fun ls hl => ?_)
      refine lv_lload hx hb dL_powers_172 (lv_at hl 6 rfl) ?_
      refine lv_lload hx hb dL_powers_174 (lv_at hl 0 rfl) ?_
      refine va_calll (va_runS (As := [.long (lN Lw), .long (lN l9)]) (rest := []) ⟨hx, hb, hml, hown, hts⟩ (c_L_common l Lw l9 (by omega) (by omega)) (va_cwS 2 hts (TB_S k_m_L_110 k_st_L_common k_in_L k_co_L_common (fun _ h => h)) rfl rfl rfl (by decide +kernel) ⟨Nat.le_of_ble_eq_true rfl, Nat.le_of_ble_eq_true rfl⟩) ⟨tP_blind, tP_of⟩ rfl rfl hl.1 rfl (lv_room (Nat.le_of_ble_eq_true rfl)) dL_powers_176 ⟨(show (((((9 + k * 3) + 0) + 1) + 1) + 1) + 0 ≤ 29 by omega), (show (((((54 + k * 18) + 0) + 6) + 6) + 6) + 0 ≤ 174 by omega)⟩) hS (fun q _ h => absurd h id) (fun q h => absurd h id) (fun rg u9 t9 H locs ht9 hvm hw hB hz1 hk1 hS => ?_)
      have hP := P_same hP hk1
      refine t_l hw ?_
      have hGp : 0 < Nat.gcd Lw l9 := Nat.gcd_pos_of_pos_left _ hLw
      have hGl : Nat.gcd Lw l9 ≤ Lw := Nat.gcd_le_left _ hLw
      have hnew := lw_new hDd hDB hLw hl9p hLD hl9D
      refine lv_lstore (lv' := [(16, .long (lN (Nat.gcd Lw l9))), (14, .long (lN l9)), (12, .long (Int64.ofInt N9)), (0, .ref (ad 0)), (1, .int (nI me)), (2, .int (nI cl)), (3, .long (Int64.ofInt U)), (5, .long (lN Lw)), (7, .int (nI al)), (8, .int (nI sl)), (9, .int (nI (grt v.1 6))), (10, .int (nI k)), (11, .int (nI 1))]) hx hb dL_powers_179 hl (by decide) rfl (fun ls hl => ?_)
      refine lv_lload_n hx hb dL_powers_181 rfl (lv_at hl 6 rfl) ?_
      refine lv_lload hx hb dL_powers_182 (lv_at hl 1 rfl) ?_
      refine lv_lload hx hb dL_powers_184 (lv_at hl 0 rfl) ?_
      refine lv_ldiv hx hb dL_powers_186 (fun q => absurd (congrArg Int64.toInt q) (by rw [lN_toI (by omega), show (0 : Int64).toInt = 0 by decide]; omega)) ?_
      refine t_l (pk_lDiv (by omega) hGp (by omega)) ?_
      refine lv_lmul hx hb dL_powers_187 ?_
      refine t_l (l_mulN _ _) ?_
      refine lv_lload hx hb dL_powers_188 (lv_at hl 2 rfl) ?_
      refine lv_lload hx hb dL_powers_190 (lv_at hl 7 rfl) ?_
      refine lv_lload hx hb dL_powers_192 (lv_at hl 0 rfl) ?_
      refine lv_ldiv hx hb dL_powers_194 (fun q => absurd (congrArg Int64.toInt q) (by rw [lN_toI (by omega), show (0 : Int64).toInt = 0 by decide]; omega)) ?_
      refine t_l (pk_lDiv (by omega) hGp (by omega)) ?_
      refine lv_lmul hx hb dL_powers_195 ?_
      refine t_l (l_mulN _ _) ?_
      refine lv_ladd hx hb dL_powers_196 ?_
      refine t_l (l_add _ _) ?_
      refine lv_lstore_n (lv' := [(3, .long (Int64.ofInt (U * ((l9 / Nat.gcd Lw l9 : Nat) : Int) + N9 * ((Lw / Nat.gcd Lw l9 : Nat) : Int)))), (16, .long (lN (Nat.gcd Lw l9))), (14, .long (lN l9)), (12, .long (Int64.ofInt N9)), (0, .ref (ad 0)), (1, .int (nI me)), (2, .int (nI cl)), (5, .long (lN Lw)), (7, .int (nI al)), (8, .int (nI sl)), (9, .int (nI (grt v.1 6))), (10, .int (nI k)), (11, .int (nI 1))]) hx hb dL_powers_197 rfl hl (by decide) rfl (fun ls hl => ?_)
      refine lv_lload hx hb dL_powers_198 (lv_at hl 7 rfl) ?_
      refine lv_lload hx hb dL_powers_200 (lv_at hl 1 rfl) ?_
      refine lv_ldiv hx hb dL_powers_202 (fun q => absurd (congrArg Int64.toInt q) (by rw [lN_toI (by omega), show (0 : Int64).toInt = 0 by decide]; omega)) ?_
      refine t_l (pk_lDiv (by omega) hGp (by omega)) ?_
      refine lv_lload hx hb dL_powers_203 (lv_at hl 2 rfl) ?_
      refine lv_lmul hx hb dL_powers_205 ?_
      refine t_l (l_mulNN _ _) ?_
      refine lv_lstore (lv' := [(5, .long (lN (Lw / Nat.gcd Lw l9 * l9))), (3, .long (Int64.ofInt (U * ((l9 / Nat.gcd Lw l9 : Nat) : Int) + N9 * ((Lw / Nat.gcd Lw l9 : Nat) : Int)))), (16, .long (lN (Nat.gcd Lw l9))), (14, .long (lN l9)), (12, .long (Int64.ofInt N9)), (0, .ref (ad 0)), (1, .int (nI me)), (2, .int (nI cl)), (7, .int (nI al)), (8, .int (nI sl)), (9, .int (nI (grt v.1 6))), (10, .int (nI k)), (11, .int (nI 1))]) hx hb dL_powers_206 hl (by decide) rfl (fun ls hl => ?_)
      refine lv_iinc (v := nI (k + 1)) (lv' := [(10, .int (nI (k + 1))), (5, .long (lN (Lw / Nat.gcd Lw l9 * l9))), (3, .long (Int64.ofInt (U * ((l9 / Nat.gcd Lw l9 : Nat) : Int) + N9 * ((Lw / Nat.gcd Lw l9 : Nat) : Int)))), (16, .long (lN (Nat.gcd Lw l9))), (14, .long (lN l9)), (12, .long (Int64.ofInt N9)), (0, .ref (ad 0)), (1, .int (nI me)), (2, .int (nI cl)), (7, .int (nI al)), (8, .int (nI sl)), (9, .int (nI (grt v.1 6))), (11, .int (nI 1))]) hx hb dL_powers_208 hl (k := 11) rfl (nI_add k 1) (by decide) rfl (fun ls hl => ?_)
      refine lv_goto (tgt := 80) hx hb dL_powers_211 (by decide) ?_
      refine W.widen (k := 9 + (k + 1) * 3) (n := 54 + (k + 1) * 18) (by omega) (by omega) ?_
      exact ih80 i9 (k + 1) al (U * ((l9 / Nat.gcd Lw l9 : Nat) : Int) + N9 * ((Lw / Nat.gcd Lw l9 : Nat) : Int)) (Lw / Nat.gcd Lw l9 * l9) _ _ _ (by omega) hJ (by omega) hal1 (fun h1 j hj hb9 => by by_cases e : j = k <;> first | (subst e; exact hdt) | exact hdall h1 j (by omega) hb9) hnew.1 hnew.2.1 (SI_yes hSI ⟨⟨by omega, hbk⟩, hdt, hbr⟩ hLw hl9x) hP hD hS (lv_sub hl [6, 7, 8, 2, 1, 9, 10, 11, 0] rfl)
  exact L80 _ i9 0 1 (N0 + (L0 : Int)) L0 _ _ _ (Nat.lt_succ_self _) hJ (Nat.zero_le _) (by decide) (fun _ j hj => absurd hj (Nat.not_lt_zero _)) hL0 hL0D hSI0 hP hD hS (lv_sub hl [6, 7, 8, 5, 4, 3, 2, 1, 0] rfl)
