/-! the law: geared, walked -/
set_option maxHeartbeats 4000000 in
set_option maxRecDepth 100000 in
theorem c_L_geared (l : Launch) (hlf : l.stackTraces = false) (D : va_G) (K : Nat → ClassId) (ad q q1 q2 g r r2 : Nat → Nat) (v : CV) (i : CI) (me : Nat) (sz : Nat) (hI : IV v) (hJ : II v.1 i) (hme : me = dn v.1 8 1) : Met l yL_geared (.code yL_geared cL_geared 8 (some .boolean) :: TB) ({ frames := 8, cells := 2600, slots := 15600, locals := 172 } : Room) (va_Pc [.ref (ad 0), .int (nI me)] (cPM D K (WX K ad q q1 q2 g r r2 v i) sz)) (va_Qi (fun (z : Int32) (u : CV × CI) => z = nI 1 ∧ IV u.1 ∧ II u.1.1 u.2 ∧ EG v (dn v.1 8 2) u.1) (fun (u : CV × CI) t => cB D K (va_A (WX K ad q q1 q2 g r r2 v i) sz) (WX K ad q q1 q2 g r r2 u.1 u.2) t) (va_A (WX K ad q q1 q2 g r r2 v i) sz)) 2600 15600 (va_A (WX K ad q q1 q2 g r r2 v i) sz) := by
  refine Met.ofW (cc := cL_geared) (maxL := 8) (ret := (some .boolean)) (by decide) rfl ?_
  intro p e s m args below meth c s₁ B hml hv
  obtain ⟨rfl, ⟨hsz, hP, hK, hD0⟩, hTX, hCL⟩ := hv
  have hx := B.exec
  have hb := B.bytes
  have hr := B.returns
  have hts := hts_tl (atoms_spec (ws := (.code yL_geared cL_geared 8 (some .boolean) :: TB)) B.pre)
  have hown : s.vm.findClass RL = some m.cls := findClass_of_methodNamed B.named
  have hlocks := B.notSynchronized
  subst hsz
  have hD := hD0.self (sz := s.heap.size)
  generalize hAe : (va_A (WX K ad q q1 q2 g r r2 v i) s.heap.size) = A at hD hTX ⊢
  have hA : ∀ q : Nat, s.heap.size ≤ q → A q := fun q h => by rw [← hAe]; exact Or.inr h
  have hS : va_S A s.heap s.heap [] := va_S.rf
  clear hAe hD0
  have hP : va_P D vwCl (WX K ad q q1 q2 g r r2 v i) s.heap := hP
  have hD : va_D A (WX K ad q q1 q2 g r r2 v i) := hD
  have hl := lv_entry ([.ref (ad 0), .int (nI me)]) (n := 8) (Nat.le_of_ble_eq_true rfl)
  rw [lg_entry_eq]
  generalize (lg_sl ([.ref (ad 0), .int (nI me)]) ++ List.replicate (8 - (lg_sl ([.ref (ad 0), .int (nI me)])).length) Slot.unset).toArray = ls at hl ⊢
  have hl : lv_has ls 8 [(0, .ref (ad 0)), (1, .int (nI me))] := hl
  have hm6 := DV_m hI.1
  obtain ⟨hgl, hge2, hp64, hge64⟩ := DV_g hI.1
  have hg64 := gN_le v.1
  have hI0 := hI
  refine lv_aload_n hx hb dL_geared_0 rfl (lv_at hl 0 rfl) ?_
  refine lv_iconst (v := nI 2) hx hb dL_geared_1 (by decide) ?_
  have hrs : rs_count v.1 (nI 2) = (0, ((gN v.1 : Nat) : Int)) := (rs_count2 v.1)
  have hFc := freeAll hD hS hA
  refine vx_calli (vx_runV (As := [.int (nI 2)]) (rest := []) ⟨hx, hb, hml, hown, hts⟩ (c_X6_count l hlf D K ad q q1 q2 g r r2 v i (nI 2) s.heap.size hI hJ) (cwV 1 hts (TB_V k_m_L_55 k_im_X6_count k_se_X6_count k_in_X6 k_co_X6_count (fun _ h => h)) rfl rfl rfl (by decide +kernel) ⟨Nat.le_of_ble_eq_true rfl, Nat.le_of_ble_eq_true rfl⟩) ⟨cPT_blind, va_recv hK hP (ci := 6) (q0 := 0) rfl rfl, cPT_of hP hK hD hTX hS hFc⟩ rfl rfl hl.1 rfl (lv_room (Nat.le_of_ble_eq_true rfl)) dL_geared_2 ⟨(Nat.le_of_ble_eq_true rfl), (Nat.le_of_ble_eq_true rfl)⟩) hS (fun q _ h => hFc q h) hFc (fun q _ h => hFc q h) (fun E ce q9 u9 t9 H locs ht9 hal hpx hB hz1 hk1 hS hce hcv hcl => ?_) (fun rz u9 t9 H locs ht9 hal hw hB hz1 hk1 hS => ?_)
  · exact absurd hB.1.1 (by rw [hrs]; exact Nat.lt_irrefl 0)
  obtain ⟨v9, i9⟩ := u9
  obtain ⟨hP1, hK1, hD1⟩ := hB
  rw [ht9] at hP1
  have hP2 := hP1
  have hD2 := hD1.weaken (fun _ _ _ h => hFc _ h)
  obtain ⟨hv9, hJ9, hr9⟩ := hw
  have hv9 : v9 = v := hv9
  dsimp only at hJ9 hr9
  rw [hv9] at hP2 hD2 hJ9
  dsimp only at hP2 hD2
  have hJ : II v.1 i9 := hJ9
  have hP : va_P D vwCl (WX K ad q q1 q2 g r r2 v i9) H := hP2
  have hD : va_D A (WX K ad q q1 q2 g r r2 v i9) := hD2
  have hz : rz.toInt = ((gN v.1 : Nat) : Int) := (Prod.mk.inj (hr9.symm.trans hrs)).2
  refine t_i ((i32_eq rz (nI (gN v.1))).mpr (by rw [nI_toIntI (by omega)]; exact hz)) ?_
  refine lv_istore_n (lv' := [(2, .int (nI (gN v.1))), (0, .ref (ad 0)), (1, .int (nI me))]) hx hb dL_geared_5 rfl hl (by decide) rfl (fun ls hl => ?_)
  refine lv_aload_n hx hb dL_geared_6 rfl (lv_at hl 1 rfl) ?_
  have hFc := freeAll hD hS hA
  refine va_calli (va_runV (As := []) (rest := []) ⟨hx, hb, hml, hown, hts⟩ (c_X6_engaged l D K ad q q1 q2 g r r2 v i9  H.size hI hJ) (cwV 0 hts (TB_V k_m_L_51 k_im_X6_engaged k_se_X6_engaged k_in_X6 k_co_X6_engaged (fun _ h => h)) rfl rfl rfl (by decide +kernel) ⟨Nat.le_of_ble_eq_true rfl, Nat.le_of_ble_eq_true rfl⟩) ⟨cP_blind, va_recv hK hP (ci := 6) (q0 := 0) rfl rfl, cP_of hP hK hD⟩ rfl rfl hl.1 rfl (lv_room (Nat.le_of_ble_eq_true rfl)) dL_geared_7 ⟨(Nat.le_of_ble_eq_true rfl), (Nat.le_of_ble_eq_true rfl)⟩) hS (fun q _ h => hFc q h) hFc (fun rz u9 t9 H locs ht9 hal hw hB hz1 hk1 hS => ?_)
  obtain ⟨v9, i9⟩ := u9
  obtain ⟨hP1, hK1, hD1⟩ := hB
  rw [ht9] at hP1
  have hP2 := hP1
  have hD2 := hD1.weaken (fun _ _ _ h => hFc _ h)
  obtain ⟨hv9, hJ9, hr9⟩ := hw
  have hv9 : v9 = v := hv9
  dsimp only at hJ9 hr9
  rw [hv9] at hP2 hD2 hJ9
  dsimp only at hP2 hD2
  have hJ : II v.1 i9 := hJ9
  have hP : va_P D vwCl (WX K ad q q1 q2 g r r2 v i9) H := hP2
  have hD : va_D A (WX K ad q q1 q2 g r r2 v i9) := hD2
  refine t_i (hr9.trans hge2) ?_
  refine lv_istore_n (lv' := [(3, .int (nI (dn v.1 8 2))), (2, .int (nI (gN v.1))), (0, .ref (ad 0)), (1, .int (nI me))]) hx hb dL_geared_10 rfl hl (by decide) rfl (fun ls hl => ?_)
  refine lv_iconst (v := nI 0) hx hb dL_geared_11 (by decide) ?_
  refine lv_istore (lv' := [(4, .int (nI 0)), (3, .int (nI (dn v.1 8 2))), (2, .int (nI (gN v.1))), (0, .ref (ad 0)), (1, .int (nI me))]) hx hb dL_geared_12 hl (by decide) rfl (fun ls hl => ?_)
  refine W.widen (k := 1 + 0 * 40) (n := 6 + 0 * 240) (by omega) (by omega) ?_
  have L14 : ∀ (fuel : Nat) (vw : CV) (i : CI) (k : Nat) (x : Nat) (H : Heap) (locs : List Loc) (ls : Array Slot), gN v.1 - k < fuel → (IV vw) → (II vw.1 i) → (EG v x vw) → (k ≤ gN v.1) → va_P D vwCl (WX K ad q q1 q2 g r r2 vw i) H → va_D A (WX K ad q q1 q2 g r r2 vw i) → va_S A s.heap H locs → lv_has ls 8 [(0, .ref (ad 0)), (1, .int (nI me)), (2, .int (nI (gN v.1))), (3, .int (nI (dn v.1 8 2))), (4, .int (nI k))] → W p l e ({ frames := 8, cells := 2600, slots := 15600, locals := 172 } : Room) s m [.ref (ad 0), .int (nI me)].toArray below meth c H locs (1 + k * 40) (6 + k * 240) (MQ below (va_Qi (fun (z : Int32) (u : CV × CI) => z = nI 1 ∧ IV u.1 ∧ II u.1.1 u.2 ∧ EG v (dn v.1 8 2) u.1) (fun (u : CV × CI) t => cB D K A (WX K ad q q1 q2 g r r2 u.1 u.2) t) A) [.ref (ad 0), .int (nI me)].toArray s 2600 15600 A) (F0 m 14 ls []) := by
    intro fuel
    induction fuel with
    | zero =>
      intro vw i k x H locs ls hfu
      exact absurd hfu (Nat.not_lt_zero _)
    | succ fuel ih14 =>
      intro vw i k x H locs ls hfu hI hJ hE hk hP hD hS hl
      have hx64 := EG_64 hI0 hE
      refine lv_iload hx hb dL_geared_14 (lv_at hl 4 rfl) ?_
      refine lv_iload_n hx hb dL_geared_16 rfl (lv_at hl 2 rfl) ?_
      refine b_icmp_ge hx hb (nI_toIntI (by omega)) (nI_toIntI (by omega)) dL_geared_17 (tgt := 325) (by decide) (fun c17 => ?_) (fun c17 => ?_)
      · refine lv_aload_n hx hb dL_geared_325 rfl (lv_at hl 0 rfl) ?_
        refine lv_iload_n hx hb dL_geared_326 rfl (lv_at hl 3 rfl) ?_
        have hrs : rs_select vw.1 (nI (dn v.1 8 2)) = (0, ((x : Nat) : Int)) := (rsE_select hI0 hE hgl)
        have hFc := freeAll hD hS hA
        refine vx_calli (vx_runV (As := [.int (nI (dn v.1 8 2))]) (rest := []) ⟨hx, hb, hml, hown, hts⟩ (c_X6_select l hlf D K ad q q1 q2 g r r2 vw i (nI (dn v.1 8 2)) H.size hI hJ) (cwV 1 hts (TB_V k_m_L_61 k_im_X6_select k_se_X6_select k_in_X6 k_co_X6_select (fun _ h => h)) rfl rfl rfl (by decide +kernel) ⟨Nat.le_of_ble_eq_true rfl, Nat.le_of_ble_eq_true rfl⟩) ⟨cPT_blind, va_recv hK hP (ci := 6) (q0 := 0) rfl rfl, cPT_of hP hK hD hTX hS hFc⟩ rfl rfl hl.1 rfl (lv_room (Nat.le_of_ble_eq_true rfl)) dL_geared_327 ⟨(show (1 + k * 40) + 1 ≤ 2600 by omega), (show (6 + k * 240) + 6 ≤ 15600 by omega)⟩) hS (fun q _ h => hFc q h) hFc (fun q _ h => hFc q h) (fun E ce q9 u9 t9 H locs ht9 hal hpx hB hz1 hk1 hS hce hcv hcl => ?_) (fun rz u9 t9 H locs ht9 hal hw hB hz1 hk1 hS => ?_)
        · exact absurd hB.1.1 (by rw [hrs]; exact Nat.lt_irrefl 0)
        obtain ⟨vx1, i9⟩ := u9
        obtain ⟨hP1, hK1, hD1⟩ := hB
        rw [ht9] at hP1
        have hP2 := hP1
        have hD2 := hD1.weaken (fun _ _ _ h => hFc _ h)
        dsimp only at hw
        obtain ⟨⟨z1, hch⟩, hI9, hJ9, hr9⟩ := hw
        have hz : rz.toInt = ((x : Nat) : Int) := (Prod.mk.inj (hr9.symm.trans hrs)).2
        have hE9 : EG v (dn v.1 8 2) vx1 := EG_chg hI0 hE hgl hch
        have hI := hI9
        have hJ := hJ9
        have hE := hE9
        have hP : va_P D vwCl (WX K ad q q1 q2 g r r2 vx1 i9) H := hP2
        have hD : va_D A (WX K ad q q1 q2 g r r2 vx1 i9) := hD2
        refine t_i ((i32_eq rz (nI x)).mpr (by rw [nI_toIntI (by omega)]; exact hz)) ?_
        refine b_if_lt hx hb (nI_toIntI (by omega)) dL_geared_330 (tgt := 345) (by decide) (fun c330 => absurd c330 (by omega)) (fun c330 => ?_)
        refine lv_aload_n hx hb dL_geared_333 rfl (lv_at hl 0 rfl) ?_
        have hFc := freeAll hD hS hA
        refine va_calli (va_runV (As := []) (rest := []) ⟨hx, hb, hml, hown, hts⟩ (c_X6_engaged l D K ad q q1 q2 g r r2 vx1 i9  H.size hI hJ) (cwV 0 hts (TB_V k_m_L_51 k_im_X6_engaged k_se_X6_engaged k_in_X6 k_co_X6_engaged (fun _ h => h)) rfl rfl rfl (by decide +kernel) ⟨Nat.le_of_ble_eq_true rfl, Nat.le_of_ble_eq_true rfl⟩) ⟨cP_blind, va_recv hK hP (ci := 6) (q0 := 0) rfl rfl, cP_of hP hK hD⟩ rfl rfl hl.1 rfl (lv_room (Nat.le_of_ble_eq_true rfl)) dL_geared_334 ⟨(show ((1 + k * 40) + 1) + 0 ≤ 2600 by omega), (show ((6 + k * 240) + 6) + 0 ≤ 15600 by omega)⟩) hS (fun q _ h => hFc q h) hFc (fun rz u9 t9 H locs ht9 hal hw hB hz1 hk1 hS => ?_)
        obtain ⟨v9, i9⟩ := u9
        obtain ⟨hP1, hK1, hD1⟩ := hB
        rw [ht9] at hP1
        have hP2 := hP1
        have hD2 := hD1.weaken (fun _ _ _ h => hFc _ h)
        obtain ⟨hv9, hJ9, hr9⟩ := hw
        have hv9 : v9 = vx1 := hv9
        dsimp only at hJ9 hr9
        rw [hv9] at hP2 hD2 hJ9
        dsimp only at hP2 hD2
        have hJ : II vx1.1 i9 := hJ9
        have hP : va_P D vwCl (WX K ad q q1 q2 g r r2 vx1 i9) H := hP2
        have hD : va_D A (WX K ad q q1 q2 g r r2 vx1 i9) := hD2
        refine t_i (hr9.trans (EG_2 hI0 hE).1) ?_
        refine lv_iload_n hx hb dL_geared_337 rfl (lv_at hl 3 rfl) ?_
        refine b_icmp_ne hx hb (nI_toIntI (by omega)) (nI_toIntI (by omega)) dL_geared_338 (tgt := 345) (by decide) (fun c338 => absurd c338 (by omega)) (fun c338 => ?_)
        refine lv_iconst (v := nI 1) hx hb dL_geared_341 (by decide) ?_
        refine lv_goto (tgt := 346) hx hb dL_geared_342 (by decide) ?_
        refine W.widen (k := 2600) (n := 15600) (by omega) (by omega) ?_
        exact W.zret (v := nI 1) hx hb hr (by decide) (fun t9 ht9 hW => ⟨⟨nI 1, (vx1, i9), rfl, ⟨rfl, hI, hJ, hE⟩, by rw [ht9]; exact hP, va_K.moved hW.alike hK, hD⟩, hS.F ht9⟩) hS.2.2 dL_geared_346
      refine lv_aload_n hx hb dL_geared_20 rfl (lv_at hl 0 rfl) ?_
      refine lv_iload hx hb dL_geared_21 (lv_at hl 4 rfl) ?_
      have hkg : k < gN v.1 := by omega
      have hG := (gF_isG hkg).1
      have hG64 := (gF_isG hkg).2
      have hrs : rs_gear vw.1 (nI k) = (0, ((gF v.1 k : Nat) : Int)) := (rsE_gear hE hkg)
      have hFc := freeAll hD hS hA
      refine vx_calli (vx_runV (As := [.int (nI k)]) (rest := []) ⟨hx, hb, hml, hown, hts⟩ (c_X6_gear l hlf D K ad q q1 q2 g r r2 vw i (nI k) H.size hI hJ) (cwV 1 hts (TB_V k_m_L_58 k_im_X6_gear k_se_X6_gear k_in_X6 k_co_X6_gear (fun _ h => h)) rfl rfl rfl (by decide +kernel) ⟨Nat.le_of_ble_eq_true rfl, Nat.le_of_ble_eq_true rfl⟩) ⟨cPT_blind, va_recv hK hP (ci := 6) (q0 := 0) rfl rfl, cPT_of hP hK hD hTX hS hFc⟩ rfl rfl hl.1 rfl (lv_room (Nat.le_of_ble_eq_true rfl)) dL_geared_23 ⟨(show (1 + k * 40) + 1 ≤ 2600 by omega), (show (6 + k * 240) + 6 ≤ 15600 by omega)⟩) hS (fun q _ h => hFc q h) hFc (fun q _ h => hFc q h) (fun E ce q9 u9 t9 H locs ht9 hal hpx hB hz1 hk1 hS hce hcv hcl => ?_) (fun rz u9 t9 H locs ht9 hal hw hB hz1 hk1 hS => ?_)
      · exact absurd hB.1.1 (by rw [hrs]; exact Nat.lt_irrefl 0)
      obtain ⟨v9, i9⟩ := u9
      obtain ⟨hP1, hK1, hD1⟩ := hB
      rw [ht9] at hP1
      have hP2 := hP1
      have hD2 := hD1.weaken (fun _ _ _ h => hFc _ h)
      obtain ⟨hv9, hJ9, hr9⟩ := hw
      have hv9 : v9 = vw := hv9
      dsimp only at hJ9 hr9
      rw [hv9] at hP2 hD2 hJ9
      dsimp only at hP2 hD2
      have hJ : II vw.1 i9 := hJ9
      have hP : va_P D vwCl (WX K ad q q1 q2 g r r2 vw i9) H := hP2
      have hD : va_D A (WX K ad q q1 q2 g r r2 vw i9) := hD2
      have hz : rz.toInt = ((gF v.1 k : Nat) : Int) := (Prod.mk.inj (hr9.symm.trans hrs)).2
      refine t_i ((i32_eq rz (nI (gF v.1 k))).mpr (by rw [nI_toIntI (by omega)]; exact hz)) ?_
      refine lv_istore (lv' := [(5, .int (nI (gF v.1 k))), (0, .ref (ad 0)), (1, .int (nI me)), (2, .int (nI (gN v.1))), (3, .int (nI (dn v.1 8 2))), (4, .int (nI k))]) hx hb dL_geared_26 hl (by decide) rfl (fun ls hl => ?_)
      refine lv_aload_n hx hb dL_geared_28 rfl (lv_at hl 1 rfl) ?_
      refine lv_iload hx hb dL_geared_29 (lv_at hl 0 rfl) ?_
      have hrs : rs_indexOf vw.1 (nI (gF v.1 k)) = (0, ((k : Nat) : Int)) := (rsE_index hE hkg)
      have hFc := freeAll hD hS hA
      refine vx_calli (vx_runV (As := [.int (nI (gF v.1 k))]) (rest := []) ⟨hx, hb, hml, hown, hts⟩ (c_X6_indexOf l hlf D K ad q q1 q2 g r r2 vw i9 (nI (gF v.1 k)) H.size hI hJ) (cwV 1 hts (TB_V k_m_L_114 k_im_X6_indexOf k_se_X6_indexOf k_in_X6 k_co_X6_indexOf (fun _ h => h)) rfl rfl rfl (by decide +kernel) ⟨Nat.le_of_ble_eq_true rfl, Nat.le_of_ble_eq_true rfl⟩) ⟨cPT_blind, va_recv hK hP (ci := 6) (q0 := 0) rfl rfl, cPT_of hP hK hD hTX hS hFc⟩ rfl rfl hl.1 rfl (lv_room (Nat.le_of_ble_eq_true rfl)) dL_geared_31 ⟨(show ((1 + k * 40) + 1) + 1 ≤ 2600 by omega), (show ((6 + k * 240) + 6) + 6 ≤ 15600 by omega)⟩) hS (fun q _ h => hFc q h) hFc (fun q _ h => hFc q h) (fun E ce q9 u9 t9 H locs ht9 hal hpx hB hz1 hk1 hS hce hcv hcl => ?_) (fun rz u9 t9 H locs ht9 hal hw hB hz1 hk1 hS => ?_)
      · exact absurd hB.1.1 (by rw [hrs]; exact Nat.lt_irrefl 0)
      obtain ⟨v9, i9⟩ := u9
      obtain ⟨hP1, hK1, hD1⟩ := hB
      rw [ht9] at hP1
      have hP2 := hP1
      have hD2 := hD1.weaken (fun _ _ _ h => hFc _ h)
      obtain ⟨hv9, hJ9, hr9⟩ := hw
      have hv9 : v9 = vw := hv9
      dsimp only at hJ9 hr9
      rw [hv9] at hP2 hD2 hJ9
      dsimp only at hP2 hD2
      have hJ : II vw.1 i9 := hJ9
      have hP : va_P D vwCl (WX K ad q q1 q2 g r r2 vw i9) H := hP2
      have hD : va_D A (WX K ad q q1 q2 g r r2 vw i9) := hD2
      have hz : rz.toInt = ((k : Nat) : Int) := (Prod.mk.inj (hr9.symm.trans hrs)).2
      refine t_i ((i32_eq rz (nI k)).mpr (by rw [nI_toIntI (by omega)]; exact hz)) ?_
      refine lv_iload hx hb dL_geared_34 (lv_at hl 5 rfl) ?_
      refine b_icmp_ne hx hb (nI_toIntI (by omega)) (nI_toIntI (by omega)) dL_geared_36 (tgt := 87) (by decide) (fun c36 => absurd c36 (by omega)) (fun c36 => ?_)
      refine lv_aload_n hx hb dL_geared_39 rfl (lv_at hl 1 rfl) ?_
      refine lv_iload hx hb dL_geared_40 (lv_at hl 0 rfl) ?_
      have hrs : rs_select vw.1 (nI (gF v.1 k)) = (0, ((x : Nat) : Int)) := (rsE_select hI0 hE (gF_lt hkg))
      have hFc := freeAll hD hS hA
      refine vx_calli (vx_runV (As := [.int (nI (gF v.1 k))]) (rest := []) ⟨hx, hb, hml, hown, hts⟩ (c_X6_select l hlf D K ad q q1 q2 g r r2 vw i9 (nI (gF v.1 k)) H.size hI hJ) (cwV 1 hts (TB_V k_m_L_61 k_im_X6_select k_se_X6_select k_in_X6 k_co_X6_select (fun _ h => h)) rfl rfl rfl (by decide +kernel) ⟨Nat.le_of_ble_eq_true rfl, Nat.le_of_ble_eq_true rfl⟩) ⟨cPT_blind, va_recv hK hP (ci := 6) (q0 := 0) rfl rfl, cPT_of hP hK hD hTX hS hFc⟩ rfl rfl hl.1 rfl (lv_room (Nat.le_of_ble_eq_true rfl)) dL_geared_42 ⟨(show (((1 + k * 40) + 1) + 1) + 1 ≤ 2600 by omega), (show (((6 + k * 240) + 6) + 6) + 6 ≤ 15600 by omega)⟩) hS (fun q _ h => hFc q h) hFc (fun q _ h => hFc q h) (fun E ce q9 u9 t9 H locs ht9 hal hpx hB hz1 hk1 hS hce hcv hcl => ?_) (fun rz u9 t9 H locs ht9 hal hw hB hz1 hk1 hS => ?_)
      · exact absurd hB.1.1 (by rw [hrs]; exact Nat.lt_irrefl 0)
      obtain ⟨vx2, i9⟩ := u9
      obtain ⟨hP1, hK1, hD1⟩ := hB
      rw [ht9] at hP1
      have hP2 := hP1
      have hD2 := hD1.weaken (fun _ _ _ h => hFc _ h)
      dsimp only at hw
      obtain ⟨⟨z1, hch⟩, hI9, hJ9, hr9⟩ := hw
      have hz : rz.toInt = ((x : Nat) : Int) := (Prod.mk.inj (hr9.symm.trans hrs)).2
      have hE9 : EG v (gF v.1 k) vx2 := EG_chg hI0 hE (gF_lt hkg) hch
      have hI := hI9
      have hJ := hJ9
      have hE := hE9
      have hP : va_P D vwCl (WX K ad q q1 q2 g r r2 vx2 i9) H := hP2
      have hD : va_D A (WX K ad q q1 q2 g r r2 vx2 i9) := hD2
      refine t_i ((i32_eq rz (nI x)).mpr (by rw [nI_toIntI (by omega)]; exact hz)) ?_
      refine b_if_lt hx hb (nI_toIntI (by omega)) dL_geared_45 (tgt := 87) (by decide) (fun c45 => absurd c45 (by omega)) (fun c45 => ?_)
      refine lv_aload_n hx hb dL_geared_48 rfl (lv_at hl 1 rfl) ?_
      have hFc := freeAll hD hS hA
      refine va_calli (va_runV (As := []) (rest := []) ⟨hx, hb, hml, hown, hts⟩ (c_X6_state l D K ad q q1 q2 g r r2 vx2 i9  H.size hI hJ) (cwV 0 hts (TB_V k_m_L_91 k_im_X6_state k_se_X6_state k_in_X6 k_co_X6_state (fun _ h => h)) rfl rfl rfl (by decide +kernel) ⟨Nat.le_of_ble_eq_true rfl, Nat.le_of_ble_eq_true rfl⟩) ⟨cP_blind, va_recv hK hP (ci := 6) (q0 := 0) rfl rfl, cP_of hP hK hD⟩ rfl rfl hl.1 rfl (lv_room (Nat.le_of_ble_eq_true rfl)) dL_geared_49 ⟨(show ((((1 + k * 40) + 1) + 1) + 1) + 0 ≤ 2600 by omega), (show ((((6 + k * 240) + 6) + 6) + 6) + 0 ≤ 15600 by omega)⟩) hS (fun q _ h => hFc q h) hFc (fun rz u9 t9 H locs ht9 hal hw hB hz1 hk1 hS => ?_)
      obtain ⟨v9, i9⟩ := u9
      obtain ⟨hP1, hK1, hD1⟩ := hB
      rw [ht9] at hP1
      have hP2 := hP1
      have hD2 := hD1.weaken (fun _ _ _ h => hFc _ h)
      obtain ⟨hv9, hJ9, hr9⟩ := hw
      have hv9 : v9 = vx2 := hv9
      dsimp only at hJ9 hr9
      rw [hv9] at hP2 hD2 hJ9
      dsimp only at hP2 hD2
      have hJ : II vx2.1 i9 := hJ9
      have hP : va_P D vwCl (WX K ad q q1 q2 g r r2 vx2 i9) H := hP2
      have hD : va_D A (WX K ad q q1 q2 g r r2 vx2 i9) := hD2
      refine t_i ((i32_eq rz (nI 0)).mpr (by rw [nI_toIntI (by decide), hr9, EG_st hE, (EG_2 hI0 hE).2, hG.2.1])) ?_
      refine b_if_ne hx hb (nI_toIntI (by omega)) dL_geared_52 (tgt := 87) (by decide) (fun c52 => absurd c52 (by omega)) (fun c52 => ?_)
      refine lv_aload_n hx hb dL_geared_55 rfl (lv_at hl 1 rfl) ?_
      refine lv_iconst (v := nI 0) hx hb dL_geared_56 (by decide) ?_
      have hrs : rs_ratio vx2.1 (nI 0) = (0, rtN (SP v.1 (gF v.1 k))) := (rsE_ratio hI0 hE hG.2.1).1
      have hFc := freeAll hD hS hA
      refine vx_calll (vx_runV (As := [.int (nI 0)]) (rest := []) ⟨hx, hb, hml, hown, hts⟩ (c_X6_ratio l hlf D K ad q q1 q2 g r r2 vx2 i9 (nI 0) H.size hI hJ) (cwV 1 hts (TB_V k_m_L_98 k_im_X6_ratio k_se_X6_ratio k_in_X6 k_co_X6_ratio (fun _ h => h)) rfl rfl rfl (by decide +kernel) ⟨Nat.le_of_ble_eq_true rfl, Nat.le_of_ble_eq_true rfl⟩) ⟨cPT_blind, va_recv hK hP (ci := 6) (q0 := 0) rfl rfl, cPT_of hP hK hD hTX hS hFc⟩ rfl rfl hl.1 rfl (lv_room (Nat.le_of_ble_eq_true rfl)) dL_geared_57 ⟨(show (((((1 + k * 40) + 1) + 1) + 1) + 0) + 1 ≤ 2600 by omega), (show (((((6 + k * 240) + 6) + 6) + 6) + 0) + 6 ≤ 15600 by omega)⟩) hS (fun q _ h => hFc q h) hFc (fun q _ h => hFc q h) (fun E ce q9 u9 t9 H locs ht9 hal hpx hB hz1 hk1 hS hce hcv hcl => ?_) (fun rz u9 t9 H locs ht9 hal hw hB hz1 hk1 hS => ?_)
      · exact absurd hB.1.1 (by rw [hrs]; exact Nat.lt_irrefl 0)
      obtain ⟨v9, i9⟩ := u9
      obtain ⟨hP1, hK1, hD1⟩ := hB
      rw [ht9] at hP1
      have hP2 := hP1
      have hD2 := hD1.weaken (fun _ _ _ h => hFc _ h)
      obtain ⟨hv9, hJ9, hr9⟩ := hw
      have hv9 : v9 = vx2 := hv9
      dsimp only at hJ9 hr9
      rw [hv9] at hP2 hD2 hJ9
      dsimp only at hP2 hD2
      have hJ : II vx2.1 i9 := hJ9
      have hP : va_P D vwCl (WX K ad q q1 q2 g r r2 vx2 i9) H := hP2
      have hD : va_D A (WX K ad q q1 q2 g r r2 vx2 i9) := hD2
      have hz : rz.toInt = rtN (SP v.1 (gF v.1 k)) := (Prod.mk.inj (hr9.symm.trans hrs)).2
      refine t_l (i64_of hz) ?_
      refine lv_aload_n hx hb dL_geared_60 rfl (lv_at hl 1 rfl) ?_
      refine lv_iload hx hb dL_geared_61 (lv_at hl 5 rfl) ?_
      refine lv_iconst (v := nI 0) hx hb dL_geared_63 (by decide) ?_
      have hrs : rs_gearRatio vx2.1 (nI k) (nI 0) = (0, rtN (SP v.1 (gF v.1 k))) := (rsE_gearRatio hE hkg).1
      have hFc := freeAll hD hS hA
      refine vx_calll (vx_runV (As := [.int (nI k), .int (nI 0)]) (rest := [.long (Int64.ofInt (rtN (SP v.1 (gF v.1 k))))]) ⟨hx, hb, hml, hown, hts⟩ (c_X6_gearRatio l hlf D K ad q q1 q2 g r r2 vx2 i9 (nI k) (nI 0) H.size hI hJ) (cwV 2 hts (TB_V k_m_L_117 k_im_X6_gearRatio k_se_X6_gearRatio k_in_X6 k_co_X6_gearRatio (fun _ h => h)) rfl rfl rfl (by decide +kernel) ⟨Nat.le_of_ble_eq_true rfl, Nat.le_of_ble_eq_true rfl⟩) ⟨cPT_blind, va_recv hK hP (ci := 6) (q0 := 0) rfl rfl, cPT_of hP hK hD hTX hS hFc⟩ rfl rfl hl.1 rfl (lv_room (Nat.le_of_ble_eq_true rfl)) dL_geared_64 ⟨(show ((((((1 + k * 40) + 1) + 1) + 1) + 0) + 1) + 1 ≤ 2600 by omega), (show ((((((6 + k * 240) + 6) + 6) + 6) + 0) + 6) + 6 ≤ 15600 by omega)⟩) hS (fun q _ h => hFc q h) hFc (fun q _ h => hFc q h) (fun E ce q9 u9 t9 H locs ht9 hal hpx hB hz1 hk1 hS hce hcv hcl => ?_) (fun rz u9 t9 H locs ht9 hal hw hB hz1 hk1 hS => ?_)
      · exact absurd hB.1.1 (by rw [hrs]; exact Nat.lt_irrefl 0)
      obtain ⟨v9, i9⟩ := u9
      obtain ⟨hP1, hK1, hD1⟩ := hB
      rw [ht9] at hP1
      have hP2 := hP1
      have hD2 := hD1.weaken (fun _ _ _ h => hFc _ h)
      obtain ⟨hv9, hJ9, hr9⟩ := hw
      have hv9 : v9 = vx2 := hv9
      dsimp only at hJ9 hr9
      rw [hv9] at hP2 hD2 hJ9
      dsimp only at hP2 hD2
      have hJ : II vx2.1 i9 := hJ9
      have hP : va_P D vwCl (WX K ad q q1 q2 g r r2 vx2 i9) H := hP2
      have hD : va_D A (WX K ad q q1 q2 g r r2 vx2 i9) := hD2
      have hz : rz.toInt = rtN (SP v.1 (gF v.1 k)) := (Prod.mk.inj (hr9.symm.trans hrs)).2
      refine t_l (i64_of hz) ?_
      refine b_lcmp_ne hx hb rfl rfl dL_geared_67 dL_geared_68 (tgt := 87) (by decide) (fun c67 => absurd c67 (fun z => z rfl)) (fun c67 => ?_)
      refine lv_aload_n hx hb dL_geared_71 rfl (lv_at hl 1 rfl) ?_
      refine lv_iconst (v := nI 1) hx hb dL_geared_72 (by decide) ?_
      have hrs : rs_ratio vx2.1 (nI 1) = (0, rtD (SP v.1 (gF v.1 k))) := (rsE_ratio hI0 hE hG.2.1).2
      have hFc := freeAll hD hS hA
      refine vx_calll (vx_runV (As := [.int (nI 1)]) (rest := []) ⟨hx, hb, hml, hown, hts⟩ (c_X6_ratio l hlf D K ad q q1 q2 g r r2 vx2 i9 (nI 1) H.size hI hJ) (cwV 1 hts (TB_V k_m_L_98 k_im_X6_ratio k_se_X6_ratio k_in_X6 k_co_X6_ratio (fun _ h => h)) rfl rfl rfl (by decide +kernel) ⟨Nat.le_of_ble_eq_true rfl, Nat.le_of_ble_eq_true rfl⟩) ⟨cPT_blind, va_recv hK hP (ci := 6) (q0 := 0) rfl rfl, cPT_of hP hK hD hTX hS hFc⟩ rfl rfl hl.1 rfl (lv_room (Nat.le_of_ble_eq_true rfl)) dL_geared_73 ⟨(show (((((((1 + k * 40) + 1) + 1) + 1) + 0) + 1) + 1) + 1 ≤ 2600 by omega), (show (((((((6 + k * 240) + 6) + 6) + 6) + 0) + 6) + 6) + 6 ≤ 15600 by omega)⟩) hS (fun q _ h => hFc q h) hFc (fun q _ h => hFc q h) (fun E ce q9 u9 t9 H locs ht9 hal hpx hB hz1 hk1 hS hce hcv hcl => ?_) (fun rz u9 t9 H locs ht9 hal hw hB hz1 hk1 hS => ?_)
      · exact absurd hB.1.1 (by rw [hrs]; exact Nat.lt_irrefl 0)
      obtain ⟨v9, i9⟩ := u9
      obtain ⟨hP1, hK1, hD1⟩ := hB
      rw [ht9] at hP1
      have hP2 := hP1
      have hD2 := hD1.weaken (fun _ _ _ h => hFc _ h)
      obtain ⟨hv9, hJ9, hr9⟩ := hw
      have hv9 : v9 = vx2 := hv9
      dsimp only at hJ9 hr9
      rw [hv9] at hP2 hD2 hJ9
      dsimp only at hP2 hD2
      have hJ : II vx2.1 i9 := hJ9
      have hP : va_P D vwCl (WX K ad q q1 q2 g r r2 vx2 i9) H := hP2
      have hD : va_D A (WX K ad q q1 q2 g r r2 vx2 i9) := hD2
      have hz : rz.toInt = rtD (SP v.1 (gF v.1 k)) := (Prod.mk.inj (hr9.symm.trans hrs)).2
      refine t_l (i64_of hz) ?_
      refine lv_aload_n hx hb dL_geared_76 rfl (lv_at hl 1 rfl) ?_
      refine lv_iload hx hb dL_geared_77 (lv_at hl 5 rfl) ?_
      refine lv_iconst (v := nI 1) hx hb dL_geared_79 (by decide) ?_
      have hrs : rs_gearRatio vx2.1 (nI k) (nI 1) = (0, rtD (SP v.1 (gF v.1 k))) := (rsE_gearRatio hE hkg).2
      have hFc := freeAll hD hS hA
      refine vx_calll (vx_runV (As := [.int (nI k), .int (nI 1)]) (rest := [.long (Int64.ofInt (rtD (SP v.1 (gF v.1 k))))]) ⟨hx, hb, hml, hown, hts⟩ (c_X6_gearRatio l hlf D K ad q q1 q2 g r r2 vx2 i9 (nI k) (nI 1) H.size hI hJ) (cwV 2 hts (TB_V k_m_L_117 k_im_X6_gearRatio k_se_X6_gearRatio k_in_X6 k_co_X6_gearRatio (fun _ h => h)) rfl rfl rfl (by decide +kernel) ⟨Nat.le_of_ble_eq_true rfl, Nat.le_of_ble_eq_true rfl⟩) ⟨cPT_blind, va_recv hK hP (ci := 6) (q0 := 0) rfl rfl, cPT_of hP hK hD hTX hS hFc⟩ rfl rfl hl.1 rfl (lv_room (Nat.le_of_ble_eq_true rfl)) dL_geared_80 ⟨(show ((((((((1 + k * 40) + 1) + 1) + 1) + 0) + 1) + 1) + 1) + 1 ≤ 2600 by omega), (show ((((((((6 + k * 240) + 6) + 6) + 6) + 0) + 6) + 6) + 6) + 6 ≤ 15600 by omega)⟩) hS (fun q _ h => hFc q h) hFc (fun q _ h => hFc q h) (fun E ce q9 u9 t9 H locs ht9 hal hpx hB hz1 hk1 hS hce hcv hcl => ?_) (fun rz u9 t9 H locs ht9 hal hw hB hz1 hk1 hS => ?_)
      · exact absurd hB.1.1 (by rw [hrs]; exact Nat.lt_irrefl 0)
      obtain ⟨v9, i9⟩ := u9
      obtain ⟨hP1, hK1, hD1⟩ := hB
      rw [ht9] at hP1
      have hP2 := hP1
      have hD2 := hD1.weaken (fun _ _ _ h => hFc _ h)
      obtain ⟨hv9, hJ9, hr9⟩ := hw
      have hv9 : v9 = vx2 := hv9
      dsimp only at hJ9 hr9
      rw [hv9] at hP2 hD2 hJ9
      dsimp only at hP2 hD2
      have hJ : II vx2.1 i9 := hJ9
      have hP : va_P D vwCl (WX K ad q q1 q2 g r r2 vx2 i9) H := hP2
      have hD : va_D A (WX K ad q q1 q2 g r r2 vx2 i9) := hD2
      have hz : rz.toInt = rtD (SP v.1 (gF v.1 k)) := (Prod.mk.inj (hr9.symm.trans hrs)).2
      refine t_l (i64_of hz) ?_
      refine b_lcmp_eq hx hb rfl rfl dL_geared_83 dL_geared_84 (tgt := 89) (by decide) (fun c83 => ?_) (fun c83 => absurd c83 (fun z => z rfl))
      refine lv_iconst (v := nI 0) hx hb dL_geared_89 (by decide) ?_
      refine lv_istore (lv' := [(6, .int (nI 0)), (5, .int (nI (gF v.1 k))), (0, .ref (ad 0)), (1, .int (nI me)), (2, .int (nI (gN v.1))), (3, .int (nI (dn v.1 8 2))), (4, .int (nI k))]) hx hb dL_geared_90 hl (by decide) rfl (fun ls hl => ?_)
      refine W.widen (k := 8 + k * 40 + 0 * 2) (n := 48 + k * 240 + 0 * 12) (by omega) (by omega) ?_
      have L92 : ∀ (fuel : Nat) (vw : CV) (i : CI) (e9 : Nat) (H : Heap) (locs : List Loc) (ls : Array Slot), me - e9 < fuel → (IV vw) → (II vw.1 i) → (EG v (gF v.1 k) vw) → (e9 ≤ me) → va_P D vwCl (WX K ad q q1 q2 g r r2 vw i) H → va_D A (WX K ad q q1 q2 g r r2 vw i) → va_S A s.heap H locs → lv_has ls 8 [(0, .ref (ad 0)), (1, .int (nI me)), (2, .int (nI (gN v.1))), (3, .int (nI (dn v.1 8 2))), (4, .int (nI k)), (5, .int (nI (gF v.1 k))), (6, .int (nI e9))] → W p l e ({ frames := 8, cells := 2600, slots := 15600, locals := 172 } : Room) s m [.ref (ad 0), .int (nI me)].toArray below meth c H locs (8 + k * 40 + e9 * 2) (48 + k * 240 + e9 * 12) (MQ below (va_Qi (fun (z : Int32) (u : CV × CI) => z = nI 1 ∧ IV u.1 ∧ II u.1.1 u.2 ∧ EG v (dn v.1 8 2) u.1) (fun (u : CV × CI) t => cB D K A (WX K ad q q1 q2 g r r2 u.1 u.2) t) A) [.ref (ad 0), .int (nI me)].toArray s 2600 15600 A) (F0 m 92 ls []) := by
        intro fuel
        induction fuel with
        | zero =>
          intro vw i e9 H locs ls hfu
          exact absurd hfu (Nat.not_lt_zero _)
        | succ fuel ih92 =>
          intro vw i e9 H locs ls hfu hI hJ hE hem hP hD hS hl
          refine lv_iload hx hb dL_geared_92 (lv_at hl 6 rfl) ?_
          refine lv_iload_n hx hb dL_geared_94 rfl (lv_at hl 1 rfl) ?_
          refine b_icmp_ge hx hb (nI_toIntI (by omega)) (nI_toIntI (by omega)) dL_geared_95 (tgt := 145) (by decide) (fun c95 => ?_) (fun c95 => ?_)
          · refine lv_iload hx hb dL_geared_145 (lv_at hl 4 rfl) ?_
            refine b_if_ne hx hb (nI_toIntI (by omega)) dL_geared_147 (tgt := 153) (by decide) (fun c147 => ?_) (fun c147 => ?_)
            · have hkk : k - 1 + 1 = k := by omega
              have hk2 : k - 1 + 1 < gN v.1 := by omega
              obtain ⟨Nk, Dk, Nj, Dj, hq, ⟨hnk, hnj, hnk5, hnj5⟩, ⟨hod0, hodb, hodz⟩, sf1, sf2, sf3⟩ := gear_two hI0 hk2
              rw [hkk] at hq hodz sf1 sf2 sf3
              obtain ⟨hq1, hq2, hq3, hq4⟩ := hq
              refine lv_aload_n hx hb dL_geared_153 rfl (lv_at hl 0 rfl) ?_
              refine lv_iload hx hb dL_geared_154 (lv_at hl 4 rfl) ?_
              refine lv_iconst (v := nI 0) hx hb dL_geared_156 (by decide) ?_
              have hrs : rs_gearRatio vw.1 (nI k) (nI 0) = (0, Nk) := ((rsE_gearRatio hE hkg).1.trans (by rw [hq1]))
              have hFc := freeAll hD hS hA
              refine vx_calll (vx_runV (As := [.int (nI k), .int (nI 0)]) (rest := []) ⟨hx, hb, hml, hown, hts⟩ (c_X6_gearRatio l hlf D K ad q q1 q2 g r r2 vw i (nI k) (nI 0) H.size hI hJ) (cwV 2 hts (TB_V k_m_L_117 k_im_X6_gearRatio k_se_X6_gearRatio k_in_X6 k_co_X6_gearRatio (fun _ h => h)) rfl rfl rfl (by decide +kernel) ⟨Nat.le_of_ble_eq_true rfl, Nat.le_of_ble_eq_true rfl⟩) ⟨cPT_blind, va_recv hK hP (ci := 6) (q0 := 0) rfl rfl, cPT_of hP hK hD hTX hS hFc⟩ rfl rfl hl.1 rfl (lv_room (Nat.le_of_ble_eq_true rfl)) dL_geared_157 ⟨(show (8 + k * 40 + e9 * 2) + 1 ≤ 2600 by omega), (show (48 + k * 240 + e9 * 12) + 6 ≤ 15600 by omega)⟩) hS (fun q _ h => hFc q h) hFc (fun q _ h => hFc q h) (fun E ce q9 u9 t9 H locs ht9 hal hpx hB hz1 hk1 hS hce hcv hcl => ?_) (fun rz u9 t9 H locs ht9 hal hw hB hz1 hk1 hS => ?_)
              · exact absurd hB.1.1 (by rw [hrs]; exact Nat.lt_irrefl 0)
              obtain ⟨v9, i9⟩ := u9
              obtain ⟨hP1, hK1, hD1⟩ := hB
              rw [ht9] at hP1
              have hP2 := hP1
              have hD2 := hD1.weaken (fun _ _ _ h => hFc _ h)
              obtain ⟨hv9, hJ9, hr9⟩ := hw
              have hv9 : v9 = vw := hv9
              dsimp only at hJ9 hr9
              rw [hv9] at hP2 hD2 hJ9
              dsimp only at hP2 hD2
              have hJ : II vw.1 i9 := hJ9
              have hP : va_P D vwCl (WX K ad q q1 q2 g r r2 vw i9) H := hP2
              have hD : va_D A (WX K ad q q1 q2 g r r2 vw i9) := hD2
              have hz : rz.toInt = Nk := (Prod.mk.inj (hr9.symm.trans hrs)).2
              refine t_l (i64_of hz) ?_
              refine lv_aload_n hx hb dL_geared_160 rfl (lv_at hl 0 rfl) ?_
              refine lv_iload hx hb dL_geared_161 (lv_at hl 4 rfl) ?_
              refine lv_iconst (v := nI 1) hx hb dL_geared_163 (by decide) ?_
              refine lv_isub hx hb dL_geared_164 ?_
              refine t_i (pk_sub (by omega)) ?_
              refine lv_iconst (v := nI 1) hx hb dL_geared_165 (by decide) ?_
              have hrs : rs_gearRatio vw.1 (nI (k - 1)) (nI 1) = (0, Dj) := ((rsE_gearRatio hE (show k - 1 < gN v.1 by omega)).2.trans (by rw [hq4]))
              have hFc := freeAll hD hS hA
              refine vx_calll (vx_runV (As := [.int (nI (k - 1)), .int (nI 1)]) (rest := [.long (Int64.ofInt Nk)]) ⟨hx, hb, hml, hown, hts⟩ (c_X6_gearRatio l hlf D K ad q q1 q2 g r r2 vw i9 (nI (k - 1)) (nI 1) H.size hI hJ) (cwV 2 hts (TB_V k_m_L_117 k_im_X6_gearRatio k_se_X6_gearRatio k_in_X6 k_co_X6_gearRatio (fun _ h => h)) rfl rfl rfl (by decide +kernel) ⟨Nat.le_of_ble_eq_true rfl, Nat.le_of_ble_eq_true rfl⟩) ⟨cPT_blind, va_recv hK hP (ci := 6) (q0 := 0) rfl rfl, cPT_of hP hK hD hTX hS hFc⟩ rfl rfl hl.1 rfl (lv_room (Nat.le_of_ble_eq_true rfl)) dL_geared_166 ⟨(show ((8 + k * 40 + e9 * 2) + 1) + 1 ≤ 2600 by omega), (show ((48 + k * 240 + e9 * 12) + 6) + 6 ≤ 15600 by omega)⟩) hS (fun q _ h => hFc q h) hFc (fun q _ h => hFc q h) (fun E ce q9 u9 t9 H locs ht9 hal hpx hB hz1 hk1 hS hce hcv hcl => ?_) (fun rz u9 t9 H locs ht9 hal hw hB hz1 hk1 hS => ?_)
              · exact absurd hB.1.1 (by rw [hrs]; exact Nat.lt_irrefl 0)
              obtain ⟨v9, i9⟩ := u9
              obtain ⟨hP1, hK1, hD1⟩ := hB
              rw [ht9] at hP1
              have hP2 := hP1
              have hD2 := hD1.weaken (fun _ _ _ h => hFc _ h)
              obtain ⟨hv9, hJ9, hr9⟩ := hw
              have hv9 : v9 = vw := hv9
              dsimp only at hJ9 hr9
              rw [hv9] at hP2 hD2 hJ9
              dsimp only at hP2 hD2
              have hJ : II vw.1 i9 := hJ9
              have hP : va_P D vwCl (WX K ad q q1 q2 g r r2 vw i9) H := hP2
              have hD : va_D A (WX K ad q q1 q2 g r r2 vw i9) := hD2
              have hz : rz.toInt = Dj := (Prod.mk.inj (hr9.symm.trans hrs)).2
              refine t_l (i64_of hz) ?_
              refine lv_lmul hx hb dL_geared_169 ?_
              refine t_l (l_mul _ _) ?_
              refine lv_aload_n hx hb dL_geared_170 rfl (lv_at hl 0 rfl) ?_
              refine lv_iload hx hb dL_geared_171 (lv_at hl 4 rfl) ?_
              refine lv_iconst (v := nI 1) hx hb dL_geared_173 (by decide) ?_
              refine lv_isub hx hb dL_geared_174 ?_
              refine t_i (pk_sub (by omega)) ?_
              refine lv_iconst (v := nI 0) hx hb dL_geared_175 (by decide) ?_
              have hrs : rs_gearRatio vw.1 (nI (k - 1)) (nI 0) = (0, Nj) := ((rsE_gearRatio hE (show k - 1 < gN v.1 by omega)).1.trans (by rw [hq3]))
              have hFc := freeAll hD hS hA
              refine vx_calll (vx_runV (As := [.int (nI (k - 1)), .int (nI 0)]) (rest := [.long (Int64.ofInt (Nk * Dj))]) ⟨hx, hb, hml, hown, hts⟩ (c_X6_gearRatio l hlf D K ad q q1 q2 g r r2 vw i9 (nI (k - 1)) (nI 0) H.size hI hJ) (cwV 2 hts (TB_V k_m_L_117 k_im_X6_gearRatio k_se_X6_gearRatio k_in_X6 k_co_X6_gearRatio (fun _ h => h)) rfl rfl rfl (by decide +kernel) ⟨Nat.le_of_ble_eq_true rfl, Nat.le_of_ble_eq_true rfl⟩) ⟨cPT_blind, va_recv hK hP (ci := 6) (q0 := 0) rfl rfl, cPT_of hP hK hD hTX hS hFc⟩ rfl rfl hl.1 rfl (lv_room (Nat.le_of_ble_eq_true rfl)) dL_geared_176 ⟨(show (((8 + k * 40 + e9 * 2) + 1) + 1) + 1 ≤ 2600 by omega), (show (((48 + k * 240 + e9 * 12) + 6) + 6) + 6 ≤ 15600 by omega)⟩) hS (fun q _ h => hFc q h) hFc (fun q _ h => hFc q h) (fun E ce q9 u9 t9 H locs ht9 hal hpx hB hz1 hk1 hS hce hcv hcl => ?_) (fun rz u9 t9 H locs ht9 hal hw hB hz1 hk1 hS => ?_)
              · exact absurd hB.1.1 (by rw [hrs]; exact Nat.lt_irrefl 0)
              obtain ⟨v9, i9⟩ := u9
              obtain ⟨hP1, hK1, hD1⟩ := hB
              rw [ht9] at hP1
              have hP2 := hP1
              have hD2 := hD1.weaken (fun _ _ _ h => hFc _ h)
              obtain ⟨hv9, hJ9, hr9⟩ := hw
              have hv9 : v9 = vw := hv9
              dsimp only at hJ9 hr9
              rw [hv9] at hP2 hD2 hJ9
              dsimp only at hP2 hD2
              have hJ : II vw.1 i9 := hJ9
              have hP : va_P D vwCl (WX K ad q q1 q2 g r r2 vw i9) H := hP2
              have hD : va_D A (WX K ad q q1 q2 g r r2 vw i9) := hD2
              have hz : rz.toInt = Nj := (Prod.mk.inj (hr9.symm.trans hrs)).2
              refine t_l (i64_of hz) ?_
              refine lv_aload_n hx hb dL_geared_179 rfl (lv_at hl 0 rfl) ?_
              refine lv_iload hx hb dL_geared_180 (lv_at hl 4 rfl) ?_
              refine lv_iconst (v := nI 1) hx hb dL_geared_182 (by decide) ?_
              have hrs : rs_gearRatio vw.1 (nI k) (nI 1) = (0, Dk) := ((rsE_gearRatio hE hkg).2.trans (by rw [hq2]))
              have hFc := freeAll hD hS hA
              refine vx_calll (vx_runV (As := [.int (nI k), .int (nI 1)]) (rest := [.long (Int64.ofInt Nj), .long (Int64.ofInt (Nk * Dj))]) ⟨hx, hb, hml, hown, hts⟩ (c_X6_gearRatio l hlf D K ad q q1 q2 g r r2 vw i9 (nI k) (nI 1) H.size hI hJ) (cwV 2 hts (TB_V k_m_L_117 k_im_X6_gearRatio k_se_X6_gearRatio k_in_X6 k_co_X6_gearRatio (fun _ h => h)) rfl rfl rfl (by decide +kernel) ⟨Nat.le_of_ble_eq_true rfl, Nat.le_of_ble_eq_true rfl⟩) ⟨cPT_blind, va_recv hK hP (ci := 6) (q0 := 0) rfl rfl, cPT_of hP hK hD hTX hS hFc⟩ rfl rfl hl.1 rfl (lv_room (Nat.le_of_ble_eq_true rfl)) dL_geared_183 ⟨(show ((((8 + k * 40 + e9 * 2) + 1) + 1) + 1) + 1 ≤ 2600 by omega), (show ((((48 + k * 240 + e9 * 12) + 6) + 6) + 6) + 6 ≤ 15600 by omega)⟩) hS (fun q _ h => hFc q h) hFc (fun q _ h => hFc q h) (fun E ce q9 u9 t9 H locs ht9 hal hpx hB hz1 hk1 hS hce hcv hcl => ?_) (fun rz u9 t9 H locs ht9 hal hw hB hz1 hk1 hS => ?_)
              · exact absurd hB.1.1 (by rw [hrs]; exact Nat.lt_irrefl 0)
              obtain ⟨v9, i9⟩ := u9
              obtain ⟨hP1, hK1, hD1⟩ := hB
              rw [ht9] at hP1
              have hP2 := hP1
              have hD2 := hD1.weaken (fun _ _ _ h => hFc _ h)
              obtain ⟨hv9, hJ9, hr9⟩ := hw
              have hv9 : v9 = vw := hv9
              dsimp only at hJ9 hr9
              rw [hv9] at hP2 hD2 hJ9
              dsimp only at hP2 hD2
              have hJ : II vw.1 i9 := hJ9
              have hP : va_P D vwCl (WX K ad q q1 q2 g r r2 vw i9) H := hP2
              have hD : va_D A (WX K ad q q1 q2 g r r2 vw i9) := hD2
              have hz : rz.toInt = Dk := (Prod.mk.inj (hr9.symm.trans hrs)).2
              refine t_l (i64_of hz) ?_
              refine lv_lmul hx hb dL_geared_186 ?_
              refine t_l (l_mul _ _) ?_
              refine lv_lsub hx hb dL_geared_187 ?_
              refine t_l (l_sub _ _) ?_
              have hod := ofI hodb
              generalize Nk * Dj - Nj * Dk = od at hod0 hodb hodz hod ⊢
              refine lv_lstore (lv' := [(6, .long (Int64.ofInt od)), (0, .ref (ad 0)), (1, .int (nI me)), (2, .int (nI (gN v.1))), (3, .int (nI (dn v.1 8 2))), (4, .int (nI k)), (5, .int (nI (gF v.1 k)))]) hx hb dL_geared_188 hl (by decide) rfl (fun ls hl => ?_)
              have hNk9 := ofI (show Nk.natAbs ≤ 100000000000000 by omega)
              have hNj9 := ofI (show Nj.natAbs ≤ 100000000000000 by omega)
              by_cases ho : od = 0
              · by_cases hs1 : 0 < Nj
                · by_cases hs2 : Nk < 0
                  · refine lv_lload hx hb dL_geared_190 (lv_at hl 0 rfl) ?_
                    refine lv_lconst (v := 0) hx hb dL_geared_192 (by decide) ?_
                    refine b_lcmp_lt hx hb rfl (show (0 : Int64).toInt = 0 by decide) dL_geared_193 dL_geared_194 (tgt := 217) (by decide) (fun c193 => absurd c193 (by rw [hod]; omega)) (fun c193 => ?_)
                    refine lv_lload hx hb dL_geared_197 (lv_at hl 0 rfl) ?_
                    refine lv_lconst (v := 0) hx hb dL_geared_199 (by decide) ?_
                    refine b_lcmp_ne hx hb rfl (show (0 : Int64).toInt = 0 by decide) dL_geared_200 dL_geared_201 (tgt := 219) (by decide) (fun c200 => absurd c200 (by rw [hod]; omega)) (fun c200 => ?_)
                    refine lv_aload_n hx hb dL_geared_204 rfl (lv_at hl 1 rfl) ?_
                    refine lv_iload hx hb dL_geared_205 (lv_at hl 5 rfl) ?_
                    refine lv_iconst (v := nI 1) hx hb dL_geared_207 (by decide) ?_
                    refine lv_isub hx hb dL_geared_208 ?_
                    refine t_i (pk_sub (by omega)) ?_
                    have hG64j := (gF_isG (show k - 1 < gN v.1 by omega)).2
                    have hrs : rs_gear vw.1 (nI (k - 1)) = (0, ((gF v.1 (k - 1) : Nat) : Int)) := (rsE_gear hE (by omega))
                    have hFc := freeAll hD hS hA
                    refine vx_calli (vx_runV (As := [.int (nI (k - 1))]) (rest := []) ⟨hx, hb, hml, hown, hts⟩ (c_X6_gear l hlf D K ad q q1 q2 g r r2 vw i9 (nI (k - 1)) H.size hI hJ) (cwV 1 hts (TB_V k_m_L_58 k_im_X6_gear k_se_X6_gear k_in_X6 k_co_X6_gear (fun _ h => h)) rfl rfl rfl (by decide +kernel) ⟨Nat.le_of_ble_eq_true rfl, Nat.le_of_ble_eq_true rfl⟩) ⟨cPT_blind, va_recv hK hP (ci := 6) (q0 := 0) rfl rfl, cPT_of hP hK hD hTX hS hFc⟩ rfl rfl hl.1 rfl (lv_room (Nat.le_of_ble_eq_true rfl)) dL_geared_209 ⟨(show (((((8 + k * 40 + e9 * 2) + 1) + 1) + 1) + 1) + 1 ≤ 2600 by omega), (show (((((48 + k * 240 + e9 * 12) + 6) + 6) + 6) + 6) + 6 ≤ 15600 by omega)⟩) hS (fun q _ h => hFc q h) hFc (fun q _ h => hFc q h) (fun E ce q9 u9 t9 H locs ht9 hal hpx hB hz1 hk1 hS hce hcv hcl => ?_) (fun rz u9 t9 H locs ht9 hal hw hB hz1 hk1 hS => ?_)
                    · exact absurd hB.1.1 (by rw [hrs]; exact Nat.lt_irrefl 0)
                    obtain ⟨v9, i9⟩ := u9
                    obtain ⟨hP1, hK1, hD1⟩ := hB
                    rw [ht9] at hP1
                    have hP2 := hP1
                    have hD2 := hD1.weaken (fun _ _ _ h => hFc _ h)
                    obtain ⟨hv9, hJ9, hr9⟩ := hw
                    have hv9 : v9 = vw := hv9
                    dsimp only at hJ9 hr9
                    rw [hv9] at hP2 hD2 hJ9
                    dsimp only at hP2 hD2
                    have hJ : II vw.1 i9 := hJ9
                    have hP : va_P D vwCl (WX K ad q q1 q2 g r r2 vw i9) H := hP2
                    have hD : va_D A (WX K ad q q1 q2 g r r2 vw i9) := hD2
                    have hz : rz.toInt = ((gF v.1 (k - 1) : Nat) : Int) := (Prod.mk.inj (hr9.symm.trans hrs)).2
                    refine t_i ((i32_eq rz (nI (gF v.1 (k - 1)))).mpr (by rw [nI_toIntI (by omega)]; exact hz)) ?_
                    refine lv_iload hx hb dL_geared_212 (lv_at hl 6 rfl) ?_
                    refine b_icmp_lt hx hb (nI_toIntI (by omega)) (nI_toIntI (by omega)) dL_geared_214 (tgt := 219) (by decide) (fun c214 => ?_) (fun c214 => absurd c214 (by have := hodz ho; omega))
                    refine lv_lload hx hb dL_geared_219 (lv_at hl 0 rfl) ?_
                    refine lv_lconst (v := 0) hx hb dL_geared_221 (by decide) ?_
                    refine b_lcmp_le hx hb rfl (show (0 : Int64).toInt = 0 by decide) dL_geared_222 dL_geared_223 (tgt := 253) (by decide) (fun c222 => ?_) (fun c222 => absurd c222 (by rw [hod]; omega))
                    refine lv_aload_n hx hb dL_geared_253 rfl (lv_at hl 1 rfl) ?_
                    refine lv_iload hx hb dL_geared_254 (lv_at hl 5 rfl) ?_
                    refine lv_iconst (v := nI 0) hx hb dL_geared_256 (by decide) ?_
                    have hrs : rs_gearRatio vw.1 (nI k) (nI 0) = (0, Nk) := ((rsE_gearRatio hE hkg).1.trans (by rw [hq1]))
                    have hFc := freeAll hD hS hA
                    refine vx_calll (vx_runV (As := [.int (nI k), .int (nI 0)]) (rest := []) ⟨hx, hb, hml, hown, hts⟩ (c_X6_gearRatio l hlf D K ad q q1 q2 g r r2 vw i9 (nI k) (nI 0) H.size hI hJ) (cwV 2 hts (TB_V k_m_L_117 k_im_X6_gearRatio k_se_X6_gearRatio k_in_X6 k_co_X6_gearRatio (fun _ h => h)) rfl rfl rfl (by decide +kernel) ⟨Nat.le_of_ble_eq_true rfl, Nat.le_of_ble_eq_true rfl⟩) ⟨cPT_blind, va_recv hK hP (ci := 6) (q0 := 0) rfl rfl, cPT_of hP hK hD hTX hS hFc⟩ rfl rfl hl.1 rfl (lv_room (Nat.le_of_ble_eq_true rfl)) dL_geared_257 ⟨(show ((((((8 + k * 40 + e9 * 2) + 1) + 1) + 1) + 1) + 1) + 1 ≤ 2600 by omega), (show ((((((48 + k * 240 + e9 * 12) + 6) + 6) + 6) + 6) + 6) + 6 ≤ 15600 by omega)⟩) hS (fun q _ h => hFc q h) hFc (fun q _ h => hFc q h) (fun E ce q9 u9 t9 H locs ht9 hal hpx hB hz1 hk1 hS hce hcv hcl => ?_) (fun rz u9 t9 H locs ht9 hal hw hB hz1 hk1 hS => ?_)
                    · exact absurd hB.1.1 (by rw [hrs]; exact Nat.lt_irrefl 0)
                    obtain ⟨v9, i9⟩ := u9
                    obtain ⟨hP1, hK1, hD1⟩ := hB
                    rw [ht9] at hP1
                    have hP2 := hP1
                    have hD2 := hD1.weaken (fun _ _ _ h => hFc _ h)
                    obtain ⟨hv9, hJ9, hr9⟩ := hw
                    have hv9 : v9 = vw := hv9
                    dsimp only at hJ9 hr9
                    rw [hv9] at hP2 hD2 hJ9
                    dsimp only at hP2 hD2
                    have hJ : II vw.1 i9 := hJ9
                    have hP : va_P D vwCl (WX K ad q q1 q2 g r r2 vw i9) H := hP2
                    have hD : va_D A (WX K ad q q1 q2 g r r2 vw i9) := hD2
                    have hz : rz.toInt = Nk := (Prod.mk.inj (hr9.symm.trans hrs)).2
                    refine t_l (i64_of hz) ?_
                    refine lv_lconst (v := 0) hx hb dL_geared_260 (by decide) ?_
                    refine b_lcmp_ge hx hb rfl (show (0 : Int64).toInt = 0 by decide) dL_geared_261 dL_geared_262 (tgt := 278) (by decide) (fun c261 => absurd c261 (by rw [hNk9]; omega)) (fun c261 => ?_)
                    refine lv_aload_n hx hb dL_geared_265 rfl (lv_at hl 1 rfl) ?_
                    refine lv_iload hx hb dL_geared_266 (lv_at hl 5 rfl) ?_
                    refine lv_iconst (v := nI 1) hx hb dL_geared_268 (by decide) ?_
                    refine lv_isub hx hb dL_geared_269 ?_
                    refine t_i (pk_sub (by omega)) ?_
                    have hrs : rs_step vw.1 (nI (k - 1)) = (0, FP.fdiv (fqS (SP v.1 (gF v.1 k))) (fqS (SP v.1 (gF v.1 (k - 1))))) := ((rsE_step hE hk2).trans (by rw [hkk]))
                    have hFc := freeAll hD hS hA
                    refine vx_callf (vx_runV (As := [.int (nI (k - 1))]) (rest := []) ⟨hx, hb, hml, hown, hts⟩ (c_X6_step l hlf D K ad q q1 q2 g r r2 vw i9 (nI (k - 1)) H.size hI hJ) (cwV 1 hts (TB_V k_m_L_120 k_im_X6_step k_se_X6_step k_in_X6 k_co_X6_step (fun _ h => h)) rfl rfl rfl (by decide +kernel) ⟨Nat.le_of_ble_eq_true rfl, Nat.le_of_ble_eq_true rfl⟩) ⟨cPT_blind, va_recv hK hP (ci := 6) (q0 := 0) rfl rfl, cPT_of hP hK hD hTX hS hFc⟩ rfl rfl hl.1 rfl (lv_room (Nat.le_of_ble_eq_true rfl)) dL_geared_270 ⟨(show (((((((8 + k * 40 + e9 * 2) + 1) + 1) + 1) + 1) + 1) + 1) + 1 ≤ 2600 by omega), (show (((((((48 + k * 240 + e9 * 12) + 6) + 6) + 6) + 6) + 6) + 6) + 6 ≤ 15600 by omega)⟩) hS (fun q _ h => hFc q h) hFc (fun q _ h => hFc q h) (fun E ce q9 u9 t9 H locs ht9 hal hpx hB hz1 hk1 hS hce hcv hcl => ?_) (fun rz u9 t9 H locs ht9 hal hw hB hz1 hk1 hS => ?_)
                    · exact absurd hB.1.1 (by rw [hrs]; exact Nat.lt_irrefl 0)
                    obtain ⟨v9, i9⟩ := u9
                    obtain ⟨hP1, hK1, hD1⟩ := hB
                    rw [ht9] at hP1
                    have hP2 := hP1
                    have hD2 := hD1.weaken (fun _ _ _ h => hFc _ h)
                    obtain ⟨hv9, hJ9, hr9⟩ := hw
                    have hv9 : v9 = vw := hv9
                    dsimp only at hJ9 hr9
                    rw [hv9] at hP2 hD2 hJ9
                    dsimp only at hP2 hD2
                    have hJ : II vw.1 i9 := hJ9
                    have hP : va_P D vwCl (WX K ad q q1 q2 g r r2 vw i9) H := hP2
                    have hD : va_D A (WX K ad q q1 q2 g r r2 vw i9) := hD2
                    have hz : rz = FP.fdiv (fqS (SP v.1 (gF v.1 k))) (fqS (SP v.1 (gF v.1 (k - 1)))) := (Prod.mk.inj (hr9.2.symm.trans hrs)).2
                    refine lv_fconst1 hx hb dL_geared_273 ?_
                    refine lv_fcmp hx hb dL_geared_274 ?_
                    refine b_if_gt hx hb rfl dL_geared_275 (tgt := 317) (by decide) (fun c275 => absurd c275 (by rw [hz]; exact cmpv_ngt (sf2 hs2))) (fun c275 => ?_)
                    refine lv_aload_n hx hb dL_geared_278 rfl (lv_at hl 1 rfl) ?_
                    refine lv_iload hx hb dL_geared_279 (lv_at hl 5 rfl) ?_
                    refine lv_iconst (v := nI 1) hx hb dL_geared_281 (by decide) ?_
                    refine lv_isub hx hb dL_geared_282 ?_
                    refine t_i (pk_sub (by omega)) ?_
                    refine lv_iconst (v := nI 0) hx hb dL_geared_283 (by decide) ?_
                    have hrs : rs_gearRatio vw.1 (nI (k - 1)) (nI 0) = (0, Nj) := ((rsE_gearRatio hE (show k - 1 < gN v.1 by omega)).1.trans (by rw [hq3]))
                    have hFc := freeAll hD hS hA
                    refine vx_calll (vx_runV (As := [.int (nI (k - 1)), .int (nI 0)]) (rest := []) ⟨hx, hb, hml, hown, hts⟩ (c_X6_gearRatio l hlf D K ad q q1 q2 g r r2 vw i9 (nI (k - 1)) (nI 0) H.size hI hJ) (cwV 2 hts (TB_V k_m_L_117 k_im_X6_gearRatio k_se_X6_gearRatio k_in_X6 k_co_X6_gearRatio (fun _ h => h)) rfl rfl rfl (by decide +kernel) ⟨Nat.le_of_ble_eq_true rfl, Nat.le_of_ble_eq_true rfl⟩) ⟨cPT_blind, va_recv hK hP (ci := 6) (q0 := 0) rfl rfl, cPT_of hP hK hD hTX hS hFc⟩ rfl rfl hl.1 rfl (lv_room (Nat.le_of_ble_eq_true rfl)) dL_geared_284 ⟨(show ((((((((8 + k * 40 + e9 * 2) + 1) + 1) + 1) + 1) + 1) + 1) + 1) + 1 ≤ 2600 by omega), (show ((((((((48 + k * 240 + e9 * 12) + 6) + 6) + 6) + 6) + 6) + 6) + 6) + 6 ≤ 15600 by omega)⟩) hS (fun q _ h => hFc q h) hFc (fun q _ h => hFc q h) (fun E ce q9 u9 t9 H locs ht9 hal hpx hB hz1 hk1 hS hce hcv hcl => ?_) (fun rz u9 t9 H locs ht9 hal hw hB hz1 hk1 hS => ?_)
                    · exact absurd hB.1.1 (by rw [hrs]; exact Nat.lt_irrefl 0)
                    obtain ⟨v9, i9⟩ := u9
                    obtain ⟨hP1, hK1, hD1⟩ := hB
                    rw [ht9] at hP1
                    have hP2 := hP1
                    have hD2 := hD1.weaken (fun _ _ _ h => hFc _ h)
                    obtain ⟨hv9, hJ9, hr9⟩ := hw
                    have hv9 : v9 = vw := hv9
                    dsimp only at hJ9 hr9
                    rw [hv9] at hP2 hD2 hJ9
                    dsimp only at hP2 hD2
                    have hJ : II vw.1 i9 := hJ9
                    have hP : va_P D vwCl (WX K ad q q1 q2 g r r2 vw i9) H := hP2
                    have hD : va_D A (WX K ad q q1 q2 g r r2 vw i9) := hD2
                    have hz : rz.toInt = Nj := (Prod.mk.inj (hr9.symm.trans hrs)).2
                    refine t_l (i64_of hz) ?_
                    refine lv_lconst (v := 0) hx hb dL_geared_287 (by decide) ?_
                    refine b_lcmp_ge hx hb rfl (show (0 : Int64).toInt = 0 by decide) dL_geared_288 dL_geared_289 (tgt := 319) (by decide) (fun c288 => ?_) (fun c288 => absurd c288 (by rw [hNj9]; omega))
                    refine lv_iinc (v := nI (k + 1)) (lv' := [(4, .int (nI (k + 1))), (6, .long (Int64.ofInt od)), (0, .ref (ad 0)), (1, .int (nI me)), (2, .int (nI (gN v.1))), (3, .int (nI (dn v.1 8 2))), (5, .int (nI (gF v.1 k)))]) hx hb dL_geared_319 hl (k := 5) rfl (nI_add k 1) (by decide) rfl (fun ls hl => ?_)
                    refine lv_goto (tgt := 14) hx hb dL_geared_322 (by decide) ?_
                    refine W.widen (k := 1 + (k + 1) * 40) (n := 6 + (k + 1) * 240) (by omega) (by omega) ?_
                    exact ih14 vw i9 (k + 1) (gF v.1 k) _ _ _ (by omega) hI hJ hE (by omega) hP hD hS (lv_sub hl [2, 3, 4, 5, 0] rfl)
                  · refine lv_lload hx hb dL_geared_190 (lv_at hl 0 rfl) ?_
                    refine lv_lconst (v := 0) hx hb dL_geared_192 (by decide) ?_
                    refine b_lcmp_lt hx hb rfl (show (0 : Int64).toInt = 0 by decide) dL_geared_193 dL_geared_194 (tgt := 217) (by decide) (fun c193 => absurd c193 (by rw [hod]; omega)) (fun c193 => ?_)
                    refine lv_lload hx hb dL_geared_197 (lv_at hl 0 rfl) ?_
                    refine lv_lconst (v := 0) hx hb dL_geared_199 (by decide) ?_
                    refine b_lcmp_ne hx hb rfl (show (0 : Int64).toInt = 0 by decide) dL_geared_200 dL_geared_201 (tgt := 219) (by decide) (fun c200 => absurd c200 (by rw [hod]; omega)) (fun c200 => ?_)
                    refine lv_aload_n hx hb dL_geared_204 rfl (lv_at hl 1 rfl) ?_
                    refine lv_iload hx hb dL_geared_205 (lv_at hl 5 rfl) ?_
                    refine lv_iconst (v := nI 1) hx hb dL_geared_207 (by decide) ?_
                    refine lv_isub hx hb dL_geared_208 ?_
                    refine t_i (pk_sub (by omega)) ?_
                    have hG64j := (gF_isG (show k - 1 < gN v.1 by omega)).2
                    have hrs : rs_gear vw.1 (nI (k - 1)) = (0, ((gF v.1 (k - 1) : Nat) : Int)) := (rsE_gear hE (by omega))
                    have hFc := freeAll hD hS hA
                    refine vx_calli (vx_runV (As := [.int (nI (k - 1))]) (rest := []) ⟨hx, hb, hml, hown, hts⟩ (c_X6_gear l hlf D K ad q q1 q2 g r r2 vw i9 (nI (k - 1)) H.size hI hJ) (cwV 1 hts (TB_V k_m_L_58 k_im_X6_gear k_se_X6_gear k_in_X6 k_co_X6_gear (fun _ h => h)) rfl rfl rfl (by decide +kernel) ⟨Nat.le_of_ble_eq_true rfl, Nat.le_of_ble_eq_true rfl⟩) ⟨cPT_blind, va_recv hK hP (ci := 6) (q0 := 0) rfl rfl, cPT_of hP hK hD hTX hS hFc⟩ rfl rfl hl.1 rfl (lv_room (Nat.le_of_ble_eq_true rfl)) dL_geared_209 ⟨(show (((((8 + k * 40 + e9 * 2) + 1) + 1) + 1) + 1) + 1 ≤ 2600 by omega), (show (((((48 + k * 240 + e9 * 12) + 6) + 6) + 6) + 6) + 6 ≤ 15600 by omega)⟩) hS (fun q _ h => hFc q h) hFc (fun q _ h => hFc q h) (fun E ce q9 u9 t9 H locs ht9 hal hpx hB hz1 hk1 hS hce hcv hcl => ?_) (fun rz u9 t9 H locs ht9 hal hw hB hz1 hk1 hS => ?_)
                    · exact absurd hB.1.1 (by rw [hrs]; exact Nat.lt_irrefl 0)
                    obtain ⟨v9, i9⟩ := u9
                    obtain ⟨hP1, hK1, hD1⟩ := hB
                    rw [ht9] at hP1
                    have hP2 := hP1
                    have hD2 := hD1.weaken (fun _ _ _ h => hFc _ h)
                    obtain ⟨hv9, hJ9, hr9⟩ := hw
                    have hv9 : v9 = vw := hv9
                    dsimp only at hJ9 hr9
                    rw [hv9] at hP2 hD2 hJ9
                    dsimp only at hP2 hD2
                    have hJ : II vw.1 i9 := hJ9
                    have hP : va_P D vwCl (WX K ad q q1 q2 g r r2 vw i9) H := hP2
                    have hD : va_D A (WX K ad q q1 q2 g r r2 vw i9) := hD2
                    have hz : rz.toInt = ((gF v.1 (k - 1) : Nat) : Int) := (Prod.mk.inj (hr9.symm.trans hrs)).2
                    refine t_i ((i32_eq rz (nI (gF v.1 (k - 1)))).mpr (by rw [nI_toIntI (by omega)]; exact hz)) ?_
                    refine lv_iload hx hb dL_geared_212 (lv_at hl 6 rfl) ?_
                    refine b_icmp_lt hx hb (nI_toIntI (by omega)) (nI_toIntI (by omega)) dL_geared_214 (tgt := 219) (by decide) (fun c214 => ?_) (fun c214 => absurd c214 (by have := hodz ho; omega))
                    refine lv_lload hx hb dL_geared_219 (lv_at hl 0 rfl) ?_
                    refine lv_lconst (v := 0) hx hb dL_geared_221 (by decide) ?_
                    refine b_lcmp_le hx hb rfl (show (0 : Int64).toInt = 0 by decide) dL_geared_222 dL_geared_223 (tgt := 253) (by decide) (fun c222 => ?_) (fun c222 => absurd c222 (by rw [hod]; omega))
                    refine lv_aload_n hx hb dL_geared_253 rfl (lv_at hl 1 rfl) ?_
                    refine lv_iload hx hb dL_geared_254 (lv_at hl 5 rfl) ?_
                    refine lv_iconst (v := nI 0) hx hb dL_geared_256 (by decide) ?_
                    have hrs : rs_gearRatio vw.1 (nI k) (nI 0) = (0, Nk) := ((rsE_gearRatio hE hkg).1.trans (by rw [hq1]))
                    have hFc := freeAll hD hS hA
                    refine vx_calll (vx_runV (As := [.int (nI k), .int (nI 0)]) (rest := []) ⟨hx, hb, hml, hown, hts⟩ (c_X6_gearRatio l hlf D K ad q q1 q2 g r r2 vw i9 (nI k) (nI 0) H.size hI hJ) (cwV 2 hts (TB_V k_m_L_117 k_im_X6_gearRatio k_se_X6_gearRatio k_in_X6 k_co_X6_gearRatio (fun _ h => h)) rfl rfl rfl (by decide +kernel) ⟨Nat.le_of_ble_eq_true rfl, Nat.le_of_ble_eq_true rfl⟩) ⟨cPT_blind, va_recv hK hP (ci := 6) (q0 := 0) rfl rfl, cPT_of hP hK hD hTX hS hFc⟩ rfl rfl hl.1 rfl (lv_room (Nat.le_of_ble_eq_true rfl)) dL_geared_257 ⟨(show ((((((8 + k * 40 + e9 * 2) + 1) + 1) + 1) + 1) + 1) + 1 ≤ 2600 by omega), (show ((((((48 + k * 240 + e9 * 12) + 6) + 6) + 6) + 6) + 6) + 6 ≤ 15600 by omega)⟩) hS (fun q _ h => hFc q h) hFc (fun q _ h => hFc q h) (fun E ce q9 u9 t9 H locs ht9 hal hpx hB hz1 hk1 hS hce hcv hcl => ?_) (fun rz u9 t9 H locs ht9 hal hw hB hz1 hk1 hS => ?_)
                    · exact absurd hB.1.1 (by rw [hrs]; exact Nat.lt_irrefl 0)
                    obtain ⟨v9, i9⟩ := u9
                    obtain ⟨hP1, hK1, hD1⟩ := hB
                    rw [ht9] at hP1
                    have hP2 := hP1
                    have hD2 := hD1.weaken (fun _ _ _ h => hFc _ h)
                    obtain ⟨hv9, hJ9, hr9⟩ := hw
                    have hv9 : v9 = vw := hv9
                    dsimp only at hJ9 hr9
                    rw [hv9] at hP2 hD2 hJ9
                    dsimp only at hP2 hD2
                    have hJ : II vw.1 i9 := hJ9
                    have hP : va_P D vwCl (WX K ad q q1 q2 g r r2 vw i9) H := hP2
                    have hD : va_D A (WX K ad q q1 q2 g r r2 vw i9) := hD2
                    have hz : rz.toInt = Nk := (Prod.mk.inj (hr9.symm.trans hrs)).2
                    refine t_l (i64_of hz) ?_
                    refine lv_lconst (v := 0) hx hb dL_geared_260 (by decide) ?_
                    refine b_lcmp_ge hx hb rfl (show (0 : Int64).toInt = 0 by decide) dL_geared_261 dL_geared_262 (tgt := 278) (by decide) (fun c261 => ?_) (fun c261 => absurd c261 (by rw [hNk9]; omega))
                    refine lv_aload_n hx hb dL_geared_278 rfl (lv_at hl 1 rfl) ?_
                    refine lv_iload hx hb dL_geared_279 (lv_at hl 5 rfl) ?_
                    refine lv_iconst (v := nI 1) hx hb dL_geared_281 (by decide) ?_
                    refine lv_isub hx hb dL_geared_282 ?_
                    refine t_i (pk_sub (by omega)) ?_
                    refine lv_iconst (v := nI 0) hx hb dL_geared_283 (by decide) ?_
                    have hrs : rs_gearRatio vw.1 (nI (k - 1)) (nI 0) = (0, Nj) := ((rsE_gearRatio hE (show k - 1 < gN v.1 by omega)).1.trans (by rw [hq3]))
                    have hFc := freeAll hD hS hA
                    refine vx_calll (vx_runV (As := [.int (nI (k - 1)), .int (nI 0)]) (rest := []) ⟨hx, hb, hml, hown, hts⟩ (c_X6_gearRatio l hlf D K ad q q1 q2 g r r2 vw i9 (nI (k - 1)) (nI 0) H.size hI hJ) (cwV 2 hts (TB_V k_m_L_117 k_im_X6_gearRatio k_se_X6_gearRatio k_in_X6 k_co_X6_gearRatio (fun _ h => h)) rfl rfl rfl (by decide +kernel) ⟨Nat.le_of_ble_eq_true rfl, Nat.le_of_ble_eq_true rfl⟩) ⟨cPT_blind, va_recv hK hP (ci := 6) (q0 := 0) rfl rfl, cPT_of hP hK hD hTX hS hFc⟩ rfl rfl hl.1 rfl (lv_room (Nat.le_of_ble_eq_true rfl)) dL_geared_284 ⟨(show (((((((8 + k * 40 + e9 * 2) + 1) + 1) + 1) + 1) + 1) + 1) + 1 ≤ 2600 by omega), (show (((((((48 + k * 240 + e9 * 12) + 6) + 6) + 6) + 6) + 6) + 6) + 6 ≤ 15600 by omega)⟩) hS (fun q _ h => hFc q h) hFc (fun q _ h => hFc q h) (fun E ce q9 u9 t9 H locs ht9 hal hpx hB hz1 hk1 hS hce hcv hcl => ?_) (fun rz u9 t9 H locs ht9 hal hw hB hz1 hk1 hS => ?_)
                    · exact absurd hB.1.1 (by rw [hrs]; exact Nat.lt_irrefl 0)
                    obtain ⟨v9, i9⟩ := u9
                    obtain ⟨hP1, hK1, hD1⟩ := hB
                    rw [ht9] at hP1
                    have hP2 := hP1
                    have hD2 := hD1.weaken (fun _ _ _ h => hFc _ h)
                    obtain ⟨hv9, hJ9, hr9⟩ := hw
                    have hv9 : v9 = vw := hv9
                    dsimp only at hJ9 hr9
                    rw [hv9] at hP2 hD2 hJ9
                    dsimp only at hP2 hD2
                    have hJ : II vw.1 i9 := hJ9
                    have hP : va_P D vwCl (WX K ad q q1 q2 g r r2 vw i9) H := hP2
                    have hD : va_D A (WX K ad q q1 q2 g r r2 vw i9) := hD2
                    have hz : rz.toInt = Nj := (Prod.mk.inj (hr9.symm.trans hrs)).2
                    refine t_l (i64_of hz) ?_
                    refine lv_lconst (v := 0) hx hb dL_geared_287 (by decide) ?_
                    refine b_lcmp_ge hx hb rfl (show (0 : Int64).toInt = 0 by decide) dL_geared_288 dL_geared_289 (tgt := 319) (by decide) (fun c288 => ?_) (fun c288 => absurd c288 (by rw [hNj9]; omega))
                    refine lv_iinc (v := nI (k + 1)) (lv' := [(4, .int (nI (k + 1))), (6, .long (Int64.ofInt od)), (0, .ref (ad 0)), (1, .int (nI me)), (2, .int (nI (gN v.1))), (3, .int (nI (dn v.1 8 2))), (5, .int (nI (gF v.1 k)))]) hx hb dL_geared_319 hl (k := 5) rfl (nI_add k 1) (by decide) rfl (fun ls hl => ?_)
                    refine lv_goto (tgt := 14) hx hb dL_geared_322 (by decide) ?_
                    refine W.widen (k := 1 + (k + 1) * 40) (n := 6 + (k + 1) * 240) (by omega) (by omega) ?_
                    exact ih14 vw i9 (k + 1) (gF v.1 k) _ _ _ (by omega) hI hJ hE (by omega) hP hD hS (lv_sub hl [2, 3, 4, 5, 0] rfl)
                · by_cases hs2 : Nk < 0
                  · refine lv_lload hx hb dL_geared_190 (lv_at hl 0 rfl) ?_
                    refine lv_lconst (v := 0) hx hb dL_geared_192 (by decide) ?_
                    refine b_lcmp_lt hx hb rfl (show (0 : Int64).toInt = 0 by decide) dL_geared_193 dL_geared_194 (tgt := 217) (by decide) (fun c193 => absurd c193 (by rw [hod]; omega)) (fun c193 => ?_)
                    refine lv_lload hx hb dL_geared_197 (lv_at hl 0 rfl) ?_
                    refine lv_lconst (v := 0) hx hb dL_geared_199 (by decide) ?_
                    refine b_lcmp_ne hx hb rfl (show (0 : Int64).toInt = 0 by decide) dL_geared_200 dL_geared_201 (tgt := 219) (by decide) (fun c200 => absurd c200 (by rw [hod]; omega)) (fun c200 => ?_)
                    refine lv_aload_n hx hb dL_geared_204 rfl (lv_at hl 1 rfl) ?_
                    refine lv_iload hx hb dL_geared_205 (lv_at hl 5 rfl) ?_
                    refine lv_iconst (v := nI 1) hx hb dL_geared_207 (by decide) ?_
                    refine lv_isub hx hb dL_geared_208 ?_
                    refine t_i (pk_sub (by omega)) ?_
                    have hG64j := (gF_isG (show k - 1 < gN v.1 by omega)).2
                    have hrs : rs_gear vw.1 (nI (k - 1)) = (0, ((gF v.1 (k - 1) : Nat) : Int)) := (rsE_gear hE (by omega))
                    have hFc := freeAll hD hS hA
                    refine vx_calli (vx_runV (As := [.int (nI (k - 1))]) (rest := []) ⟨hx, hb, hml, hown, hts⟩ (c_X6_gear l hlf D K ad q q1 q2 g r r2 vw i9 (nI (k - 1)) H.size hI hJ) (cwV 1 hts (TB_V k_m_L_58 k_im_X6_gear k_se_X6_gear k_in_X6 k_co_X6_gear (fun _ h => h)) rfl rfl rfl (by decide +kernel) ⟨Nat.le_of_ble_eq_true rfl, Nat.le_of_ble_eq_true rfl⟩) ⟨cPT_blind, va_recv hK hP (ci := 6) (q0 := 0) rfl rfl, cPT_of hP hK hD hTX hS hFc⟩ rfl rfl hl.1 rfl (lv_room (Nat.le_of_ble_eq_true rfl)) dL_geared_209 ⟨(show (((((8 + k * 40 + e9 * 2) + 1) + 1) + 1) + 1) + 1 ≤ 2600 by omega), (show (((((48 + k * 240 + e9 * 12) + 6) + 6) + 6) + 6) + 6 ≤ 15600 by omega)⟩) hS (fun q _ h => hFc q h) hFc (fun q _ h => hFc q h) (fun E ce q9 u9 t9 H locs ht9 hal hpx hB hz1 hk1 hS hce hcv hcl => ?_) (fun rz u9 t9 H locs ht9 hal hw hB hz1 hk1 hS => ?_)
                    · exact absurd hB.1.1 (by rw [hrs]; exact Nat.lt_irrefl 0)
                    obtain ⟨v9, i9⟩ := u9
                    obtain ⟨hP1, hK1, hD1⟩ := hB
                    rw [ht9] at hP1
                    have hP2 := hP1
                    have hD2 := hD1.weaken (fun _ _ _ h => hFc _ h)
                    obtain ⟨hv9, hJ9, hr9⟩ := hw
                    have hv9 : v9 = vw := hv9
                    dsimp only at hJ9 hr9
                    rw [hv9] at hP2 hD2 hJ9
                    dsimp only at hP2 hD2
                    have hJ : II vw.1 i9 := hJ9
                    have hP : va_P D vwCl (WX K ad q q1 q2 g r r2 vw i9) H := hP2
                    have hD : va_D A (WX K ad q q1 q2 g r r2 vw i9) := hD2
                    have hz : rz.toInt = ((gF v.1 (k - 1) : Nat) : Int) := (Prod.mk.inj (hr9.symm.trans hrs)).2
                    refine t_i ((i32_eq rz (nI (gF v.1 (k - 1)))).mpr (by rw [nI_toIntI (by omega)]; exact hz)) ?_
                    refine lv_iload hx hb dL_geared_212 (lv_at hl 6 rfl) ?_
                    refine b_icmp_lt hx hb (nI_toIntI (by omega)) (nI_toIntI (by omega)) dL_geared_214 (tgt := 219) (by decide) (fun c214 => ?_) (fun c214 => absurd c214 (by have := hodz ho; omega))
                    refine lv_lload hx hb dL_geared_219 (lv_at hl 0 rfl) ?_
                    refine lv_lconst (v := 0) hx hb dL_geared_221 (by decide) ?_
                    refine b_lcmp_le hx hb rfl (show (0 : Int64).toInt = 0 by decide) dL_geared_222 dL_geared_223 (tgt := 253) (by decide) (fun c222 => ?_) (fun c222 => absurd c222 (by rw [hod]; omega))
                    refine lv_aload_n hx hb dL_geared_253 rfl (lv_at hl 1 rfl) ?_
                    refine lv_iload hx hb dL_geared_254 (lv_at hl 5 rfl) ?_
                    refine lv_iconst (v := nI 0) hx hb dL_geared_256 (by decide) ?_
                    have hrs : rs_gearRatio vw.1 (nI k) (nI 0) = (0, Nk) := ((rsE_gearRatio hE hkg).1.trans (by rw [hq1]))
                    have hFc := freeAll hD hS hA
                    refine vx_calll (vx_runV (As := [.int (nI k), .int (nI 0)]) (rest := []) ⟨hx, hb, hml, hown, hts⟩ (c_X6_gearRatio l hlf D K ad q q1 q2 g r r2 vw i9 (nI k) (nI 0) H.size hI hJ) (cwV 2 hts (TB_V k_m_L_117 k_im_X6_gearRatio k_se_X6_gearRatio k_in_X6 k_co_X6_gearRatio (fun _ h => h)) rfl rfl rfl (by decide +kernel) ⟨Nat.le_of_ble_eq_true rfl, Nat.le_of_ble_eq_true rfl⟩) ⟨cPT_blind, va_recv hK hP (ci := 6) (q0 := 0) rfl rfl, cPT_of hP hK hD hTX hS hFc⟩ rfl rfl hl.1 rfl (lv_room (Nat.le_of_ble_eq_true rfl)) dL_geared_257 ⟨(show ((((((8 + k * 40 + e9 * 2) + 1) + 1) + 1) + 1) + 1) + 1 ≤ 2600 by omega), (show ((((((48 + k * 240 + e9 * 12) + 6) + 6) + 6) + 6) + 6) + 6 ≤ 15600 by omega)⟩) hS (fun q _ h => hFc q h) hFc (fun q _ h => hFc q h) (fun E ce q9 u9 t9 H locs ht9 hal hpx hB hz1 hk1 hS hce hcv hcl => ?_) (fun rz u9 t9 H locs ht9 hal hw hB hz1 hk1 hS => ?_)
                    · exact absurd hB.1.1 (by rw [hrs]; exact Nat.lt_irrefl 0)
                    obtain ⟨v9, i9⟩ := u9
                    obtain ⟨hP1, hK1, hD1⟩ := hB
                    rw [ht9] at hP1
                    have hP2 := hP1
                    have hD2 := hD1.weaken (fun _ _ _ h => hFc _ h)
                    obtain ⟨hv9, hJ9, hr9⟩ := hw
                    have hv9 : v9 = vw := hv9
                    dsimp only at hJ9 hr9
                    rw [hv9] at hP2 hD2 hJ9
                    dsimp only at hP2 hD2
                    have hJ : II vw.1 i9 := hJ9
                    have hP : va_P D vwCl (WX K ad q q1 q2 g r r2 vw i9) H := hP2
                    have hD : va_D A (WX K ad q q1 q2 g r r2 vw i9) := hD2
                    have hz : rz.toInt = Nk := (Prod.mk.inj (hr9.symm.trans hrs)).2
                    refine t_l (i64_of hz) ?_
                    refine lv_lconst (v := 0) hx hb dL_geared_260 (by decide) ?_
                    refine b_lcmp_ge hx hb rfl (show (0 : Int64).toInt = 0 by decide) dL_geared_261 dL_geared_262 (tgt := 278) (by decide) (fun c261 => absurd c261 (by rw [hNk9]; omega)) (fun c261 => ?_)
                    refine lv_aload_n hx hb dL_geared_265 rfl (lv_at hl 1 rfl) ?_
                    refine lv_iload hx hb dL_geared_266 (lv_at hl 5 rfl) ?_
                    refine lv_iconst (v := nI 1) hx hb dL_geared_268 (by decide) ?_
                    refine lv_isub hx hb dL_geared_269 ?_
                    refine t_i (pk_sub (by omega)) ?_
                    have hrs : rs_step vw.1 (nI (k - 1)) = (0, FP.fdiv (fqS (SP v.1 (gF v.1 k))) (fqS (SP v.1 (gF v.1 (k - 1))))) := ((rsE_step hE hk2).trans (by rw [hkk]))
                    have hFc := freeAll hD hS hA
                    refine vx_callf (vx_runV (As := [.int (nI (k - 1))]) (rest := []) ⟨hx, hb, hml, hown, hts⟩ (c_X6_step l hlf D K ad q q1 q2 g r r2 vw i9 (nI (k - 1)) H.size hI hJ) (cwV 1 hts (TB_V k_m_L_120 k_im_X6_step k_se_X6_step k_in_X6 k_co_X6_step (fun _ h => h)) rfl rfl rfl (by decide +kernel) ⟨Nat.le_of_ble_eq_true rfl, Nat.le_of_ble_eq_true rfl⟩) ⟨cPT_blind, va_recv hK hP (ci := 6) (q0 := 0) rfl rfl, cPT_of hP hK hD hTX hS hFc⟩ rfl rfl hl.1 rfl (lv_room (Nat.le_of_ble_eq_true rfl)) dL_geared_270 ⟨(show (((((((8 + k * 40 + e9 * 2) + 1) + 1) + 1) + 1) + 1) + 1) + 1 ≤ 2600 by omega), (show (((((((48 + k * 240 + e9 * 12) + 6) + 6) + 6) + 6) + 6) + 6) + 6 ≤ 15600 by omega)⟩) hS (fun q _ h => hFc q h) hFc (fun q _ h => hFc q h) (fun E ce q9 u9 t9 H locs ht9 hal hpx hB hz1 hk1 hS hce hcv hcl => ?_) (fun rz u9 t9 H locs ht9 hal hw hB hz1 hk1 hS => ?_)
                    · exact absurd hB.1.1 (by rw [hrs]; exact Nat.lt_irrefl 0)
                    obtain ⟨v9, i9⟩ := u9
                    obtain ⟨hP1, hK1, hD1⟩ := hB
                    rw [ht9] at hP1
                    have hP2 := hP1
                    have hD2 := hD1.weaken (fun _ _ _ h => hFc _ h)
                    obtain ⟨hv9, hJ9, hr9⟩ := hw
                    have hv9 : v9 = vw := hv9
                    dsimp only at hJ9 hr9
                    rw [hv9] at hP2 hD2 hJ9
                    dsimp only at hP2 hD2
                    have hJ : II vw.1 i9 := hJ9
                    have hP : va_P D vwCl (WX K ad q q1 q2 g r r2 vw i9) H := hP2
                    have hD : va_D A (WX K ad q q1 q2 g r r2 vw i9) := hD2
                    have hz : rz = FP.fdiv (fqS (SP v.1 (gF v.1 k))) (fqS (SP v.1 (gF v.1 (k - 1)))) := (Prod.mk.inj (hr9.2.symm.trans hrs)).2
                    refine lv_fconst1 hx hb dL_geared_273 ?_
                    refine lv_fcmp hx hb dL_geared_274 ?_
                    refine b_if_gt hx hb rfl dL_geared_275 (tgt := 317) (by decide) (fun c275 => absurd c275 (by rw [hz]; exact cmpv_ngt (sf2 hs2))) (fun c275 => ?_)
                    refine lv_aload_n hx hb dL_geared_278 rfl (lv_at hl 1 rfl) ?_
                    refine lv_iload hx hb dL_geared_279 (lv_at hl 5 rfl) ?_
                    refine lv_iconst (v := nI 1) hx hb dL_geared_281 (by decide) ?_
                    refine lv_isub hx hb dL_geared_282 ?_
                    refine t_i (pk_sub (by omega)) ?_
                    refine lv_iconst (v := nI 0) hx hb dL_geared_283 (by decide) ?_
                    have hrs : rs_gearRatio vw.1 (nI (k - 1)) (nI 0) = (0, Nj) := ((rsE_gearRatio hE (show k - 1 < gN v.1 by omega)).1.trans (by rw [hq3]))
                    have hFc := freeAll hD hS hA
                    refine vx_calll (vx_runV (As := [.int (nI (k - 1)), .int (nI 0)]) (rest := []) ⟨hx, hb, hml, hown, hts⟩ (c_X6_gearRatio l hlf D K ad q q1 q2 g r r2 vw i9 (nI (k - 1)) (nI 0) H.size hI hJ) (cwV 2 hts (TB_V k_m_L_117 k_im_X6_gearRatio k_se_X6_gearRatio k_in_X6 k_co_X6_gearRatio (fun _ h => h)) rfl rfl rfl (by decide +kernel) ⟨Nat.le_of_ble_eq_true rfl, Nat.le_of_ble_eq_true rfl⟩) ⟨cPT_blind, va_recv hK hP (ci := 6) (q0 := 0) rfl rfl, cPT_of hP hK hD hTX hS hFc⟩ rfl rfl hl.1 rfl (lv_room (Nat.le_of_ble_eq_true rfl)) dL_geared_284 ⟨(show ((((((((8 + k * 40 + e9 * 2) + 1) + 1) + 1) + 1) + 1) + 1) + 1) + 1 ≤ 2600 by omega), (show ((((((((48 + k * 240 + e9 * 12) + 6) + 6) + 6) + 6) + 6) + 6) + 6) + 6 ≤ 15600 by omega)⟩) hS (fun q _ h => hFc q h) hFc (fun q _ h => hFc q h) (fun E ce q9 u9 t9 H locs ht9 hal hpx hB hz1 hk1 hS hce hcv hcl => ?_) (fun rz u9 t9 H locs ht9 hal hw hB hz1 hk1 hS => ?_)
                    · exact absurd hB.1.1 (by rw [hrs]; exact Nat.lt_irrefl 0)
                    obtain ⟨v9, i9⟩ := u9
                    obtain ⟨hP1, hK1, hD1⟩ := hB
                    rw [ht9] at hP1
                    have hP2 := hP1
                    have hD2 := hD1.weaken (fun _ _ _ h => hFc _ h)
                    obtain ⟨hv9, hJ9, hr9⟩ := hw
                    have hv9 : v9 = vw := hv9
                    dsimp only at hJ9 hr9
                    rw [hv9] at hP2 hD2 hJ9
                    dsimp only at hP2 hD2
                    have hJ : II vw.1 i9 := hJ9
                    have hP : va_P D vwCl (WX K ad q q1 q2 g r r2 vw i9) H := hP2
                    have hD : va_D A (WX K ad q q1 q2 g r r2 vw i9) := hD2
                    have hz : rz.toInt = Nj := (Prod.mk.inj (hr9.symm.trans hrs)).2
                    refine t_l (i64_of hz) ?_
                    refine lv_lconst (v := 0) hx hb dL_geared_287 (by decide) ?_
                    refine b_lcmp_ge hx hb rfl (show (0 : Int64).toInt = 0 by decide) dL_geared_288 dL_geared_289 (tgt := 319) (by decide) (fun c288 => absurd c288 (by rw [hNj9]; omega)) (fun c288 => ?_)
                    refine lv_aload_n hx hb dL_geared_292 rfl (lv_at hl 1 rfl) ?_
                    refine lv_iload hx hb dL_geared_293 (lv_at hl 5 rfl) ?_
                    refine lv_iconst (v := nI 0) hx hb dL_geared_295 (by decide) ?_
                    have hrs : rs_gearRatio vw.1 (nI k) (nI 0) = (0, Nk) := ((rsE_gearRatio hE hkg).1.trans (by rw [hq1]))
                    have hFc := freeAll hD hS hA
                    refine vx_calll (vx_runV (As := [.int (nI k), .int (nI 0)]) (rest := []) ⟨hx, hb, hml, hown, hts⟩ (c_X6_gearRatio l hlf D K ad q q1 q2 g r r2 vw i9 (nI k) (nI 0) H.size hI hJ) (cwV 2 hts (TB_V k_m_L_117 k_im_X6_gearRatio k_se_X6_gearRatio k_in_X6 k_co_X6_gearRatio (fun _ h => h)) rfl rfl rfl (by decide +kernel) ⟨Nat.le_of_ble_eq_true rfl, Nat.le_of_ble_eq_true rfl⟩) ⟨cPT_blind, va_recv hK hP (ci := 6) (q0 := 0) rfl rfl, cPT_of hP hK hD hTX hS hFc⟩ rfl rfl hl.1 rfl (lv_room (Nat.le_of_ble_eq_true rfl)) dL_geared_296 ⟨(show (((((((((8 + k * 40 + e9 * 2) + 1) + 1) + 1) + 1) + 1) + 1) + 1) + 1) + 1 ≤ 2600 by omega), (show (((((((((48 + k * 240 + e9 * 12) + 6) + 6) + 6) + 6) + 6) + 6) + 6) + 6) + 6 ≤ 15600 by omega)⟩) hS (fun q _ h => hFc q h) hFc (fun q _ h => hFc q h) (fun E ce q9 u9 t9 H locs ht9 hal hpx hB hz1 hk1 hS hce hcv hcl => ?_) (fun rz u9 t9 H locs ht9 hal hw hB hz1 hk1 hS => ?_)
                    · exact absurd hB.1.1 (by rw [hrs]; exact Nat.lt_irrefl 0)
                    obtain ⟨v9, i9⟩ := u9
                    obtain ⟨hP1, hK1, hD1⟩ := hB
                    rw [ht9] at hP1
                    have hP2 := hP1
                    have hD2 := hD1.weaken (fun _ _ _ h => hFc _ h)
                    obtain ⟨hv9, hJ9, hr9⟩ := hw
                    have hv9 : v9 = vw := hv9
                    dsimp only at hJ9 hr9
                    rw [hv9] at hP2 hD2 hJ9
                    dsimp only at hP2 hD2
                    have hJ : II vw.1 i9 := hJ9
                    have hP : va_P D vwCl (WX K ad q q1 q2 g r r2 vw i9) H := hP2
                    have hD : va_D A (WX K ad q q1 q2 g r r2 vw i9) := hD2
                    have hz : rz.toInt = Nk := (Prod.mk.inj (hr9.symm.trans hrs)).2
                    refine t_l (i64_of hz) ?_
                    refine lv_lconst (v := 0) hx hb dL_geared_299 (by decide) ?_
                    refine b_lcmp_le hx hb rfl (show (0 : Int64).toInt = 0 by decide) dL_geared_300 dL_geared_301 (tgt := 319) (by decide) (fun c300 => ?_) (fun c300 => absurd c300 (by rw [hNk9]; omega))
                    refine lv_iinc (v := nI (k + 1)) (lv' := [(4, .int (nI (k + 1))), (6, .long (Int64.ofInt od)), (0, .ref (ad 0)), (1, .int (nI me)), (2, .int (nI (gN v.1))), (3, .int (nI (dn v.1 8 2))), (5, .int (nI (gF v.1 k)))]) hx hb dL_geared_319 hl (k := 5) rfl (nI_add k 1) (by decide) rfl (fun ls hl => ?_)
                    refine lv_goto (tgt := 14) hx hb dL_geared_322 (by decide) ?_
                    refine W.widen (k := 1 + (k + 1) * 40) (n := 6 + (k + 1) * 240) (by omega) (by omega) ?_
                    exact ih14 vw i9 (k + 1) (gF v.1 k) _ _ _ (by omega) hI hJ hE (by omega) hP hD hS (lv_sub hl [2, 3, 4, 5, 0] rfl)
                  · refine lv_lload hx hb dL_geared_190 (lv_at hl 0 rfl) ?_
                    refine lv_lconst (v := 0) hx hb dL_geared_192 (by decide) ?_
                    refine b_lcmp_lt hx hb rfl (show (0 : Int64).toInt = 0 by decide) dL_geared_193 dL_geared_194 (tgt := 217) (by decide) (fun c193 => absurd c193 (by rw [hod]; omega)) (fun c193 => ?_)
                    refine lv_lload hx hb dL_geared_197 (lv_at hl 0 rfl) ?_
                    refine lv_lconst (v := 0) hx hb dL_geared_199 (by decide) ?_
                    refine b_lcmp_ne hx hb rfl (show (0 : Int64).toInt = 0 by decide) dL_geared_200 dL_geared_201 (tgt := 219) (by decide) (fun c200 => absurd c200 (by rw [hod]; omega)) (fun c200 => ?_)
                    refine lv_aload_n hx hb dL_geared_204 rfl (lv_at hl 1 rfl) ?_
                    refine lv_iload hx hb dL_geared_205 (lv_at hl 5 rfl) ?_
                    refine lv_iconst (v := nI 1) hx hb dL_geared_207 (by decide) ?_
                    refine lv_isub hx hb dL_geared_208 ?_
                    refine t_i (pk_sub (by omega)) ?_
                    have hG64j := (gF_isG (show k - 1 < gN v.1 by omega)).2
                    have hrs : rs_gear vw.1 (nI (k - 1)) = (0, ((gF v.1 (k - 1) : Nat) : Int)) := (rsE_gear hE (by omega))
                    have hFc := freeAll hD hS hA
                    refine vx_calli (vx_runV (As := [.int (nI (k - 1))]) (rest := []) ⟨hx, hb, hml, hown, hts⟩ (c_X6_gear l hlf D K ad q q1 q2 g r r2 vw i9 (nI (k - 1)) H.size hI hJ) (cwV 1 hts (TB_V k_m_L_58 k_im_X6_gear k_se_X6_gear k_in_X6 k_co_X6_gear (fun _ h => h)) rfl rfl rfl (by decide +kernel) ⟨Nat.le_of_ble_eq_true rfl, Nat.le_of_ble_eq_true rfl⟩) ⟨cPT_blind, va_recv hK hP (ci := 6) (q0 := 0) rfl rfl, cPT_of hP hK hD hTX hS hFc⟩ rfl rfl hl.1 rfl (lv_room (Nat.le_of_ble_eq_true rfl)) dL_geared_209 ⟨(show (((((8 + k * 40 + e9 * 2) + 1) + 1) + 1) + 1) + 1 ≤ 2600 by omega), (show (((((48 + k * 240 + e9 * 12) + 6) + 6) + 6) + 6) + 6 ≤ 15600 by omega)⟩) hS (fun q _ h => hFc q h) hFc (fun q _ h => hFc q h) (fun E ce q9 u9 t9 H locs ht9 hal hpx hB hz1 hk1 hS hce hcv hcl => ?_) (fun rz u9 t9 H locs ht9 hal hw hB hz1 hk1 hS => ?_)
                    · exact absurd hB.1.1 (by rw [hrs]; exact Nat.lt_irrefl 0)
                    obtain ⟨v9, i9⟩ := u9
                    obtain ⟨hP1, hK1, hD1⟩ := hB
                    rw [ht9] at hP1
                    have hP2 := hP1
                    have hD2 := hD1.weaken (fun _ _ _ h => hFc _ h)
                    obtain ⟨hv9, hJ9, hr9⟩ := hw
                    have hv9 : v9 = vw := hv9
                    dsimp only at hJ9 hr9
                    rw [hv9] at hP2 hD2 hJ9
                    dsimp only at hP2 hD2
                    have hJ : II vw.1 i9 := hJ9
                    have hP : va_P D vwCl (WX K ad q q1 q2 g r r2 vw i9) H := hP2
                    have hD : va_D A (WX K ad q q1 q2 g r r2 vw i9) := hD2
                    have hz : rz.toInt = ((gF v.1 (k - 1) : Nat) : Int) := (Prod.mk.inj (hr9.symm.trans hrs)).2
                    refine t_i ((i32_eq rz (nI (gF v.1 (k - 1)))).mpr (by rw [nI_toIntI (by omega)]; exact hz)) ?_
                    refine lv_iload hx hb dL_geared_212 (lv_at hl 6 rfl) ?_
                    refine b_icmp_lt hx hb (nI_toIntI (by omega)) (nI_toIntI (by omega)) dL_geared_214 (tgt := 219) (by decide) (fun c214 => ?_) (fun c214 => absurd c214 (by have := hodz ho; omega))
                    refine lv_lload hx hb dL_geared_219 (lv_at hl 0 rfl) ?_
                    refine lv_lconst (v := 0) hx hb dL_geared_221 (by decide) ?_
                    refine b_lcmp_le hx hb rfl (show (0 : Int64).toInt = 0 by decide) dL_geared_222 dL_geared_223 (tgt := 253) (by decide) (fun c222 => ?_) (fun c222 => absurd c222 (by rw [hod]; omega))
                    refine lv_aload_n hx hb dL_geared_253 rfl (lv_at hl 1 rfl) ?_
                    refine lv_iload hx hb dL_geared_254 (lv_at hl 5 rfl) ?_
                    refine lv_iconst (v := nI 0) hx hb dL_geared_256 (by decide) ?_
                    have hrs : rs_gearRatio vw.1 (nI k) (nI 0) = (0, Nk) := ((rsE_gearRatio hE hkg).1.trans (by rw [hq1]))
                    have hFc := freeAll hD hS hA
                    refine vx_calll (vx_runV (As := [.int (nI k), .int (nI 0)]) (rest := []) ⟨hx, hb, hml, hown, hts⟩ (c_X6_gearRatio l hlf D K ad q q1 q2 g r r2 vw i9 (nI k) (nI 0) H.size hI hJ) (cwV 2 hts (TB_V k_m_L_117 k_im_X6_gearRatio k_se_X6_gearRatio k_in_X6 k_co_X6_gearRatio (fun _ h => h)) rfl rfl rfl (by decide +kernel) ⟨Nat.le_of_ble_eq_true rfl, Nat.le_of_ble_eq_true rfl⟩) ⟨cPT_blind, va_recv hK hP (ci := 6) (q0 := 0) rfl rfl, cPT_of hP hK hD hTX hS hFc⟩ rfl rfl hl.1 rfl (lv_room (Nat.le_of_ble_eq_true rfl)) dL_geared_257 ⟨(show ((((((8 + k * 40 + e9 * 2) + 1) + 1) + 1) + 1) + 1) + 1 ≤ 2600 by omega), (show ((((((48 + k * 240 + e9 * 12) + 6) + 6) + 6) + 6) + 6) + 6 ≤ 15600 by omega)⟩) hS (fun q _ h => hFc q h) hFc (fun q _ h => hFc q h) (fun E ce q9 u9 t9 H locs ht9 hal hpx hB hz1 hk1 hS hce hcv hcl => ?_) (fun rz u9 t9 H locs ht9 hal hw hB hz1 hk1 hS => ?_)
                    · exact absurd hB.1.1 (by rw [hrs]; exact Nat.lt_irrefl 0)
                    obtain ⟨v9, i9⟩ := u9
                    obtain ⟨hP1, hK1, hD1⟩ := hB
                    rw [ht9] at hP1
                    have hP2 := hP1
                    have hD2 := hD1.weaken (fun _ _ _ h => hFc _ h)
                    obtain ⟨hv9, hJ9, hr9⟩ := hw
                    have hv9 : v9 = vw := hv9
                    dsimp only at hJ9 hr9
                    rw [hv9] at hP2 hD2 hJ9
                    dsimp only at hP2 hD2
                    have hJ : II vw.1 i9 := hJ9
                    have hP : va_P D vwCl (WX K ad q q1 q2 g r r2 vw i9) H := hP2
                    have hD : va_D A (WX K ad q q1 q2 g r r2 vw i9) := hD2
                    have hz : rz.toInt = Nk := (Prod.mk.inj (hr9.symm.trans hrs)).2
                    refine t_l (i64_of hz) ?_
                    refine lv_lconst (v := 0) hx hb dL_geared_260 (by decide) ?_
                    refine b_lcmp_ge hx hb rfl (show (0 : Int64).toInt = 0 by decide) dL_geared_261 dL_geared_262 (tgt := 278) (by decide) (fun c261 => ?_) (fun c261 => absurd c261 (by rw [hNk9]; omega))
                    refine lv_aload_n hx hb dL_geared_278 rfl (lv_at hl 1 rfl) ?_
                    refine lv_iload hx hb dL_geared_279 (lv_at hl 5 rfl) ?_
                    refine lv_iconst (v := nI 1) hx hb dL_geared_281 (by decide) ?_
                    refine lv_isub hx hb dL_geared_282 ?_
                    refine t_i (pk_sub (by omega)) ?_
                    refine lv_iconst (v := nI 0) hx hb dL_geared_283 (by decide) ?_
                    have hrs : rs_gearRatio vw.1 (nI (k - 1)) (nI 0) = (0, Nj) := ((rsE_gearRatio hE (show k - 1 < gN v.1 by omega)).1.trans (by rw [hq3]))
                    have hFc := freeAll hD hS hA
                    refine vx_calll (vx_runV (As := [.int (nI (k - 1)), .int (nI 0)]) (rest := []) ⟨hx, hb, hml, hown, hts⟩ (c_X6_gearRatio l hlf D K ad q q1 q2 g r r2 vw i9 (nI (k - 1)) (nI 0) H.size hI hJ) (cwV 2 hts (TB_V k_m_L_117 k_im_X6_gearRatio k_se_X6_gearRatio k_in_X6 k_co_X6_gearRatio (fun _ h => h)) rfl rfl rfl (by decide +kernel) ⟨Nat.le_of_ble_eq_true rfl, Nat.le_of_ble_eq_true rfl⟩) ⟨cPT_blind, va_recv hK hP (ci := 6) (q0 := 0) rfl rfl, cPT_of hP hK hD hTX hS hFc⟩ rfl rfl hl.1 rfl (lv_room (Nat.le_of_ble_eq_true rfl)) dL_geared_284 ⟨(show (((((((8 + k * 40 + e9 * 2) + 1) + 1) + 1) + 1) + 1) + 1) + 1 ≤ 2600 by omega), (show (((((((48 + k * 240 + e9 * 12) + 6) + 6) + 6) + 6) + 6) + 6) + 6 ≤ 15600 by omega)⟩) hS (fun q _ h => hFc q h) hFc (fun q _ h => hFc q h) (fun E ce q9 u9 t9 H locs ht9 hal hpx hB hz1 hk1 hS hce hcv hcl => ?_) (fun rz u9 t9 H locs ht9 hal hw hB hz1 hk1 hS => ?_)
                    · exact absurd hB.1.1 (by rw [hrs]; exact Nat.lt_irrefl 0)
                    obtain ⟨v9, i9⟩ := u9
                    obtain ⟨hP1, hK1, hD1⟩ := hB
                    rw [ht9] at hP1
                    have hP2 := hP1
                    have hD2 := hD1.weaken (fun _ _ _ h => hFc _ h)
                    obtain ⟨hv9, hJ9, hr9⟩ := hw
                    have hv9 : v9 = vw := hv9
                    dsimp only at hJ9 hr9
                    rw [hv9] at hP2 hD2 hJ9
                    dsimp only at hP2 hD2
                    have hJ : II vw.1 i9 := hJ9
                    have hP : va_P D vwCl (WX K ad q q1 q2 g r r2 vw i9) H := hP2
                    have hD : va_D A (WX K ad q q1 q2 g r r2 vw i9) := hD2
                    have hz : rz.toInt = Nj := (Prod.mk.inj (hr9.symm.trans hrs)).2
                    refine t_l (i64_of hz) ?_
                    refine lv_lconst (v := 0) hx hb dL_geared_287 (by decide) ?_
                    refine b_lcmp_ge hx hb rfl (show (0 : Int64).toInt = 0 by decide) dL_geared_288 dL_geared_289 (tgt := 319) (by decide) (fun c288 => absurd c288 (by rw [hNj9]; omega)) (fun c288 => ?_)
                    refine lv_aload_n hx hb dL_geared_292 rfl (lv_at hl 1 rfl) ?_
                    refine lv_iload hx hb dL_geared_293 (lv_at hl 5 rfl) ?_
                    refine lv_iconst (v := nI 0) hx hb dL_geared_295 (by decide) ?_
                    have hrs : rs_gearRatio vw.1 (nI k) (nI 0) = (0, Nk) := ((rsE_gearRatio hE hkg).1.trans (by rw [hq1]))
                    have hFc := freeAll hD hS hA
                    refine vx_calll (vx_runV (As := [.int (nI k), .int (nI 0)]) (rest := []) ⟨hx, hb, hml, hown, hts⟩ (c_X6_gearRatio l hlf D K ad q q1 q2 g r r2 vw i9 (nI k) (nI 0) H.size hI hJ) (cwV 2 hts (TB_V k_m_L_117 k_im_X6_gearRatio k_se_X6_gearRatio k_in_X6 k_co_X6_gearRatio (fun _ h => h)) rfl rfl rfl (by decide +kernel) ⟨Nat.le_of_ble_eq_true rfl, Nat.le_of_ble_eq_true rfl⟩) ⟨cPT_blind, va_recv hK hP (ci := 6) (q0 := 0) rfl rfl, cPT_of hP hK hD hTX hS hFc⟩ rfl rfl hl.1 rfl (lv_room (Nat.le_of_ble_eq_true rfl)) dL_geared_296 ⟨(show ((((((((8 + k * 40 + e9 * 2) + 1) + 1) + 1) + 1) + 1) + 1) + 1) + 1 ≤ 2600 by omega), (show ((((((((48 + k * 240 + e9 * 12) + 6) + 6) + 6) + 6) + 6) + 6) + 6) + 6 ≤ 15600 by omega)⟩) hS (fun q _ h => hFc q h) hFc (fun q _ h => hFc q h) (fun E ce q9 u9 t9 H locs ht9 hal hpx hB hz1 hk1 hS hce hcv hcl => ?_) (fun rz u9 t9 H locs ht9 hal hw hB hz1 hk1 hS => ?_)
                    · exact absurd hB.1.1 (by rw [hrs]; exact Nat.lt_irrefl 0)
                    obtain ⟨v9, i9⟩ := u9
                    obtain ⟨hP1, hK1, hD1⟩ := hB
                    rw [ht9] at hP1
                    have hP2 := hP1
                    have hD2 := hD1.weaken (fun _ _ _ h => hFc _ h)
                    obtain ⟨hv9, hJ9, hr9⟩ := hw
                    have hv9 : v9 = vw := hv9
                    dsimp only at hJ9 hr9
                    rw [hv9] at hP2 hD2 hJ9
                    dsimp only at hP2 hD2
                    have hJ : II vw.1 i9 := hJ9
                    have hP : va_P D vwCl (WX K ad q q1 q2 g r r2 vw i9) H := hP2
                    have hD : va_D A (WX K ad q q1 q2 g r r2 vw i9) := hD2
                    have hz : rz.toInt = Nk := (Prod.mk.inj (hr9.symm.trans hrs)).2
                    refine t_l (i64_of hz) ?_
                    refine lv_lconst (v := 0) hx hb dL_geared_299 (by decide) ?_
                    refine b_lcmp_le hx hb rfl (show (0 : Int64).toInt = 0 by decide) dL_geared_300 dL_geared_301 (tgt := 319) (by decide) (fun c300 => absurd c300 (by rw [hNk9]; omega)) (fun c300 => ?_)
                    refine lv_aload_n hx hb dL_geared_304 rfl (lv_at hl 1 rfl) ?_
                    refine lv_iload hx hb dL_geared_305 (lv_at hl 5 rfl) ?_
                    refine lv_iconst (v := nI 1) hx hb dL_geared_307 (by decide) ?_
                    refine lv_isub hx hb dL_geared_308 ?_
                    refine t_i (pk_sub (by omega)) ?_
                    have hrs : rs_step vw.1 (nI (k - 1)) = (0, FP.fdiv (fqS (SP v.1 (gF v.1 k))) (fqS (SP v.1 (gF v.1 (k - 1))))) := ((rsE_step hE hk2).trans (by rw [hkk]))
                    have hFc := freeAll hD hS hA
                    refine vx_callf (vx_runV (As := [.int (nI (k - 1))]) (rest := []) ⟨hx, hb, hml, hown, hts⟩ (c_X6_step l hlf D K ad q q1 q2 g r r2 vw i9 (nI (k - 1)) H.size hI hJ) (cwV 1 hts (TB_V k_m_L_120 k_im_X6_step k_se_X6_step k_in_X6 k_co_X6_step (fun _ h => h)) rfl rfl rfl (by decide +kernel) ⟨Nat.le_of_ble_eq_true rfl, Nat.le_of_ble_eq_true rfl⟩) ⟨cPT_blind, va_recv hK hP (ci := 6) (q0 := 0) rfl rfl, cPT_of hP hK hD hTX hS hFc⟩ rfl rfl hl.1 rfl (lv_room (Nat.le_of_ble_eq_true rfl)) dL_geared_309 ⟨(show (((((((((8 + k * 40 + e9 * 2) + 1) + 1) + 1) + 1) + 1) + 1) + 1) + 1) + 1 ≤ 2600 by omega), (show (((((((((48 + k * 240 + e9 * 12) + 6) + 6) + 6) + 6) + 6) + 6) + 6) + 6) + 6 ≤ 15600 by omega)⟩) hS (fun q _ h => hFc q h) hFc (fun q _ h => hFc q h) (fun E ce q9 u9 t9 H locs ht9 hal hpx hB hz1 hk1 hS hce hcv hcl => ?_) (fun rz u9 t9 H locs ht9 hal hw hB hz1 hk1 hS => ?_)
                    · exact absurd hB.1.1 (by rw [hrs]; exact Nat.lt_irrefl 0)
                    obtain ⟨v9, i9⟩ := u9
                    obtain ⟨hP1, hK1, hD1⟩ := hB
                    rw [ht9] at hP1
                    have hP2 := hP1
                    have hD2 := hD1.weaken (fun _ _ _ h => hFc _ h)
                    obtain ⟨hv9, hJ9, hr9⟩ := hw
                    have hv9 : v9 = vw := hv9
                    dsimp only at hJ9 hr9
                    rw [hv9] at hP2 hD2 hJ9
                    dsimp only at hP2 hD2
                    have hJ : II vw.1 i9 := hJ9
                    have hP : va_P D vwCl (WX K ad q q1 q2 g r r2 vw i9) H := hP2
                    have hD : va_D A (WX K ad q q1 q2 g r r2 vw i9) := hD2
                    have hz : rz = FP.fdiv (fqS (SP v.1 (gF v.1 k))) (fqS (SP v.1 (gF v.1 (k - 1)))) := (Prod.mk.inj (hr9.2.symm.trans hrs)).2
                    refine lv_fconst0 hx hb dL_geared_312 ?_
                    refine lv_fcmp hx hb dL_geared_313 ?_
                    refine b_if_lt hx hb rfl dL_geared_314 (tgt := 319) (by decide) (fun c314 => ?_) (fun c314 => absurd c314 (Int.not_le.mpr (by rw [hz]; exact cmpv_lt (sf3 (by omega) (by omega)))))
                    refine lv_iinc (v := nI (k + 1)) (lv' := [(4, .int (nI (k + 1))), (6, .long (Int64.ofInt od)), (0, .ref (ad 0)), (1, .int (nI me)), (2, .int (nI (gN v.1))), (3, .int (nI (dn v.1 8 2))), (5, .int (nI (gF v.1 k)))]) hx hb dL_geared_319 hl (k := 5) rfl (nI_add k 1) (by decide) rfl (fun ls hl => ?_)
                    refine lv_goto (tgt := 14) hx hb dL_geared_322 (by decide) ?_
                    refine W.widen (k := 1 + (k + 1) * 40) (n := 6 + (k + 1) * 240) (by omega) (by omega) ?_
                    exact ih14 vw i9 (k + 1) (gF v.1 k) _ _ _ (by omega) hI hJ hE (by omega) hP hD hS (lv_sub hl [2, 3, 4, 5, 0] rfl)
              · by_cases hs1 : 0 < Nj
                · by_cases hs2 : Nk < 0
                  · refine lv_lload hx hb dL_geared_190 (lv_at hl 0 rfl) ?_
                    refine lv_lconst (v := 0) hx hb dL_geared_192 (by decide) ?_
                    refine b_lcmp_lt hx hb rfl (show (0 : Int64).toInt = 0 by decide) dL_geared_193 dL_geared_194 (tgt := 217) (by decide) (fun c193 => absurd c193 (by rw [hod]; omega)) (fun c193 => ?_)
                    refine lv_lload hx hb dL_geared_197 (lv_at hl 0 rfl) ?_
                    refine lv_lconst (v := 0) hx hb dL_geared_199 (by decide) ?_
                    refine b_lcmp_ne hx hb rfl (show (0 : Int64).toInt = 0 by decide) dL_geared_200 dL_geared_201 (tgt := 219) (by decide) (fun c200 => ?_) (fun c200 => absurd c200 (by rw [hod]; omega))
                    refine lv_lload hx hb dL_geared_219 (lv_at hl 0 rfl) ?_
                    refine lv_lconst (v := 0) hx hb dL_geared_221 (by decide) ?_
                    refine b_lcmp_le hx hb rfl (show (0 : Int64).toInt = 0 by decide) dL_geared_222 dL_geared_223 (tgt := 253) (by decide) (fun c222 => absurd c222 (by rw [hod]; omega)) (fun c222 => ?_)
                    refine lv_aload_n hx hb dL_geared_226 rfl (lv_at hl 1 rfl) ?_
                    refine lv_iload hx hb dL_geared_227 (lv_at hl 5 rfl) ?_
                    refine lv_iconst (v := nI 1) hx hb dL_geared_229 (by decide) ?_
                    refine lv_isub hx hb dL_geared_230 ?_
                    refine t_i (pk_sub (by omega)) ?_
                    refine lv_iconst (v := nI 0) hx hb dL_geared_231 (by decide) ?_
                    have hrs : rs_gearRatio vw.1 (nI (k - 1)) (nI 0) = (0, Nj) := ((rsE_gearRatio hE (show k - 1 < gN v.1 by omega)).1.trans (by rw [hq3]))
                    have hFc := freeAll hD hS hA
                    refine vx_calll (vx_runV (As := [.int (nI (k - 1)), .int (nI 0)]) (rest := []) ⟨hx, hb, hml, hown, hts⟩ (c_X6_gearRatio l hlf D K ad q q1 q2 g r r2 vw i9 (nI (k - 1)) (nI 0) H.size hI hJ) (cwV 2 hts (TB_V k_m_L_117 k_im_X6_gearRatio k_se_X6_gearRatio k_in_X6 k_co_X6_gearRatio (fun _ h => h)) rfl rfl rfl (by decide +kernel) ⟨Nat.le_of_ble_eq_true rfl, Nat.le_of_ble_eq_true rfl⟩) ⟨cPT_blind, va_recv hK hP (ci := 6) (q0 := 0) rfl rfl, cPT_of hP hK hD hTX hS hFc⟩ rfl rfl hl.1 rfl (lv_room (Nat.le_of_ble_eq_true rfl)) dL_geared_232 ⟨(show (((((8 + k * 40 + e9 * 2) + 1) + 1) + 1) + 1) + 1 ≤ 2600 by omega), (show (((((48 + k * 240 + e9 * 12) + 6) + 6) + 6) + 6) + 6 ≤ 15600 by omega)⟩) hS (fun q _ h => hFc q h) hFc (fun q _ h => hFc q h) (fun E ce q9 u9 t9 H locs ht9 hal hpx hB hz1 hk1 hS hce hcv hcl => ?_) (fun rz u9 t9 H locs ht9 hal hw hB hz1 hk1 hS => ?_)
                    · exact absurd hB.1.1 (by rw [hrs]; exact Nat.lt_irrefl 0)
                    obtain ⟨v9, i9⟩ := u9
                    obtain ⟨hP1, hK1, hD1⟩ := hB
                    rw [ht9] at hP1
                    have hP2 := hP1
                    have hD2 := hD1.weaken (fun _ _ _ h => hFc _ h)
                    obtain ⟨hv9, hJ9, hr9⟩ := hw
                    have hv9 : v9 = vw := hv9
                    dsimp only at hJ9 hr9
                    rw [hv9] at hP2 hD2 hJ9
                    dsimp only at hP2 hD2
                    have hJ : II vw.1 i9 := hJ9
                    have hP : va_P D vwCl (WX K ad q q1 q2 g r r2 vw i9) H := hP2
                    have hD : va_D A (WX K ad q q1 q2 g r r2 vw i9) := hD2
                    have hz : rz.toInt = Nj := (Prod.mk.inj (hr9.symm.trans hrs)).2
                    refine t_l (i64_of hz) ?_
                    refine lv_lconst (v := 0) hx hb dL_geared_235 (by decide) ?_
                    refine b_lcmp_le hx hb rfl (show (0 : Int64).toInt = 0 by decide) dL_geared_236 dL_geared_237 (tgt := 253) (by decide) (fun c236 => absurd c236 (by rw [hNj9]; omega)) (fun c236 => ?_)
                    refine lv_aload_n hx hb dL_geared_240 rfl (lv_at hl 1 rfl) ?_
                    refine lv_iload hx hb dL_geared_241 (lv_at hl 5 rfl) ?_
                    refine lv_iconst (v := nI 1) hx hb dL_geared_243 (by decide) ?_
                    refine lv_isub hx hb dL_geared_244 ?_
                    refine t_i (pk_sub (by omega)) ?_
                    have hrs : rs_step vw.1 (nI (k - 1)) = (0, FP.fdiv (fqS (SP v.1 (gF v.1 k))) (fqS (SP v.1 (gF v.1 (k - 1))))) := ((rsE_step hE hk2).trans (by rw [hkk]))
                    have hFc := freeAll hD hS hA
                    refine vx_callf (vx_runV (As := [.int (nI (k - 1))]) (rest := []) ⟨hx, hb, hml, hown, hts⟩ (c_X6_step l hlf D K ad q q1 q2 g r r2 vw i9 (nI (k - 1)) H.size hI hJ) (cwV 1 hts (TB_V k_m_L_120 k_im_X6_step k_se_X6_step k_in_X6 k_co_X6_step (fun _ h => h)) rfl rfl rfl (by decide +kernel) ⟨Nat.le_of_ble_eq_true rfl, Nat.le_of_ble_eq_true rfl⟩) ⟨cPT_blind, va_recv hK hP (ci := 6) (q0 := 0) rfl rfl, cPT_of hP hK hD hTX hS hFc⟩ rfl rfl hl.1 rfl (lv_room (Nat.le_of_ble_eq_true rfl)) dL_geared_245 ⟨(show ((((((8 + k * 40 + e9 * 2) + 1) + 1) + 1) + 1) + 1) + 1 ≤ 2600 by omega), (show ((((((48 + k * 240 + e9 * 12) + 6) + 6) + 6) + 6) + 6) + 6 ≤ 15600 by omega)⟩) hS (fun q _ h => hFc q h) hFc (fun q _ h => hFc q h) (fun E ce q9 u9 t9 H locs ht9 hal hpx hB hz1 hk1 hS hce hcv hcl => ?_) (fun rz u9 t9 H locs ht9 hal hw hB hz1 hk1 hS => ?_)
                    · exact absurd hB.1.1 (by rw [hrs]; exact Nat.lt_irrefl 0)
                    obtain ⟨v9, i9⟩ := u9
                    obtain ⟨hP1, hK1, hD1⟩ := hB
                    rw [ht9] at hP1
                    have hP2 := hP1
                    have hD2 := hD1.weaken (fun _ _ _ h => hFc _ h)
                    obtain ⟨hv9, hJ9, hr9⟩ := hw
                    have hv9 : v9 = vw := hv9
                    dsimp only at hJ9 hr9
                    rw [hv9] at hP2 hD2 hJ9
                    dsimp only at hP2 hD2
                    have hJ : II vw.1 i9 := hJ9
                    have hP : va_P D vwCl (WX K ad q q1 q2 g r r2 vw i9) H := hP2
                    have hD : va_D A (WX K ad q q1 q2 g r r2 vw i9) := hD2
                    have hz : rz = FP.fdiv (fqS (SP v.1 (gF v.1 k))) (fqS (SP v.1 (gF v.1 (k - 1)))) := (Prod.mk.inj (hr9.2.symm.trans hrs)).2
                    refine lv_fconst1 hx hb dL_geared_248 ?_
                    refine lv_fcmp hx hb dL_geared_249 ?_
                    refine b_if_lt hx hb rfl dL_geared_250 (tgt := 317) (by decide) (fun c250 => absurd c250 (by rw [hz]; exact cmpv_nlt (sf1 hs1))) (fun c250 => ?_)
                    refine lv_aload_n hx hb dL_geared_253 rfl (lv_at hl 1 rfl) ?_
                    refine lv_iload hx hb dL_geared_254 (lv_at hl 5 rfl) ?_
                    refine lv_iconst (v := nI 0) hx hb dL_geared_256 (by decide) ?_
                    have hrs : rs_gearRatio vw.1 (nI k) (nI 0) = (0, Nk) := ((rsE_gearRatio hE hkg).1.trans (by rw [hq1]))
                    have hFc := freeAll hD hS hA
                    refine vx_calll (vx_runV (As := [.int (nI k), .int (nI 0)]) (rest := []) ⟨hx, hb, hml, hown, hts⟩ (c_X6_gearRatio l hlf D K ad q q1 q2 g r r2 vw i9 (nI k) (nI 0) H.size hI hJ) (cwV 2 hts (TB_V k_m_L_117 k_im_X6_gearRatio k_se_X6_gearRatio k_in_X6 k_co_X6_gearRatio (fun _ h => h)) rfl rfl rfl (by decide +kernel) ⟨Nat.le_of_ble_eq_true rfl, Nat.le_of_ble_eq_true rfl⟩) ⟨cPT_blind, va_recv hK hP (ci := 6) (q0 := 0) rfl rfl, cPT_of hP hK hD hTX hS hFc⟩ rfl rfl hl.1 rfl (lv_room (Nat.le_of_ble_eq_true rfl)) dL_geared_257 ⟨(show (((((((8 + k * 40 + e9 * 2) + 1) + 1) + 1) + 1) + 1) + 1) + 1 ≤ 2600 by omega), (show (((((((48 + k * 240 + e9 * 12) + 6) + 6) + 6) + 6) + 6) + 6) + 6 ≤ 15600 by omega)⟩) hS (fun q _ h => hFc q h) hFc (fun q _ h => hFc q h) (fun E ce q9 u9 t9 H locs ht9 hal hpx hB hz1 hk1 hS hce hcv hcl => ?_) (fun rz u9 t9 H locs ht9 hal hw hB hz1 hk1 hS => ?_)
                    · exact absurd hB.1.1 (by rw [hrs]; exact Nat.lt_irrefl 0)
                    obtain ⟨v9, i9⟩ := u9
                    obtain ⟨hP1, hK1, hD1⟩ := hB
                    rw [ht9] at hP1
                    have hP2 := hP1
                    have hD2 := hD1.weaken (fun _ _ _ h => hFc _ h)
                    obtain ⟨hv9, hJ9, hr9⟩ := hw
                    have hv9 : v9 = vw := hv9
                    dsimp only at hJ9 hr9
                    rw [hv9] at hP2 hD2 hJ9
                    dsimp only at hP2 hD2
                    have hJ : II vw.1 i9 := hJ9
                    have hP : va_P D vwCl (WX K ad q q1 q2 g r r2 vw i9) H := hP2
                    have hD : va_D A (WX K ad q q1 q2 g r r2 vw i9) := hD2
                    have hz : rz.toInt = Nk := (Prod.mk.inj (hr9.symm.trans hrs)).2
                    refine t_l (i64_of hz) ?_
                    refine lv_lconst (v := 0) hx hb dL_geared_260 (by decide) ?_
                    refine b_lcmp_ge hx hb rfl (show (0 : Int64).toInt = 0 by decide) dL_geared_261 dL_geared_262 (tgt := 278) (by decide) (fun c261 => absurd c261 (by rw [hNk9]; omega)) (fun c261 => ?_)
                    refine lv_aload_n hx hb dL_geared_265 rfl (lv_at hl 1 rfl) ?_
                    refine lv_iload hx hb dL_geared_266 (lv_at hl 5 rfl) ?_
                    refine lv_iconst (v := nI 1) hx hb dL_geared_268 (by decide) ?_
                    refine lv_isub hx hb dL_geared_269 ?_
                    refine t_i (pk_sub (by omega)) ?_
                    have hrs : rs_step vw.1 (nI (k - 1)) = (0, FP.fdiv (fqS (SP v.1 (gF v.1 k))) (fqS (SP v.1 (gF v.1 (k - 1))))) := ((rsE_step hE hk2).trans (by rw [hkk]))
                    have hFc := freeAll hD hS hA
                    refine vx_callf (vx_runV (As := [.int (nI (k - 1))]) (rest := []) ⟨hx, hb, hml, hown, hts⟩ (c_X6_step l hlf D K ad q q1 q2 g r r2 vw i9 (nI (k - 1)) H.size hI hJ) (cwV 1 hts (TB_V k_m_L_120 k_im_X6_step k_se_X6_step k_in_X6 k_co_X6_step (fun _ h => h)) rfl rfl rfl (by decide +kernel) ⟨Nat.le_of_ble_eq_true rfl, Nat.le_of_ble_eq_true rfl⟩) ⟨cPT_blind, va_recv hK hP (ci := 6) (q0 := 0) rfl rfl, cPT_of hP hK hD hTX hS hFc⟩ rfl rfl hl.1 rfl (lv_room (Nat.le_of_ble_eq_true rfl)) dL_geared_270 ⟨(show ((((((((8 + k * 40 + e9 * 2) + 1) + 1) + 1) + 1) + 1) + 1) + 1) + 1 ≤ 2600 by omega), (show ((((((((48 + k * 240 + e9 * 12) + 6) + 6) + 6) + 6) + 6) + 6) + 6) + 6 ≤ 15600 by omega)⟩) hS (fun q _ h => hFc q h) hFc (fun q _ h => hFc q h) (fun E ce q9 u9 t9 H locs ht9 hal hpx hB hz1 hk1 hS hce hcv hcl => ?_) (fun rz u9 t9 H locs ht9 hal hw hB hz1 hk1 hS => ?_)
                    · exact absurd hB.1.1 (by rw [hrs]; exact Nat.lt_irrefl 0)
                    obtain ⟨v9, i9⟩ := u9
                    obtain ⟨hP1, hK1, hD1⟩ := hB
                    rw [ht9] at hP1
                    have hP2 := hP1
                    have hD2 := hD1.weaken (fun _ _ _ h => hFc _ h)
                    obtain ⟨hv9, hJ9, hr9⟩ := hw
                    have hv9 : v9 = vw := hv9
                    dsimp only at hJ9 hr9
                    rw [hv9] at hP2 hD2 hJ9
                    dsimp only at hP2 hD2
                    have hJ : II vw.1 i9 := hJ9
                    have hP : va_P D vwCl (WX K ad q q1 q2 g r r2 vw i9) H := hP2
                    have hD : va_D A (WX K ad q q1 q2 g r r2 vw i9) := hD2
                    have hz : rz = FP.fdiv (fqS (SP v.1 (gF v.1 k))) (fqS (SP v.1 (gF v.1 (k - 1)))) := (Prod.mk.inj (hr9.2.symm.trans hrs)).2
                    refine lv_fconst1 hx hb dL_geared_273 ?_
                    refine lv_fcmp hx hb dL_geared_274 ?_
                    refine b_if_gt hx hb rfl dL_geared_275 (tgt := 317) (by decide) (fun c275 => absurd c275 (by rw [hz]; exact cmpv_ngt (sf2 hs2))) (fun c275 => ?_)
                    refine lv_aload_n hx hb dL_geared_278 rfl (lv_at hl 1 rfl) ?_
                    refine lv_iload hx hb dL_geared_279 (lv_at hl 5 rfl) ?_
                    refine lv_iconst (v := nI 1) hx hb dL_geared_281 (by decide) ?_
                    refine lv_isub hx hb dL_geared_282 ?_
                    refine t_i (pk_sub (by omega)) ?_
                    refine lv_iconst (v := nI 0) hx hb dL_geared_283 (by decide) ?_
                    have hrs : rs_gearRatio vw.1 (nI (k - 1)) (nI 0) = (0, Nj) := ((rsE_gearRatio hE (show k - 1 < gN v.1 by omega)).1.trans (by rw [hq3]))
                    have hFc := freeAll hD hS hA
                    refine vx_calll (vx_runV (As := [.int (nI (k - 1)), .int (nI 0)]) (rest := []) ⟨hx, hb, hml, hown, hts⟩ (c_X6_gearRatio l hlf D K ad q q1 q2 g r r2 vw i9 (nI (k - 1)) (nI 0) H.size hI hJ) (cwV 2 hts (TB_V k_m_L_117 k_im_X6_gearRatio k_se_X6_gearRatio k_in_X6 k_co_X6_gearRatio (fun _ h => h)) rfl rfl rfl (by decide +kernel) ⟨Nat.le_of_ble_eq_true rfl, Nat.le_of_ble_eq_true rfl⟩) ⟨cPT_blind, va_recv hK hP (ci := 6) (q0 := 0) rfl rfl, cPT_of hP hK hD hTX hS hFc⟩ rfl rfl hl.1 rfl (lv_room (Nat.le_of_ble_eq_true rfl)) dL_geared_284 ⟨(show (((((((((8 + k * 40 + e9 * 2) + 1) + 1) + 1) + 1) + 1) + 1) + 1) + 1) + 1 ≤ 2600 by omega), (show (((((((((48 + k * 240 + e9 * 12) + 6) + 6) + 6) + 6) + 6) + 6) + 6) + 6) + 6 ≤ 15600 by omega)⟩) hS (fun q _ h => hFc q h) hFc (fun q _ h => hFc q h) (fun E ce q9 u9 t9 H locs ht9 hal hpx hB hz1 hk1 hS hce hcv hcl => ?_) (fun rz u9 t9 H locs ht9 hal hw hB hz1 hk1 hS => ?_)
                    · exact absurd hB.1.1 (by rw [hrs]; exact Nat.lt_irrefl 0)
                    obtain ⟨v9, i9⟩ := u9
                    obtain ⟨hP1, hK1, hD1⟩ := hB
                    rw [ht9] at hP1
                    have hP2 := hP1
                    have hD2 := hD1.weaken (fun _ _ _ h => hFc _ h)
                    obtain ⟨hv9, hJ9, hr9⟩ := hw
                    have hv9 : v9 = vw := hv9
                    dsimp only at hJ9 hr9
                    rw [hv9] at hP2 hD2 hJ9
                    dsimp only at hP2 hD2
                    have hJ : II vw.1 i9 := hJ9
                    have hP : va_P D vwCl (WX K ad q q1 q2 g r r2 vw i9) H := hP2
                    have hD : va_D A (WX K ad q q1 q2 g r r2 vw i9) := hD2
                    have hz : rz.toInt = Nj := (Prod.mk.inj (hr9.symm.trans hrs)).2
                    refine t_l (i64_of hz) ?_
                    refine lv_lconst (v := 0) hx hb dL_geared_287 (by decide) ?_
                    refine b_lcmp_ge hx hb rfl (show (0 : Int64).toInt = 0 by decide) dL_geared_288 dL_geared_289 (tgt := 319) (by decide) (fun c288 => ?_) (fun c288 => absurd c288 (by rw [hNj9]; omega))
                    refine lv_iinc (v := nI (k + 1)) (lv' := [(4, .int (nI (k + 1))), (6, .long (Int64.ofInt od)), (0, .ref (ad 0)), (1, .int (nI me)), (2, .int (nI (gN v.1))), (3, .int (nI (dn v.1 8 2))), (5, .int (nI (gF v.1 k)))]) hx hb dL_geared_319 hl (k := 5) rfl (nI_add k 1) (by decide) rfl (fun ls hl => ?_)
                    refine lv_goto (tgt := 14) hx hb dL_geared_322 (by decide) ?_
                    refine W.widen (k := 1 + (k + 1) * 40) (n := 6 + (k + 1) * 240) (by omega) (by omega) ?_
                    exact ih14 vw i9 (k + 1) (gF v.1 k) _ _ _ (by omega) hI hJ hE (by omega) hP hD hS (lv_sub hl [2, 3, 4, 5, 0] rfl)
                  · refine lv_lload hx hb dL_geared_190 (lv_at hl 0 rfl) ?_
                    refine lv_lconst (v := 0) hx hb dL_geared_192 (by decide) ?_
                    refine b_lcmp_lt hx hb rfl (show (0 : Int64).toInt = 0 by decide) dL_geared_193 dL_geared_194 (tgt := 217) (by decide) (fun c193 => absurd c193 (by rw [hod]; omega)) (fun c193 => ?_)
                    refine lv_lload hx hb dL_geared_197 (lv_at hl 0 rfl) ?_
                    refine lv_lconst (v := 0) hx hb dL_geared_199 (by decide) ?_
                    refine b_lcmp_ne hx hb rfl (show (0 : Int64).toInt = 0 by decide) dL_geared_200 dL_geared_201 (tgt := 219) (by decide) (fun c200 => ?_) (fun c200 => absurd c200 (by rw [hod]; omega))
                    refine lv_lload hx hb dL_geared_219 (lv_at hl 0 rfl) ?_
                    refine lv_lconst (v := 0) hx hb dL_geared_221 (by decide) ?_
                    refine b_lcmp_le hx hb rfl (show (0 : Int64).toInt = 0 by decide) dL_geared_222 dL_geared_223 (tgt := 253) (by decide) (fun c222 => absurd c222 (by rw [hod]; omega)) (fun c222 => ?_)
                    refine lv_aload_n hx hb dL_geared_226 rfl (lv_at hl 1 rfl) ?_
                    refine lv_iload hx hb dL_geared_227 (lv_at hl 5 rfl) ?_
                    refine lv_iconst (v := nI 1) hx hb dL_geared_229 (by decide) ?_
                    refine lv_isub hx hb dL_geared_230 ?_
                    refine t_i (pk_sub (by omega)) ?_
                    refine lv_iconst (v := nI 0) hx hb dL_geared_231 (by decide) ?_
                    have hrs : rs_gearRatio vw.1 (nI (k - 1)) (nI 0) = (0, Nj) := ((rsE_gearRatio hE (show k - 1 < gN v.1 by omega)).1.trans (by rw [hq3]))
                    have hFc := freeAll hD hS hA
                    refine vx_calll (vx_runV (As := [.int (nI (k - 1)), .int (nI 0)]) (rest := []) ⟨hx, hb, hml, hown, hts⟩ (c_X6_gearRatio l hlf D K ad q q1 q2 g r r2 vw i9 (nI (k - 1)) (nI 0) H.size hI hJ) (cwV 2 hts (TB_V k_m_L_117 k_im_X6_gearRatio k_se_X6_gearRatio k_in_X6 k_co_X6_gearRatio (fun _ h => h)) rfl rfl rfl (by decide +kernel) ⟨Nat.le_of_ble_eq_true rfl, Nat.le_of_ble_eq_true rfl⟩) ⟨cPT_blind, va_recv hK hP (ci := 6) (q0 := 0) rfl rfl, cPT_of hP hK hD hTX hS hFc⟩ rfl rfl hl.1 rfl (lv_room (Nat.le_of_ble_eq_true rfl)) dL_geared_232 ⟨(show (((((8 + k * 40 + e9 * 2) + 1) + 1) + 1) + 1) + 1 ≤ 2600 by omega), (show (((((48 + k * 240 + e9 * 12) + 6) + 6) + 6) + 6) + 6 ≤ 15600 by omega)⟩) hS (fun q _ h => hFc q h) hFc (fun q _ h => hFc q h) (fun E ce q9 u9 t9 H locs ht9 hal hpx hB hz1 hk1 hS hce hcv hcl => ?_) (fun rz u9 t9 H locs ht9 hal hw hB hz1 hk1 hS => ?_)
                    · exact absurd hB.1.1 (by rw [hrs]; exact Nat.lt_irrefl 0)
                    obtain ⟨v9, i9⟩ := u9
                    obtain ⟨hP1, hK1, hD1⟩ := hB
                    rw [ht9] at hP1
                    have hP2 := hP1
                    have hD2 := hD1.weaken (fun _ _ _ h => hFc _ h)
                    obtain ⟨hv9, hJ9, hr9⟩ := hw
                    have hv9 : v9 = vw := hv9
                    dsimp only at hJ9 hr9
                    rw [hv9] at hP2 hD2 hJ9
                    dsimp only at hP2 hD2
                    have hJ : II vw.1 i9 := hJ9
                    have hP : va_P D vwCl (WX K ad q q1 q2 g r r2 vw i9) H := hP2
                    have hD : va_D A (WX K ad q q1 q2 g r r2 vw i9) := hD2
                    have hz : rz.toInt = Nj := (Prod.mk.inj (hr9.symm.trans hrs)).2
                    refine t_l (i64_of hz) ?_
                    refine lv_lconst (v := 0) hx hb dL_geared_235 (by decide) ?_
                    refine b_lcmp_le hx hb rfl (show (0 : Int64).toInt = 0 by decide) dL_geared_236 dL_geared_237 (tgt := 253) (by decide) (fun c236 => absurd c236 (by rw [hNj9]; omega)) (fun c236 => ?_)
                    refine lv_aload_n hx hb dL_geared_240 rfl (lv_at hl 1 rfl) ?_
                    refine lv_iload hx hb dL_geared_241 (lv_at hl 5 rfl) ?_
                    refine lv_iconst (v := nI 1) hx hb dL_geared_243 (by decide) ?_
                    refine lv_isub hx hb dL_geared_244 ?_
                    refine t_i (pk_sub (by omega)) ?_
                    have hrs : rs_step vw.1 (nI (k - 1)) = (0, FP.fdiv (fqS (SP v.1 (gF v.1 k))) (fqS (SP v.1 (gF v.1 (k - 1))))) := ((rsE_step hE hk2).trans (by rw [hkk]))
                    have hFc := freeAll hD hS hA
                    refine vx_callf (vx_runV (As := [.int (nI (k - 1))]) (rest := []) ⟨hx, hb, hml, hown, hts⟩ (c_X6_step l hlf D K ad q q1 q2 g r r2 vw i9 (nI (k - 1)) H.size hI hJ) (cwV 1 hts (TB_V k_m_L_120 k_im_X6_step k_se_X6_step k_in_X6 k_co_X6_step (fun _ h => h)) rfl rfl rfl (by decide +kernel) ⟨Nat.le_of_ble_eq_true rfl, Nat.le_of_ble_eq_true rfl⟩) ⟨cPT_blind, va_recv hK hP (ci := 6) (q0 := 0) rfl rfl, cPT_of hP hK hD hTX hS hFc⟩ rfl rfl hl.1 rfl (lv_room (Nat.le_of_ble_eq_true rfl)) dL_geared_245 ⟨(show ((((((8 + k * 40 + e9 * 2) + 1) + 1) + 1) + 1) + 1) + 1 ≤ 2600 by omega), (show ((((((48 + k * 240 + e9 * 12) + 6) + 6) + 6) + 6) + 6) + 6 ≤ 15600 by omega)⟩) hS (fun q _ h => hFc q h) hFc (fun q _ h => hFc q h) (fun E ce q9 u9 t9 H locs ht9 hal hpx hB hz1 hk1 hS hce hcv hcl => ?_) (fun rz u9 t9 H locs ht9 hal hw hB hz1 hk1 hS => ?_)
                    · exact absurd hB.1.1 (by rw [hrs]; exact Nat.lt_irrefl 0)
                    obtain ⟨v9, i9⟩ := u9
                    obtain ⟨hP1, hK1, hD1⟩ := hB
                    rw [ht9] at hP1
                    have hP2 := hP1
                    have hD2 := hD1.weaken (fun _ _ _ h => hFc _ h)
                    obtain ⟨hv9, hJ9, hr9⟩ := hw
                    have hv9 : v9 = vw := hv9
                    dsimp only at hJ9 hr9
                    rw [hv9] at hP2 hD2 hJ9
                    dsimp only at hP2 hD2
                    have hJ : II vw.1 i9 := hJ9
                    have hP : va_P D vwCl (WX K ad q q1 q2 g r r2 vw i9) H := hP2
                    have hD : va_D A (WX K ad q q1 q2 g r r2 vw i9) := hD2
                    have hz : rz = FP.fdiv (fqS (SP v.1 (gF v.1 k))) (fqS (SP v.1 (gF v.1 (k - 1)))) := (Prod.mk.inj (hr9.2.symm.trans hrs)).2
                    refine lv_fconst1 hx hb dL_geared_248 ?_
                    refine lv_fcmp hx hb dL_geared_249 ?_
                    refine b_if_lt hx hb rfl dL_geared_250 (tgt := 317) (by decide) (fun c250 => absurd c250 (by rw [hz]; exact cmpv_nlt (sf1 hs1))) (fun c250 => ?_)
                    refine lv_aload_n hx hb dL_geared_253 rfl (lv_at hl 1 rfl) ?_
                    refine lv_iload hx hb dL_geared_254 (lv_at hl 5 rfl) ?_
                    refine lv_iconst (v := nI 0) hx hb dL_geared_256 (by decide) ?_
                    have hrs : rs_gearRatio vw.1 (nI k) (nI 0) = (0, Nk) := ((rsE_gearRatio hE hkg).1.trans (by rw [hq1]))
                    have hFc := freeAll hD hS hA
                    refine vx_calll (vx_runV (As := [.int (nI k), .int (nI 0)]) (rest := []) ⟨hx, hb, hml, hown, hts⟩ (c_X6_gearRatio l hlf D K ad q q1 q2 g r r2 vw i9 (nI k) (nI 0) H.size hI hJ) (cwV 2 hts (TB_V k_m_L_117 k_im_X6_gearRatio k_se_X6_gearRatio k_in_X6 k_co_X6_gearRatio (fun _ h => h)) rfl rfl rfl (by decide +kernel) ⟨Nat.le_of_ble_eq_true rfl, Nat.le_of_ble_eq_true rfl⟩) ⟨cPT_blind, va_recv hK hP (ci := 6) (q0 := 0) rfl rfl, cPT_of hP hK hD hTX hS hFc⟩ rfl rfl hl.1 rfl (lv_room (Nat.le_of_ble_eq_true rfl)) dL_geared_257 ⟨(show (((((((8 + k * 40 + e9 * 2) + 1) + 1) + 1) + 1) + 1) + 1) + 1 ≤ 2600 by omega), (show (((((((48 + k * 240 + e9 * 12) + 6) + 6) + 6) + 6) + 6) + 6) + 6 ≤ 15600 by omega)⟩) hS (fun q _ h => hFc q h) hFc (fun q _ h => hFc q h) (fun E ce q9 u9 t9 H locs ht9 hal hpx hB hz1 hk1 hS hce hcv hcl => ?_) (fun rz u9 t9 H locs ht9 hal hw hB hz1 hk1 hS => ?_)
                    · exact absurd hB.1.1 (by rw [hrs]; exact Nat.lt_irrefl 0)
                    obtain ⟨v9, i9⟩ := u9
                    obtain ⟨hP1, hK1, hD1⟩ := hB
                    rw [ht9] at hP1
                    have hP2 := hP1
                    have hD2 := hD1.weaken (fun _ _ _ h => hFc _ h)
                    obtain ⟨hv9, hJ9, hr9⟩ := hw
                    have hv9 : v9 = vw := hv9
                    dsimp only at hJ9 hr9
                    rw [hv9] at hP2 hD2 hJ9
                    dsimp only at hP2 hD2
                    have hJ : II vw.1 i9 := hJ9
                    have hP : va_P D vwCl (WX K ad q q1 q2 g r r2 vw i9) H := hP2
                    have hD : va_D A (WX K ad q q1 q2 g r r2 vw i9) := hD2
                    have hz : rz.toInt = Nk := (Prod.mk.inj (hr9.symm.trans hrs)).2
                    refine t_l (i64_of hz) ?_
                    refine lv_lconst (v := 0) hx hb dL_geared_260 (by decide) ?_
                    refine b_lcmp_ge hx hb rfl (show (0 : Int64).toInt = 0 by decide) dL_geared_261 dL_geared_262 (tgt := 278) (by decide) (fun c261 => ?_) (fun c261 => absurd c261 (by rw [hNk9]; omega))
                    refine lv_aload_n hx hb dL_geared_278 rfl (lv_at hl 1 rfl) ?_
                    refine lv_iload hx hb dL_geared_279 (lv_at hl 5 rfl) ?_
                    refine lv_iconst (v := nI 1) hx hb dL_geared_281 (by decide) ?_
                    refine lv_isub hx hb dL_geared_282 ?_
                    refine t_i (pk_sub (by omega)) ?_
                    refine lv_iconst (v := nI 0) hx hb dL_geared_283 (by decide) ?_
                    have hrs : rs_gearRatio vw.1 (nI (k - 1)) (nI 0) = (0, Nj) := ((rsE_gearRatio hE (show k - 1 < gN v.1 by omega)).1.trans (by rw [hq3]))
                    have hFc := freeAll hD hS hA
                    refine vx_calll (vx_runV (As := [.int (nI (k - 1)), .int (nI 0)]) (rest := []) ⟨hx, hb, hml, hown, hts⟩ (c_X6_gearRatio l hlf D K ad q q1 q2 g r r2 vw i9 (nI (k - 1)) (nI 0) H.size hI hJ) (cwV 2 hts (TB_V k_m_L_117 k_im_X6_gearRatio k_se_X6_gearRatio k_in_X6 k_co_X6_gearRatio (fun _ h => h)) rfl rfl rfl (by decide +kernel) ⟨Nat.le_of_ble_eq_true rfl, Nat.le_of_ble_eq_true rfl⟩) ⟨cPT_blind, va_recv hK hP (ci := 6) (q0 := 0) rfl rfl, cPT_of hP hK hD hTX hS hFc⟩ rfl rfl hl.1 rfl (lv_room (Nat.le_of_ble_eq_true rfl)) dL_geared_284 ⟨(show ((((((((8 + k * 40 + e9 * 2) + 1) + 1) + 1) + 1) + 1) + 1) + 1) + 1 ≤ 2600 by omega), (show ((((((((48 + k * 240 + e9 * 12) + 6) + 6) + 6) + 6) + 6) + 6) + 6) + 6 ≤ 15600 by omega)⟩) hS (fun q _ h => hFc q h) hFc (fun q _ h => hFc q h) (fun E ce q9 u9 t9 H locs ht9 hal hpx hB hz1 hk1 hS hce hcv hcl => ?_) (fun rz u9 t9 H locs ht9 hal hw hB hz1 hk1 hS => ?_)
                    · exact absurd hB.1.1 (by rw [hrs]; exact Nat.lt_irrefl 0)
                    obtain ⟨v9, i9⟩ := u9
                    obtain ⟨hP1, hK1, hD1⟩ := hB
                    rw [ht9] at hP1
                    have hP2 := hP1
                    have hD2 := hD1.weaken (fun _ _ _ h => hFc _ h)
                    obtain ⟨hv9, hJ9, hr9⟩ := hw
                    have hv9 : v9 = vw := hv9
                    dsimp only at hJ9 hr9
                    rw [hv9] at hP2 hD2 hJ9
                    dsimp only at hP2 hD2
                    have hJ : II vw.1 i9 := hJ9
                    have hP : va_P D vwCl (WX K ad q q1 q2 g r r2 vw i9) H := hP2
                    have hD : va_D A (WX K ad q q1 q2 g r r2 vw i9) := hD2
                    have hz : rz.toInt = Nj := (Prod.mk.inj (hr9.symm.trans hrs)).2
                    refine t_l (i64_of hz) ?_
                    refine lv_lconst (v := 0) hx hb dL_geared_287 (by decide) ?_
                    refine b_lcmp_ge hx hb rfl (show (0 : Int64).toInt = 0 by decide) dL_geared_288 dL_geared_289 (tgt := 319) (by decide) (fun c288 => ?_) (fun c288 => absurd c288 (by rw [hNj9]; omega))
                    refine lv_iinc (v := nI (k + 1)) (lv' := [(4, .int (nI (k + 1))), (6, .long (Int64.ofInt od)), (0, .ref (ad 0)), (1, .int (nI me)), (2, .int (nI (gN v.1))), (3, .int (nI (dn v.1 8 2))), (5, .int (nI (gF v.1 k)))]) hx hb dL_geared_319 hl (k := 5) rfl (nI_add k 1) (by decide) rfl (fun ls hl => ?_)
                    refine lv_goto (tgt := 14) hx hb dL_geared_322 (by decide) ?_
                    refine W.widen (k := 1 + (k + 1) * 40) (n := 6 + (k + 1) * 240) (by omega) (by omega) ?_
                    exact ih14 vw i9 (k + 1) (gF v.1 k) _ _ _ (by omega) hI hJ hE (by omega) hP hD hS (lv_sub hl [2, 3, 4, 5, 0] rfl)
                · by_cases hs2 : Nk < 0
                  · refine lv_lload hx hb dL_geared_190 (lv_at hl 0 rfl) ?_
                    refine lv_lconst (v := 0) hx hb dL_geared_192 (by decide) ?_
                    refine b_lcmp_lt hx hb rfl (show (0 : Int64).toInt = 0 by decide) dL_geared_193 dL_geared_194 (tgt := 217) (by decide) (fun c193 => absurd c193 (by rw [hod]; omega)) (fun c193 => ?_)
                    refine lv_lload hx hb dL_geared_197 (lv_at hl 0 rfl) ?_
                    refine lv_lconst (v := 0) hx hb dL_geared_199 (by decide) ?_
                    refine b_lcmp_ne hx hb rfl (show (0 : Int64).toInt = 0 by decide) dL_geared_200 dL_geared_201 (tgt := 219) (by decide) (fun c200 => ?_) (fun c200 => absurd c200 (by rw [hod]; omega))
                    refine lv_lload hx hb dL_geared_219 (lv_at hl 0 rfl) ?_
                    refine lv_lconst (v := 0) hx hb dL_geared_221 (by decide) ?_
                    refine b_lcmp_le hx hb rfl (show (0 : Int64).toInt = 0 by decide) dL_geared_222 dL_geared_223 (tgt := 253) (by decide) (fun c222 => absurd c222 (by rw [hod]; omega)) (fun c222 => ?_)
                    refine lv_aload_n hx hb dL_geared_226 rfl (lv_at hl 1 rfl) ?_
                    refine lv_iload hx hb dL_geared_227 (lv_at hl 5 rfl) ?_
                    refine lv_iconst (v := nI 1) hx hb dL_geared_229 (by decide) ?_
                    refine lv_isub hx hb dL_geared_230 ?_
                    refine t_i (pk_sub (by omega)) ?_
                    refine lv_iconst (v := nI 0) hx hb dL_geared_231 (by decide) ?_
                    have hrs : rs_gearRatio vw.1 (nI (k - 1)) (nI 0) = (0, Nj) := ((rsE_gearRatio hE (show k - 1 < gN v.1 by omega)).1.trans (by rw [hq3]))
                    have hFc := freeAll hD hS hA
                    refine vx_calll (vx_runV (As := [.int (nI (k - 1)), .int (nI 0)]) (rest := []) ⟨hx, hb, hml, hown, hts⟩ (c_X6_gearRatio l hlf D K ad q q1 q2 g r r2 vw i9 (nI (k - 1)) (nI 0) H.size hI hJ) (cwV 2 hts (TB_V k_m_L_117 k_im_X6_gearRatio k_se_X6_gearRatio k_in_X6 k_co_X6_gearRatio (fun _ h => h)) rfl rfl rfl (by decide +kernel) ⟨Nat.le_of_ble_eq_true rfl, Nat.le_of_ble_eq_true rfl⟩) ⟨cPT_blind, va_recv hK hP (ci := 6) (q0 := 0) rfl rfl, cPT_of hP hK hD hTX hS hFc⟩ rfl rfl hl.1 rfl (lv_room (Nat.le_of_ble_eq_true rfl)) dL_geared_232 ⟨(show (((((8 + k * 40 + e9 * 2) + 1) + 1) + 1) + 1) + 1 ≤ 2600 by omega), (show (((((48 + k * 240 + e9 * 12) + 6) + 6) + 6) + 6) + 6 ≤ 15600 by omega)⟩) hS (fun q _ h => hFc q h) hFc (fun q _ h => hFc q h) (fun E ce q9 u9 t9 H locs ht9 hal hpx hB hz1 hk1 hS hce hcv hcl => ?_) (fun rz u9 t9 H locs ht9 hal hw hB hz1 hk1 hS => ?_)
                    · exact absurd hB.1.1 (by rw [hrs]; exact Nat.lt_irrefl 0)
                    obtain ⟨v9, i9⟩ := u9
                    obtain ⟨hP1, hK1, hD1⟩ := hB
                    rw [ht9] at hP1
                    have hP2 := hP1
                    have hD2 := hD1.weaken (fun _ _ _ h => hFc _ h)
                    obtain ⟨hv9, hJ9, hr9⟩ := hw
                    have hv9 : v9 = vw := hv9
                    dsimp only at hJ9 hr9
                    rw [hv9] at hP2 hD2 hJ9
                    dsimp only at hP2 hD2
                    have hJ : II vw.1 i9 := hJ9
                    have hP : va_P D vwCl (WX K ad q q1 q2 g r r2 vw i9) H := hP2
                    have hD : va_D A (WX K ad q q1 q2 g r r2 vw i9) := hD2
                    have hz : rz.toInt = Nj := (Prod.mk.inj (hr9.symm.trans hrs)).2
                    refine t_l (i64_of hz) ?_
                    refine lv_lconst (v := 0) hx hb dL_geared_235 (by decide) ?_
                    refine b_lcmp_le hx hb rfl (show (0 : Int64).toInt = 0 by decide) dL_geared_236 dL_geared_237 (tgt := 253) (by decide) (fun c236 => ?_) (fun c236 => absurd c236 (by rw [hNj9]; omega))
                    refine lv_aload_n hx hb dL_geared_253 rfl (lv_at hl 1 rfl) ?_
                    refine lv_iload hx hb dL_geared_254 (lv_at hl 5 rfl) ?_
                    refine lv_iconst (v := nI 0) hx hb dL_geared_256 (by decide) ?_
                    have hrs : rs_gearRatio vw.1 (nI k) (nI 0) = (0, Nk) := ((rsE_gearRatio hE hkg).1.trans (by rw [hq1]))
                    have hFc := freeAll hD hS hA
                    refine vx_calll (vx_runV (As := [.int (nI k), .int (nI 0)]) (rest := []) ⟨hx, hb, hml, hown, hts⟩ (c_X6_gearRatio l hlf D K ad q q1 q2 g r r2 vw i9 (nI k) (nI 0) H.size hI hJ) (cwV 2 hts (TB_V k_m_L_117 k_im_X6_gearRatio k_se_X6_gearRatio k_in_X6 k_co_X6_gearRatio (fun _ h => h)) rfl rfl rfl (by decide +kernel) ⟨Nat.le_of_ble_eq_true rfl, Nat.le_of_ble_eq_true rfl⟩) ⟨cPT_blind, va_recv hK hP (ci := 6) (q0 := 0) rfl rfl, cPT_of hP hK hD hTX hS hFc⟩ rfl rfl hl.1 rfl (lv_room (Nat.le_of_ble_eq_true rfl)) dL_geared_257 ⟨(show ((((((8 + k * 40 + e9 * 2) + 1) + 1) + 1) + 1) + 1) + 1 ≤ 2600 by omega), (show ((((((48 + k * 240 + e9 * 12) + 6) + 6) + 6) + 6) + 6) + 6 ≤ 15600 by omega)⟩) hS (fun q _ h => hFc q h) hFc (fun q _ h => hFc q h) (fun E ce q9 u9 t9 H locs ht9 hal hpx hB hz1 hk1 hS hce hcv hcl => ?_) (fun rz u9 t9 H locs ht9 hal hw hB hz1 hk1 hS => ?_)
                    · exact absurd hB.1.1 (by rw [hrs]; exact Nat.lt_irrefl 0)
                    obtain ⟨v9, i9⟩ := u9
                    obtain ⟨hP1, hK1, hD1⟩ := hB
                    rw [ht9] at hP1
                    have hP2 := hP1
                    have hD2 := hD1.weaken (fun _ _ _ h => hFc _ h)
                    obtain ⟨hv9, hJ9, hr9⟩ := hw
                    have hv9 : v9 = vw := hv9
                    dsimp only at hJ9 hr9
                    rw [hv9] at hP2 hD2 hJ9
                    dsimp only at hP2 hD2
                    have hJ : II vw.1 i9 := hJ9
                    have hP : va_P D vwCl (WX K ad q q1 q2 g r r2 vw i9) H := hP2
                    have hD : va_D A (WX K ad q q1 q2 g r r2 vw i9) := hD2
                    have hz : rz.toInt = Nk := (Prod.mk.inj (hr9.symm.trans hrs)).2
                    refine t_l (i64_of hz) ?_
                    refine lv_lconst (v := 0) hx hb dL_geared_260 (by decide) ?_
                    refine b_lcmp_ge hx hb rfl (show (0 : Int64).toInt = 0 by decide) dL_geared_261 dL_geared_262 (tgt := 278) (by decide) (fun c261 => absurd c261 (by rw [hNk9]; omega)) (fun c261 => ?_)
                    refine lv_aload_n hx hb dL_geared_265 rfl (lv_at hl 1 rfl) ?_
                    refine lv_iload hx hb dL_geared_266 (lv_at hl 5 rfl) ?_
                    refine lv_iconst (v := nI 1) hx hb dL_geared_268 (by decide) ?_
                    refine lv_isub hx hb dL_geared_269 ?_
                    refine t_i (pk_sub (by omega)) ?_
                    have hrs : rs_step vw.1 (nI (k - 1)) = (0, FP.fdiv (fqS (SP v.1 (gF v.1 k))) (fqS (SP v.1 (gF v.1 (k - 1))))) := ((rsE_step hE hk2).trans (by rw [hkk]))
                    have hFc := freeAll hD hS hA
                    refine vx_callf (vx_runV (As := [.int (nI (k - 1))]) (rest := []) ⟨hx, hb, hml, hown, hts⟩ (c_X6_step l hlf D K ad q q1 q2 g r r2 vw i9 (nI (k - 1)) H.size hI hJ) (cwV 1 hts (TB_V k_m_L_120 k_im_X6_step k_se_X6_step k_in_X6 k_co_X6_step (fun _ h => h)) rfl rfl rfl (by decide +kernel) ⟨Nat.le_of_ble_eq_true rfl, Nat.le_of_ble_eq_true rfl⟩) ⟨cPT_blind, va_recv hK hP (ci := 6) (q0 := 0) rfl rfl, cPT_of hP hK hD hTX hS hFc⟩ rfl rfl hl.1 rfl (lv_room (Nat.le_of_ble_eq_true rfl)) dL_geared_270 ⟨(show (((((((8 + k * 40 + e9 * 2) + 1) + 1) + 1) + 1) + 1) + 1) + 1 ≤ 2600 by omega), (show (((((((48 + k * 240 + e9 * 12) + 6) + 6) + 6) + 6) + 6) + 6) + 6 ≤ 15600 by omega)⟩) hS (fun q _ h => hFc q h) hFc (fun q _ h => hFc q h) (fun E ce q9 u9 t9 H locs ht9 hal hpx hB hz1 hk1 hS hce hcv hcl => ?_) (fun rz u9 t9 H locs ht9 hal hw hB hz1 hk1 hS => ?_)
                    · exact absurd hB.1.1 (by rw [hrs]; exact Nat.lt_irrefl 0)
                    obtain ⟨v9, i9⟩ := u9
                    obtain ⟨hP1, hK1, hD1⟩ := hB
                    rw [ht9] at hP1
                    have hP2 := hP1
                    have hD2 := hD1.weaken (fun _ _ _ h => hFc _ h)
                    obtain ⟨hv9, hJ9, hr9⟩ := hw
                    have hv9 : v9 = vw := hv9
                    dsimp only at hJ9 hr9
                    rw [hv9] at hP2 hD2 hJ9
                    dsimp only at hP2 hD2
                    have hJ : II vw.1 i9 := hJ9
                    have hP : va_P D vwCl (WX K ad q q1 q2 g r r2 vw i9) H := hP2
                    have hD : va_D A (WX K ad q q1 q2 g r r2 vw i9) := hD2
                    have hz : rz = FP.fdiv (fqS (SP v.1 (gF v.1 k))) (fqS (SP v.1 (gF v.1 (k - 1)))) := (Prod.mk.inj (hr9.2.symm.trans hrs)).2
                    refine lv_fconst1 hx hb dL_geared_273 ?_
                    refine lv_fcmp hx hb dL_geared_274 ?_
                    refine b_if_gt hx hb rfl dL_geared_275 (tgt := 317) (by decide) (fun c275 => absurd c275 (by rw [hz]; exact cmpv_ngt (sf2 hs2))) (fun c275 => ?_)
                    refine lv_aload_n hx hb dL_geared_278 rfl (lv_at hl 1 rfl) ?_
                    refine lv_iload hx hb dL_geared_279 (lv_at hl 5 rfl) ?_
                    refine lv_iconst (v := nI 1) hx hb dL_geared_281 (by decide) ?_
                    refine lv_isub hx hb dL_geared_282 ?_
                    refine t_i (pk_sub (by omega)) ?_
                    refine lv_iconst (v := nI 0) hx hb dL_geared_283 (by decide) ?_
                    have hrs : rs_gearRatio vw.1 (nI (k - 1)) (nI 0) = (0, Nj) := ((rsE_gearRatio hE (show k - 1 < gN v.1 by omega)).1.trans (by rw [hq3]))
                    have hFc := freeAll hD hS hA
                    refine vx_calll (vx_runV (As := [.int (nI (k - 1)), .int (nI 0)]) (rest := []) ⟨hx, hb, hml, hown, hts⟩ (c_X6_gearRatio l hlf D K ad q q1 q2 g r r2 vw i9 (nI (k - 1)) (nI 0) H.size hI hJ) (cwV 2 hts (TB_V k_m_L_117 k_im_X6_gearRatio k_se_X6_gearRatio k_in_X6 k_co_X6_gearRatio (fun _ h => h)) rfl rfl rfl (by decide +kernel) ⟨Nat.le_of_ble_eq_true rfl, Nat.le_of_ble_eq_true rfl⟩) ⟨cPT_blind, va_recv hK hP (ci := 6) (q0 := 0) rfl rfl, cPT_of hP hK hD hTX hS hFc⟩ rfl rfl hl.1 rfl (lv_room (Nat.le_of_ble_eq_true rfl)) dL_geared_284 ⟨(show ((((((((8 + k * 40 + e9 * 2) + 1) + 1) + 1) + 1) + 1) + 1) + 1) + 1 ≤ 2600 by omega), (show ((((((((48 + k * 240 + e9 * 12) + 6) + 6) + 6) + 6) + 6) + 6) + 6) + 6 ≤ 15600 by omega)⟩) hS (fun q _ h => hFc q h) hFc (fun q _ h => hFc q h) (fun E ce q9 u9 t9 H locs ht9 hal hpx hB hz1 hk1 hS hce hcv hcl => ?_) (fun rz u9 t9 H locs ht9 hal hw hB hz1 hk1 hS => ?_)
                    · exact absurd hB.1.1 (by rw [hrs]; exact Nat.lt_irrefl 0)
                    obtain ⟨v9, i9⟩ := u9
                    obtain ⟨hP1, hK1, hD1⟩ := hB
                    rw [ht9] at hP1
                    have hP2 := hP1
                    have hD2 := hD1.weaken (fun _ _ _ h => hFc _ h)
                    obtain ⟨hv9, hJ9, hr9⟩ := hw
                    have hv9 : v9 = vw := hv9
                    dsimp only at hJ9 hr9
                    rw [hv9] at hP2 hD2 hJ9
                    dsimp only at hP2 hD2
                    have hJ : II vw.1 i9 := hJ9
                    have hP : va_P D vwCl (WX K ad q q1 q2 g r r2 vw i9) H := hP2
                    have hD : va_D A (WX K ad q q1 q2 g r r2 vw i9) := hD2
                    have hz : rz.toInt = Nj := (Prod.mk.inj (hr9.symm.trans hrs)).2
                    refine t_l (i64_of hz) ?_
                    refine lv_lconst (v := 0) hx hb dL_geared_287 (by decide) ?_
                    refine b_lcmp_ge hx hb rfl (show (0 : Int64).toInt = 0 by decide) dL_geared_288 dL_geared_289 (tgt := 319) (by decide) (fun c288 => absurd c288 (by rw [hNj9]; omega)) (fun c288 => ?_)
                    refine lv_aload_n hx hb dL_geared_292 rfl (lv_at hl 1 rfl) ?_
                    refine lv_iload hx hb dL_geared_293 (lv_at hl 5 rfl) ?_
                    refine lv_iconst (v := nI 0) hx hb dL_geared_295 (by decide) ?_
                    have hrs : rs_gearRatio vw.1 (nI k) (nI 0) = (0, Nk) := ((rsE_gearRatio hE hkg).1.trans (by rw [hq1]))
                    have hFc := freeAll hD hS hA
                    refine vx_calll (vx_runV (As := [.int (nI k), .int (nI 0)]) (rest := []) ⟨hx, hb, hml, hown, hts⟩ (c_X6_gearRatio l hlf D K ad q q1 q2 g r r2 vw i9 (nI k) (nI 0) H.size hI hJ) (cwV 2 hts (TB_V k_m_L_117 k_im_X6_gearRatio k_se_X6_gearRatio k_in_X6 k_co_X6_gearRatio (fun _ h => h)) rfl rfl rfl (by decide +kernel) ⟨Nat.le_of_ble_eq_true rfl, Nat.le_of_ble_eq_true rfl⟩) ⟨cPT_blind, va_recv hK hP (ci := 6) (q0 := 0) rfl rfl, cPT_of hP hK hD hTX hS hFc⟩ rfl rfl hl.1 rfl (lv_room (Nat.le_of_ble_eq_true rfl)) dL_geared_296 ⟨(show (((((((((8 + k * 40 + e9 * 2) + 1) + 1) + 1) + 1) + 1) + 1) + 1) + 1) + 1 ≤ 2600 by omega), (show (((((((((48 + k * 240 + e9 * 12) + 6) + 6) + 6) + 6) + 6) + 6) + 6) + 6) + 6 ≤ 15600 by omega)⟩) hS (fun q _ h => hFc q h) hFc (fun q _ h => hFc q h) (fun E ce q9 u9 t9 H locs ht9 hal hpx hB hz1 hk1 hS hce hcv hcl => ?_) (fun rz u9 t9 H locs ht9 hal hw hB hz1 hk1 hS => ?_)
                    · exact absurd hB.1.1 (by rw [hrs]; exact Nat.lt_irrefl 0)
                    obtain ⟨v9, i9⟩ := u9
                    obtain ⟨hP1, hK1, hD1⟩ := hB
                    rw [ht9] at hP1
                    have hP2 := hP1
                    have hD2 := hD1.weaken (fun _ _ _ h => hFc _ h)
                    obtain ⟨hv9, hJ9, hr9⟩ := hw
                    have hv9 : v9 = vw := hv9
                    dsimp only at hJ9 hr9
                    rw [hv9] at hP2 hD2 hJ9
                    dsimp only at hP2 hD2
                    have hJ : II vw.1 i9 := hJ9
                    have hP : va_P D vwCl (WX K ad q q1 q2 g r r2 vw i9) H := hP2
                    have hD : va_D A (WX K ad q q1 q2 g r r2 vw i9) := hD2
                    have hz : rz.toInt = Nk := (Prod.mk.inj (hr9.symm.trans hrs)).2
                    refine t_l (i64_of hz) ?_
                    refine lv_lconst (v := 0) hx hb dL_geared_299 (by decide) ?_
                    refine b_lcmp_le hx hb rfl (show (0 : Int64).toInt = 0 by decide) dL_geared_300 dL_geared_301 (tgt := 319) (by decide) (fun c300 => ?_) (fun c300 => absurd c300 (by rw [hNk9]; omega))
                    refine lv_iinc (v := nI (k + 1)) (lv' := [(4, .int (nI (k + 1))), (6, .long (Int64.ofInt od)), (0, .ref (ad 0)), (1, .int (nI me)), (2, .int (nI (gN v.1))), (3, .int (nI (dn v.1 8 2))), (5, .int (nI (gF v.1 k)))]) hx hb dL_geared_319 hl (k := 5) rfl (nI_add k 1) (by decide) rfl (fun ls hl => ?_)
                    refine lv_goto (tgt := 14) hx hb dL_geared_322 (by decide) ?_
                    refine W.widen (k := 1 + (k + 1) * 40) (n := 6 + (k + 1) * 240) (by omega) (by omega) ?_
                    exact ih14 vw i9 (k + 1) (gF v.1 k) _ _ _ (by omega) hI hJ hE (by omega) hP hD hS (lv_sub hl [2, 3, 4, 5, 0] rfl)
                  · refine lv_lload hx hb dL_geared_190 (lv_at hl 0 rfl) ?_
                    refine lv_lconst (v := 0) hx hb dL_geared_192 (by decide) ?_
                    refine b_lcmp_lt hx hb rfl (show (0 : Int64).toInt = 0 by decide) dL_geared_193 dL_geared_194 (tgt := 217) (by decide) (fun c193 => absurd c193 (by rw [hod]; omega)) (fun c193 => ?_)
                    refine lv_lload hx hb dL_geared_197 (lv_at hl 0 rfl) ?_
                    refine lv_lconst (v := 0) hx hb dL_geared_199 (by decide) ?_
                    refine b_lcmp_ne hx hb rfl (show (0 : Int64).toInt = 0 by decide) dL_geared_200 dL_geared_201 (tgt := 219) (by decide) (fun c200 => ?_) (fun c200 => absurd c200 (by rw [hod]; omega))
                    refine lv_lload hx hb dL_geared_219 (lv_at hl 0 rfl) ?_
                    refine lv_lconst (v := 0) hx hb dL_geared_221 (by decide) ?_
                    refine b_lcmp_le hx hb rfl (show (0 : Int64).toInt = 0 by decide) dL_geared_222 dL_geared_223 (tgt := 253) (by decide) (fun c222 => absurd c222 (by rw [hod]; omega)) (fun c222 => ?_)
                    refine lv_aload_n hx hb dL_geared_226 rfl (lv_at hl 1 rfl) ?_
                    refine lv_iload hx hb dL_geared_227 (lv_at hl 5 rfl) ?_
                    refine lv_iconst (v := nI 1) hx hb dL_geared_229 (by decide) ?_
                    refine lv_isub hx hb dL_geared_230 ?_
                    refine t_i (pk_sub (by omega)) ?_
                    refine lv_iconst (v := nI 0) hx hb dL_geared_231 (by decide) ?_
                    have hrs : rs_gearRatio vw.1 (nI (k - 1)) (nI 0) = (0, Nj) := ((rsE_gearRatio hE (show k - 1 < gN v.1 by omega)).1.trans (by rw [hq3]))
                    have hFc := freeAll hD hS hA
                    refine vx_calll (vx_runV (As := [.int (nI (k - 1)), .int (nI 0)]) (rest := []) ⟨hx, hb, hml, hown, hts⟩ (c_X6_gearRatio l hlf D K ad q q1 q2 g r r2 vw i9 (nI (k - 1)) (nI 0) H.size hI hJ) (cwV 2 hts (TB_V k_m_L_117 k_im_X6_gearRatio k_se_X6_gearRatio k_in_X6 k_co_X6_gearRatio (fun _ h => h)) rfl rfl rfl (by decide +kernel) ⟨Nat.le_of_ble_eq_true rfl, Nat.le_of_ble_eq_true rfl⟩) ⟨cPT_blind, va_recv hK hP (ci := 6) (q0 := 0) rfl rfl, cPT_of hP hK hD hTX hS hFc⟩ rfl rfl hl.1 rfl (lv_room (Nat.le_of_ble_eq_true rfl)) dL_geared_232 ⟨(show (((((8 + k * 40 + e9 * 2) + 1) + 1) + 1) + 1) + 1 ≤ 2600 by omega), (show (((((48 + k * 240 + e9 * 12) + 6) + 6) + 6) + 6) + 6 ≤ 15600 by omega)⟩) hS (fun q _ h => hFc q h) hFc (fun q _ h => hFc q h) (fun E ce q9 u9 t9 H locs ht9 hal hpx hB hz1 hk1 hS hce hcv hcl => ?_) (fun rz u9 t9 H locs ht9 hal hw hB hz1 hk1 hS => ?_)
                    · exact absurd hB.1.1 (by rw [hrs]; exact Nat.lt_irrefl 0)
                    obtain ⟨v9, i9⟩ := u9
                    obtain ⟨hP1, hK1, hD1⟩ := hB
                    rw [ht9] at hP1
                    have hP2 := hP1
                    have hD2 := hD1.weaken (fun _ _ _ h => hFc _ h)
                    obtain ⟨hv9, hJ9, hr9⟩ := hw
                    have hv9 : v9 = vw := hv9
                    dsimp only at hJ9 hr9
                    rw [hv9] at hP2 hD2 hJ9
                    dsimp only at hP2 hD2
                    have hJ : II vw.1 i9 := hJ9
                    have hP : va_P D vwCl (WX K ad q q1 q2 g r r2 vw i9) H := hP2
                    have hD : va_D A (WX K ad q q1 q2 g r r2 vw i9) := hD2
                    have hz : rz.toInt = Nj := (Prod.mk.inj (hr9.symm.trans hrs)).2
                    refine t_l (i64_of hz) ?_
                    refine lv_lconst (v := 0) hx hb dL_geared_235 (by decide) ?_
                    refine b_lcmp_le hx hb rfl (show (0 : Int64).toInt = 0 by decide) dL_geared_236 dL_geared_237 (tgt := 253) (by decide) (fun c236 => ?_) (fun c236 => absurd c236 (by rw [hNj9]; omega))
                    refine lv_aload_n hx hb dL_geared_253 rfl (lv_at hl 1 rfl) ?_
                    refine lv_iload hx hb dL_geared_254 (lv_at hl 5 rfl) ?_
                    refine lv_iconst (v := nI 0) hx hb dL_geared_256 (by decide) ?_
                    have hrs : rs_gearRatio vw.1 (nI k) (nI 0) = (0, Nk) := ((rsE_gearRatio hE hkg).1.trans (by rw [hq1]))
                    have hFc := freeAll hD hS hA
                    refine vx_calll (vx_runV (As := [.int (nI k), .int (nI 0)]) (rest := []) ⟨hx, hb, hml, hown, hts⟩ (c_X6_gearRatio l hlf D K ad q q1 q2 g r r2 vw i9 (nI k) (nI 0) H.size hI hJ) (cwV 2 hts (TB_V k_m_L_117 k_im_X6_gearRatio k_se_X6_gearRatio k_in_X6 k_co_X6_gearRatio (fun _ h => h)) rfl rfl rfl (by decide +kernel) ⟨Nat.le_of_ble_eq_true rfl, Nat.le_of_ble_eq_true rfl⟩) ⟨cPT_blind, va_recv hK hP (ci := 6) (q0 := 0) rfl rfl, cPT_of hP hK hD hTX hS hFc⟩ rfl rfl hl.1 rfl (lv_room (Nat.le_of_ble_eq_true rfl)) dL_geared_257 ⟨(show ((((((8 + k * 40 + e9 * 2) + 1) + 1) + 1) + 1) + 1) + 1 ≤ 2600 by omega), (show ((((((48 + k * 240 + e9 * 12) + 6) + 6) + 6) + 6) + 6) + 6 ≤ 15600 by omega)⟩) hS (fun q _ h => hFc q h) hFc (fun q _ h => hFc q h) (fun E ce q9 u9 t9 H locs ht9 hal hpx hB hz1 hk1 hS hce hcv hcl => ?_) (fun rz u9 t9 H locs ht9 hal hw hB hz1 hk1 hS => ?_)
                    · exact absurd hB.1.1 (by rw [hrs]; exact Nat.lt_irrefl 0)
                    obtain ⟨v9, i9⟩ := u9
                    obtain ⟨hP1, hK1, hD1⟩ := hB
                    rw [ht9] at hP1
                    have hP2 := hP1
                    have hD2 := hD1.weaken (fun _ _ _ h => hFc _ h)
                    obtain ⟨hv9, hJ9, hr9⟩ := hw
                    have hv9 : v9 = vw := hv9
                    dsimp only at hJ9 hr9
                    rw [hv9] at hP2 hD2 hJ9
                    dsimp only at hP2 hD2
                    have hJ : II vw.1 i9 := hJ9
                    have hP : va_P D vwCl (WX K ad q q1 q2 g r r2 vw i9) H := hP2
                    have hD : va_D A (WX K ad q q1 q2 g r r2 vw i9) := hD2
                    have hz : rz.toInt = Nk := (Prod.mk.inj (hr9.symm.trans hrs)).2
                    refine t_l (i64_of hz) ?_
                    refine lv_lconst (v := 0) hx hb dL_geared_260 (by decide) ?_
                    refine b_lcmp_ge hx hb rfl (show (0 : Int64).toInt = 0 by decide) dL_geared_261 dL_geared_262 (tgt := 278) (by decide) (fun c261 => ?_) (fun c261 => absurd c261 (by rw [hNk9]; omega))
                    refine lv_aload_n hx hb dL_geared_278 rfl (lv_at hl 1 rfl) ?_
                    refine lv_iload hx hb dL_geared_279 (lv_at hl 5 rfl) ?_
                    refine lv_iconst (v := nI 1) hx hb dL_geared_281 (by decide) ?_
                    refine lv_isub hx hb dL_geared_282 ?_
                    refine t_i (pk_sub (by omega)) ?_
                    refine lv_iconst (v := nI 0) hx hb dL_geared_283 (by decide) ?_
                    have hrs : rs_gearRatio vw.1 (nI (k - 1)) (nI 0) = (0, Nj) := ((rsE_gearRatio hE (show k - 1 < gN v.1 by omega)).1.trans (by rw [hq3]))
                    have hFc := freeAll hD hS hA
                    refine vx_calll (vx_runV (As := [.int (nI (k - 1)), .int (nI 0)]) (rest := []) ⟨hx, hb, hml, hown, hts⟩ (c_X6_gearRatio l hlf D K ad q q1 q2 g r r2 vw i9 (nI (k - 1)) (nI 0) H.size hI hJ) (cwV 2 hts (TB_V k_m_L_117 k_im_X6_gearRatio k_se_X6_gearRatio k_in_X6 k_co_X6_gearRatio (fun _ h => h)) rfl rfl rfl (by decide +kernel) ⟨Nat.le_of_ble_eq_true rfl, Nat.le_of_ble_eq_true rfl⟩) ⟨cPT_blind, va_recv hK hP (ci := 6) (q0 := 0) rfl rfl, cPT_of hP hK hD hTX hS hFc⟩ rfl rfl hl.1 rfl (lv_room (Nat.le_of_ble_eq_true rfl)) dL_geared_284 ⟨(show (((((((8 + k * 40 + e9 * 2) + 1) + 1) + 1) + 1) + 1) + 1) + 1 ≤ 2600 by omega), (show (((((((48 + k * 240 + e9 * 12) + 6) + 6) + 6) + 6) + 6) + 6) + 6 ≤ 15600 by omega)⟩) hS (fun q _ h => hFc q h) hFc (fun q _ h => hFc q h) (fun E ce q9 u9 t9 H locs ht9 hal hpx hB hz1 hk1 hS hce hcv hcl => ?_) (fun rz u9 t9 H locs ht9 hal hw hB hz1 hk1 hS => ?_)
                    · exact absurd hB.1.1 (by rw [hrs]; exact Nat.lt_irrefl 0)
                    obtain ⟨v9, i9⟩ := u9
                    obtain ⟨hP1, hK1, hD1⟩ := hB
                    rw [ht9] at hP1
                    have hP2 := hP1
                    have hD2 := hD1.weaken (fun _ _ _ h => hFc _ h)
                    obtain ⟨hv9, hJ9, hr9⟩ := hw
                    have hv9 : v9 = vw := hv9
                    dsimp only at hJ9 hr9
                    rw [hv9] at hP2 hD2 hJ9
                    dsimp only at hP2 hD2
                    have hJ : II vw.1 i9 := hJ9
                    have hP : va_P D vwCl (WX K ad q q1 q2 g r r2 vw i9) H := hP2
                    have hD : va_D A (WX K ad q q1 q2 g r r2 vw i9) := hD2
                    have hz : rz.toInt = Nj := (Prod.mk.inj (hr9.symm.trans hrs)).2
                    refine t_l (i64_of hz) ?_
                    refine lv_lconst (v := 0) hx hb dL_geared_287 (by decide) ?_
                    refine b_lcmp_ge hx hb rfl (show (0 : Int64).toInt = 0 by decide) dL_geared_288 dL_geared_289 (tgt := 319) (by decide) (fun c288 => absurd c288 (by rw [hNj9]; omega)) (fun c288 => ?_)
                    refine lv_aload_n hx hb dL_geared_292 rfl (lv_at hl 1 rfl) ?_
                    refine lv_iload hx hb dL_geared_293 (lv_at hl 5 rfl) ?_
                    refine lv_iconst (v := nI 0) hx hb dL_geared_295 (by decide) ?_
                    have hrs : rs_gearRatio vw.1 (nI k) (nI 0) = (0, Nk) := ((rsE_gearRatio hE hkg).1.trans (by rw [hq1]))
                    have hFc := freeAll hD hS hA
                    refine vx_calll (vx_runV (As := [.int (nI k), .int (nI 0)]) (rest := []) ⟨hx, hb, hml, hown, hts⟩ (c_X6_gearRatio l hlf D K ad q q1 q2 g r r2 vw i9 (nI k) (nI 0) H.size hI hJ) (cwV 2 hts (TB_V k_m_L_117 k_im_X6_gearRatio k_se_X6_gearRatio k_in_X6 k_co_X6_gearRatio (fun _ h => h)) rfl rfl rfl (by decide +kernel) ⟨Nat.le_of_ble_eq_true rfl, Nat.le_of_ble_eq_true rfl⟩) ⟨cPT_blind, va_recv hK hP (ci := 6) (q0 := 0) rfl rfl, cPT_of hP hK hD hTX hS hFc⟩ rfl rfl hl.1 rfl (lv_room (Nat.le_of_ble_eq_true rfl)) dL_geared_296 ⟨(show ((((((((8 + k * 40 + e9 * 2) + 1) + 1) + 1) + 1) + 1) + 1) + 1) + 1 ≤ 2600 by omega), (show ((((((((48 + k * 240 + e9 * 12) + 6) + 6) + 6) + 6) + 6) + 6) + 6) + 6 ≤ 15600 by omega)⟩) hS (fun q _ h => hFc q h) hFc (fun q _ h => hFc q h) (fun E ce q9 u9 t9 H locs ht9 hal hpx hB hz1 hk1 hS hce hcv hcl => ?_) (fun rz u9 t9 H locs ht9 hal hw hB hz1 hk1 hS => ?_)
                    · exact absurd hB.1.1 (by rw [hrs]; exact Nat.lt_irrefl 0)
                    obtain ⟨v9, i9⟩ := u9
                    obtain ⟨hP1, hK1, hD1⟩ := hB
                    rw [ht9] at hP1
                    have hP2 := hP1
                    have hD2 := hD1.weaken (fun _ _ _ h => hFc _ h)
                    obtain ⟨hv9, hJ9, hr9⟩ := hw
                    have hv9 : v9 = vw := hv9
                    dsimp only at hJ9 hr9
                    rw [hv9] at hP2 hD2 hJ9
                    dsimp only at hP2 hD2
                    have hJ : II vw.1 i9 := hJ9
                    have hP : va_P D vwCl (WX K ad q q1 q2 g r r2 vw i9) H := hP2
                    have hD : va_D A (WX K ad q q1 q2 g r r2 vw i9) := hD2
                    have hz : rz.toInt = Nk := (Prod.mk.inj (hr9.symm.trans hrs)).2
                    refine t_l (i64_of hz) ?_
                    refine lv_lconst (v := 0) hx hb dL_geared_299 (by decide) ?_
                    refine b_lcmp_le hx hb rfl (show (0 : Int64).toInt = 0 by decide) dL_geared_300 dL_geared_301 (tgt := 319) (by decide) (fun c300 => absurd c300 (by rw [hNk9]; omega)) (fun c300 => ?_)
                    refine lv_aload_n hx hb dL_geared_304 rfl (lv_at hl 1 rfl) ?_
                    refine lv_iload hx hb dL_geared_305 (lv_at hl 5 rfl) ?_
                    refine lv_iconst (v := nI 1) hx hb dL_geared_307 (by decide) ?_
                    refine lv_isub hx hb dL_geared_308 ?_
                    refine t_i (pk_sub (by omega)) ?_
                    have hrs : rs_step vw.1 (nI (k - 1)) = (0, FP.fdiv (fqS (SP v.1 (gF v.1 k))) (fqS (SP v.1 (gF v.1 (k - 1))))) := ((rsE_step hE hk2).trans (by rw [hkk]))
                    have hFc := freeAll hD hS hA
                    refine vx_callf (vx_runV (As := [.int (nI (k - 1))]) (rest := []) ⟨hx, hb, hml, hown, hts⟩ (c_X6_step l hlf D K ad q q1 q2 g r r2 vw i9 (nI (k - 1)) H.size hI hJ) (cwV 1 hts (TB_V k_m_L_120 k_im_X6_step k_se_X6_step k_in_X6 k_co_X6_step (fun _ h => h)) rfl rfl rfl (by decide +kernel) ⟨Nat.le_of_ble_eq_true rfl, Nat.le_of_ble_eq_true rfl⟩) ⟨cPT_blind, va_recv hK hP (ci := 6) (q0 := 0) rfl rfl, cPT_of hP hK hD hTX hS hFc⟩ rfl rfl hl.1 rfl (lv_room (Nat.le_of_ble_eq_true rfl)) dL_geared_309 ⟨(show (((((((((8 + k * 40 + e9 * 2) + 1) + 1) + 1) + 1) + 1) + 1) + 1) + 1) + 1 ≤ 2600 by omega), (show (((((((((48 + k * 240 + e9 * 12) + 6) + 6) + 6) + 6) + 6) + 6) + 6) + 6) + 6 ≤ 15600 by omega)⟩) hS (fun q _ h => hFc q h) hFc (fun q _ h => hFc q h) (fun E ce q9 u9 t9 H locs ht9 hal hpx hB hz1 hk1 hS hce hcv hcl => ?_) (fun rz u9 t9 H locs ht9 hal hw hB hz1 hk1 hS => ?_)
                    · exact absurd hB.1.1 (by rw [hrs]; exact Nat.lt_irrefl 0)
                    obtain ⟨v9, i9⟩ := u9
                    obtain ⟨hP1, hK1, hD1⟩ := hB
                    rw [ht9] at hP1
                    have hP2 := hP1
                    have hD2 := hD1.weaken (fun _ _ _ h => hFc _ h)
                    obtain ⟨hv9, hJ9, hr9⟩ := hw
                    have hv9 : v9 = vw := hv9
                    dsimp only at hJ9 hr9
                    rw [hv9] at hP2 hD2 hJ9
                    dsimp only at hP2 hD2
                    have hJ : II vw.1 i9 := hJ9
                    have hP : va_P D vwCl (WX K ad q q1 q2 g r r2 vw i9) H := hP2
                    have hD : va_D A (WX K ad q q1 q2 g r r2 vw i9) := hD2
                    have hz : rz = FP.fdiv (fqS (SP v.1 (gF v.1 k))) (fqS (SP v.1 (gF v.1 (k - 1)))) := (Prod.mk.inj (hr9.2.symm.trans hrs)).2
                    refine lv_fconst0 hx hb dL_geared_312 ?_
                    refine lv_fcmp hx hb dL_geared_313 ?_
                    refine b_if_lt hx hb rfl dL_geared_314 (tgt := 319) (by decide) (fun c314 => ?_) (fun c314 => absurd c314 (Int.not_le.mpr (by rw [hz]; exact cmpv_lt (sf3 (by omega) (by omega)))))
                    refine lv_iinc (v := nI (k + 1)) (lv' := [(4, .int (nI (k + 1))), (6, .long (Int64.ofInt od)), (0, .ref (ad 0)), (1, .int (nI me)), (2, .int (nI (gN v.1))), (3, .int (nI (dn v.1 8 2))), (5, .int (nI (gF v.1 k)))]) hx hb dL_geared_319 hl (k := 5) rfl (nI_add k 1) (by decide) rfl (fun ls hl => ?_)
                    refine lv_goto (tgt := 14) hx hb dL_geared_322 (by decide) ?_
                    refine W.widen (k := 1 + (k + 1) * 40) (n := 6 + (k + 1) * 240) (by omega) (by omega) ?_
                    exact ih14 vw i9 (k + 1) (gF v.1 k) _ _ _ (by omega) hI hJ hE (by omega) hP hD hS (lv_sub hl [2, 3, 4, 5, 0] rfl)
            refine lv_goto (tgt := 319) hx hb dL_geared_150 (by decide) ?_
            refine lv_iinc (v := nI (k + 1)) (lv' := [(4, .int (nI (k + 1))), (0, .ref (ad 0)), (1, .int (nI me)), (2, .int (nI (gN v.1))), (3, .int (nI (dn v.1 8 2))), (5, .int (nI (gF v.1 k))), (6, .int (nI e9))]) hx hb dL_geared_319 hl (k := 4) rfl (nI_add k 1) (by decide) rfl (fun ls hl => ?_)
            refine lv_goto (tgt := 14) hx hb dL_geared_322 (by decide) ?_
            refine W.widen (k := 1 + (k + 1) * 40) (n := 6 + (k + 1) * 240) (by omega) (by omega) ?_
            exact ih14 vw i (k + 1) (gF v.1 k) _ _ _ (by omega) hI hJ hE (by omega) hP hD hS (lv_sub hl [1, 2, 3, 4, 0] rfl)
          refine lv_iload hx hb dL_geared_98 (lv_at hl 5 rfl) ?_
          refine lv_iload hx hb dL_geared_100 (lv_at hl 6 rfl) ?_
          refine lv_ishr hx hb dL_geared_102 ?_
          refine lv_iconst (v := nI 1) hx hb dL_geared_103 (by decide) ?_
          refine lv_iand hx hb dL_geared_104 ?_
          have he6 : e9 < 6 := by omega
          by_cases hbe : (gF v.1 k).testBit e9 = true
          rotate_left
          · refine t_i (w_bit0 hG64 he6 hbe) ?_
            refine b_if_ne hx hb (nI_toIntI (by omega)) dL_geared_105 (tgt := 111) (by decide) (fun c105 => absurd c105 (by omega)) (fun c105 => ?_)
            refine lv_goto (tgt := 139) hx hb dL_geared_108 (by decide) ?_
            refine lv_iinc (v := nI (e9 + 1)) (lv' := [(6, .int (nI (e9 + 1))), (0, .ref (ad 0)), (1, .int (nI me)), (2, .int (nI (gN v.1))), (3, .int (nI (dn v.1 8 2))), (4, .int (nI k)), (5, .int (nI (gF v.1 k)))]) hx hb dL_geared_139 hl (k := 6) rfl (nI_add e9 1) (by decide) rfl (fun ls hl => ?_)
            refine lv_goto (tgt := 92) hx hb dL_geared_142 (by decide) ?_
            refine W.widen (k := 8 + k * 40 + (e9 + 1) * 2) (n := 48 + k * 240 + (e9 + 1) * 12) (by omega) (by omega) ?_
            exact ih92 vw i (e9 + 1) _ _ _ (by omega) hI hJ hE (by omega) hP hD hS (lv_sub hl [1, 2, 3, 4, 5, 6, 0] rfl)
          refine t_i (w_bit1 hG64 he6 hbe) ?_
          refine b_if_ne hx hb (nI_toIntI (by omega)) dL_geared_105 (tgt := 111) (by decide) (fun c105 => ?_) (fun c105 => absurd c105 (by omega))
          refine lv_aload_n hx hb dL_geared_111 rfl (lv_at hl 0 rfl) ?_
          refine lv_iload hx hb dL_geared_112 (lv_at hl 6 rfl) ?_
          obtain ⟨hco1, hco2⟩ := cl1_or (gF v.1 k) hG64 e9 he6 hbe
          have hcl9 := (cl1_lt (gF v.1 k) hG64 e9 he6).2.1 hbe
          have hGl := gF_lt hkg
          have hrs : rs_release vw.1 (nI e9) = (0, 1) := (rsE_release hI0 hE (by omega) hbe)
          have hFc := freeAll hD hS hA
          refine vx_calli (vx_runV (As := [.int (nI e9)]) (rest := []) ⟨hx, hb, hml, hown, hts⟩ (c_X6_release l hlf D K ad q q1 q2 g r r2 vw i (nI e9) H.size hI hJ) (cwV 1 hts (TB_V k_m_L_76 k_im_X6_release k_se_X6_release k_in_X6 k_co_X6_release (fun _ h => h)) rfl rfl rfl (by decide +kernel) ⟨Nat.le_of_ble_eq_true rfl, Nat.le_of_ble_eq_true rfl⟩) ⟨cPT_blind, va_recv hK hP (ci := 6) (q0 := 0) rfl rfl, cPT_of hP hK hD hTX hS hFc⟩ rfl rfl hl.1 rfl (lv_room (Nat.le_of_ble_eq_true rfl)) dL_geared_114 ⟨(show (8 + k * 40 + e9 * 2) + 1 ≤ 2600 by omega), (show (48 + k * 240 + e9 * 12) + 6 ≤ 15600 by omega)⟩) hS (fun q _ h => hFc q h) hFc (fun q _ h => hFc q h) (fun E ce q9 u9 t9 H locs ht9 hal hpx hB hz1 hk1 hS hce hcv hcl => ?_) (fun rz u9 t9 H locs ht9 hal hw hB hz1 hk1 hS => ?_)
          · exact absurd hB.1.1 (by rw [hrs]; exact Nat.lt_irrefl 0)
          obtain ⟨vx3, i9⟩ := u9
          obtain ⟨hP1, hK1, hD1⟩ := hB
          rw [ht9] at hP1
          have hP2 := hP1
          have hD2 := hD1.weaken (fun _ _ _ h => hFc _ h)
          dsimp only at hw
          obtain ⟨hch, hI9, hJ9, hr9⟩ := hw
          have hz : rz.toInt = 1 := (Prod.mk.inj (hr9.symm.trans hrs)).2
          rw [nI_tt (by omega), (EG_2 hI0 hE).2] at hch
          have hE9 : EG v (cl1 (gF v.1 k) e9) vx3 := EG_chg hI0 hE (by omega) hch
          have hI := hI9
          have hJ := hJ9
          have hE := hE9
          have hP : va_P D vwCl (WX K ad q q1 q2 g r r2 vx3 i9) H := hP2
          have hD : va_D A (WX K ad q q1 q2 g r r2 vx3 i9) := hD2
          refine t_i ((i32_eq rz (nI 1)).mpr (by rw [nI_toIntI (by decide)]; exact hz)) ?_
          refine b_if_eq hx hb (nI_toIntI (by omega)) dL_geared_117 (tgt := 137) (by decide) (fun c117 => absurd c117 (by omega)) (fun c117 => ?_)
          refine lv_aload_n hx hb dL_geared_120 rfl (lv_at hl 0 rfl) ?_
          have hFc := freeAll hD hS hA
          refine va_calli (va_runV (As := []) (rest := []) ⟨hx, hb, hml, hown, hts⟩ (c_X6_state l D K ad q q1 q2 g r r2 vx3 i9  H.size hI hJ) (cwV 0 hts (TB_V k_m_L_91 k_im_X6_state k_se_X6_state k_in_X6 k_co_X6_state (fun _ h => h)) rfl rfl rfl (by decide +kernel) ⟨Nat.le_of_ble_eq_true rfl, Nat.le_of_ble_eq_true rfl⟩) ⟨cP_blind, va_recv hK hP (ci := 6) (q0 := 0) rfl rfl, cP_of hP hK hD⟩ rfl rfl hl.1 rfl (lv_room (Nat.le_of_ble_eq_true rfl)) dL_geared_121 ⟨(show ((8 + k * 40 + e9 * 2) + 1) + 0 ≤ 2600 by omega), (show ((48 + k * 240 + e9 * 12) + 6) + 0 ≤ 15600 by omega)⟩) hS (fun q _ h => hFc q h) hFc (fun rz u9 t9 H locs ht9 hal hw hB hz1 hk1 hS => ?_)
          obtain ⟨v9, i9⟩ := u9
          obtain ⟨hP1, hK1, hD1⟩ := hB
          rw [ht9] at hP1
          have hP2 := hP1
          have hD2 := hD1.weaken (fun _ _ _ h => hFc _ h)
          obtain ⟨hv9, hJ9, hr9⟩ := hw
          have hv9 : v9 = vx3 := hv9
          dsimp only at hJ9 hr9
          rw [hv9] at hP2 hD2 hJ9
          dsimp only at hP2 hD2
          have hJ : II vx3.1 i9 := hJ9
          have hP : va_P D vwCl (WX K ad q q1 q2 g r r2 vx3 i9) H := hP2
          have hD : va_D A (WX K ad q q1 q2 g r r2 vx3 i9) := hD2
          refine t_i ((i32_eq rz (nI 2)).mpr (by rw [nI_toIntI (by decide), hr9, EG_st hE, (EG_2 hI0 hE).2, gear_less hG hG64 he6 hbe])) ?_
          refine lv_iconst (v := nI 2) hx hb dL_geared_124 (by decide) ?_
          refine b_icmp_ne hx hb (nI_toIntI (by omega)) (nI_toIntI (by omega)) dL_geared_125 (tgt := 137) (by decide) (fun c125 => absurd c125 (by omega)) (fun c125 => ?_)
          refine lv_aload_n hx hb dL_geared_128 rfl (lv_at hl 0 rfl) ?_
          refine lv_iload hx hb dL_geared_129 (lv_at hl 6 rfl) ?_
          have hrs : rs_engage vx3.1 (nI e9) = (0, 1) := (rsE_engage hI0 hE (by omega) hco2)
          have hFc := freeAll hD hS hA
          refine vx_calli (vx_runV (As := [.int (nI e9)]) (rest := []) ⟨hx, hb, hml, hown, hts⟩ (c_X6_engage l hlf D K ad q q1 q2 g r r2 vx3 i9 (nI e9) H.size hI hJ) (cwV 1 hts (TB_V k_m_L_72 k_im_X6_engage k_se_X6_engage k_in_X6 k_co_X6_engage (fun _ h => h)) rfl rfl rfl (by decide +kernel) ⟨Nat.le_of_ble_eq_true rfl, Nat.le_of_ble_eq_true rfl⟩) ⟨cPT_blind, va_recv hK hP (ci := 6) (q0 := 0) rfl rfl, cPT_of hP hK hD hTX hS hFc⟩ rfl rfl hl.1 rfl (lv_room (Nat.le_of_ble_eq_true rfl)) dL_geared_131 ⟨(show (((8 + k * 40 + e9 * 2) + 1) + 0) + 1 ≤ 2600 by omega), (show (((48 + k * 240 + e9 * 12) + 6) + 0) + 6 ≤ 15600 by omega)⟩) hS (fun q _ h => hFc q h) hFc (fun q _ h => hFc q h) (fun E ce q9 u9 t9 H locs ht9 hal hpx hB hz1 hk1 hS hce hcv hcl => ?_) (fun rz u9 t9 H locs ht9 hal hw hB hz1 hk1 hS => ?_)
          · exact absurd hB.1.1 (by rw [hrs]; exact Nat.lt_irrefl 0)
          obtain ⟨vx4, i9⟩ := u9
          obtain ⟨hP1, hK1, hD1⟩ := hB
          rw [ht9] at hP1
          have hP2 := hP1
          have hD2 := hD1.weaken (fun _ _ _ h => hFc _ h)
          dsimp only at hw
          obtain ⟨hch, hI9, hJ9, hr9⟩ := hw
          have hz : rz.toInt = 1 := (Prod.mk.inj (hr9.symm.trans hrs)).2
          rw [nI_tt (by omega), (EG_2 hI0 hE).2, hco1] at hch
          have hE9 : EG v (gF v.1 k) vx4 := EG_chg hI0 hE hGl hch
          have hI := hI9
          have hJ := hJ9
          have hE := hE9
          have hP : va_P D vwCl (WX K ad q q1 q2 g r r2 vx4 i9) H := hP2
          have hD : va_D A (WX K ad q q1 q2 g r r2 vx4 i9) := hD2
          refine t_i ((i32_eq rz (nI 1)).mpr (by rw [nI_toIntI (by decide)]; exact hz)) ?_
          refine b_if_ne hx hb (nI_toIntI (by omega)) dL_geared_134 (tgt := 139) (by decide) (fun c134 => ?_) (fun c134 => absurd c134 (by omega))
          refine lv_iinc (v := nI (e9 + 1)) (lv' := [(6, .int (nI (e9 + 1))), (0, .ref (ad 0)), (1, .int (nI me)), (2, .int (nI (gN v.1))), (3, .int (nI (dn v.1 8 2))), (4, .int (nI k)), (5, .int (nI (gF v.1 k)))]) hx hb dL_geared_139 hl (k := 6) rfl (nI_add e9 1) (by decide) rfl (fun ls hl => ?_)
          refine lv_goto (tgt := 92) hx hb dL_geared_142 (by decide) ?_
          refine W.widen (k := 8 + k * 40 + (e9 + 1) * 2) (n := 48 + k * 240 + (e9 + 1) * 12) (by omega) (by omega) ?_
          exact ih92 vx4 i9 (e9 + 1) _ _ _ (by omega) hI hJ hE (by omega) hP hD hS (lv_sub hl [1, 2, 3, 4, 5, 6, 0] rfl)
      exact L92 _ vx2 i9 0 _ _ _ (Nat.lt_succ_self _) hI hJ hE (Nat.zero_le _) hP hD hS (lv_sub hl [2, 3, 4, 5, 6, 1, 0] rfl)
  exact L14 _ v i9 0 (dn v.1 8 2) _ _ _ (Nat.lt_succ_self _) hI hJ (EG_refl hI) (Nat.zero_le _) hP hD hS (lv_sub hl [3, 4, 2, 1, 0] rfl)
