/-! PlanetaryGearboxModel: torque, ratioAsFloat -/
set_option maxHeartbeats 4000000 in
set_option maxRecDepth 100000 in
theorem c_X7_torque (l : Launch) (D : va_G) (K : Nat → ClassId) (mm : Nat → Nat) (v : CV) (w0 : MS) (x y : Int32) (sz : Nat) (hI : IV v) (hR : RM v w0)  : Met l yX7_torque (.code yX7_torque cX7_torque 3 (some .long) :: TB) ({ frames := 5, cells := 0, slots := 0, locals := 127 } : Room) (va_Pc [.ref (mm 0), .int x, .int y] (cP D K (WMu K mm w0) sz)) (va_Ql (fun (z : Int64) (u : MS) => RM v u ∧ u.2.2.2.2.2.1 = nI (rs_torque v.1 x y).1 ∧ ((rs_torque v.1 x y).1 = 0 → z.toInt = (rs_torque v.1 x y).2)) (fun (u : MS) t => cB D K (va_A (WMu K mm w0) sz) (WMu K mm u) t) (va_A (WMu K mm w0) sz)) 0 0 (va_A (WMu K mm w0) sz) := by
  refine Met.ofW (cc := cX7_torque) (maxL := 3) (ret := (some .long)) (by decide) rfl ?_
  intro p e s m args below meth c s₁ B hml hv
  obtain ⟨rfl, hsz, hP, hK, hD0⟩ := hv
  have hx := B.exec
  have hb := B.bytes
  have hr := B.returns
  have hts := hts_tl (atoms_spec (ws := (.code yX7_torque cX7_torque 3 (some .long) :: TB)) B.pre)
  have hown : s.vm.findClass RX7 = some m.cls := findClass_of_methodNamed B.named
  have hlocks := B.notSynchronized
  subst hsz
  have hD := hD0.self (sz := s.heap.size)
  generalize hAe : (va_A (WMu K mm w0) s.heap.size) = A at hD ⊢
  have hA : ∀ q : Nat, s.heap.size ≤ q → A q := fun q h => by rw [← hAe]; exact Or.inr h
  have hS : va_S A s.heap s.heap [] := va_S.rf
  clear hAe hD0
  obtain ⟨d, d1, d2, f1, f2, f, s0⟩ := v
  obtain ⟨ta, sl, ss, be, ch, th, M, rq, cq, pv, so, st, gs, gm, gu, gl, aw⟩ := w0
  obtain ⟨hd, hd1, hd2, hf1, hf2, hs20, hhf⟩ := id hI
  obtain ⟨hat, hat1, hat2, hss0, hss1, hch, hbe⟩ := id hR
  dsimp only at hd hd1 hd2 hf1 hf2 hs20 hhf hat hat1 hat2 hss0 hss1 hch hbe
  obtain ⟨n, m1, ge, hn, hm, hge, h0, h1, h2, hs9, he9⟩ := id hd
  obtain ⟨ha1, ha2, ha33, ha34, ha35⟩ := id hat
  have hp6 : 2 ^ m1 ≤ 64 := Nat.pow_le_pow_right (show 0 < 2 by decide) hm
  have h33 := ha33.trans h0
  have h34 := ha34.trans h1
  have h35 := ha35.trans h2
  have hn1 : dn d 8 0 = n := dn_of h0 (by omega)
  have hm1 : dn d 8 1 = m1 := dn_of h1 (by omega)
  have hg1 : dn d 8 2 = ge := dn_of h2 (by omega)
  have hP : va_P D vwCl (WM K mm ta sl ss be ch th M rq cq pv so st gs gm gu gl aw) s.heap := hP
  have hD : va_D A (WM K mm ta sl ss be ch th M rq cq pv so st gs gm gu gl aw) := hD
  have hl := lv_entry ([.ref (mm 0), .int x, .int y]) (n := 3) (Nat.le_of_ble_eq_true rfl)
  rw [lg_entry_eq]
  generalize (lg_sl ([.ref (mm 0), .int x, .int y]) ++ List.replicate (3 - (lg_sl ([.ref (mm 0), .int x, .int y])).length) Slot.unset).toArray = ls at hl ⊢
  have hl : lv_has ls 3 [(0, .ref (mm 0)), (1, .int x), (2, .int y)] := hl
  refine lv_aload_n hx hb dX7_torque_0 rfl (lv_at hl 0 rfl) ?_
  refine lv_aload_n hx hb dX7_torque_1 rfl (lv_at hl 0 rfl) ?_
  refine lv_iload_n hx hb dX7_torque_2 rfl (lv_at hl 1 rfl) ?_
  refine va_calli (va_runV (As := [.int x]) (rest := [.ref (mm 0)]) ⟨hx, hb, hml, hown, hts⟩ (c_X7_isElement l D K mm ta sl ss be ch th M rq cq pv so st gs gm gu gl aw m1 x s.heap.size hm h34) (cwV 1 hts (TB_V k_m_X7_61 k_im_X7_isElement k_se_X7_isElement k_in_X7 k_co_X7_isElement (fun _ h => h)) rfl rfl rfl (by decide +kernel) ⟨Nat.le_of_ble_eq_true rfl, Nat.le_of_ble_eq_true rfl⟩) ⟨cP_blind, va_recv hK hP (ci := 7) (q0 := 0) rfl rfl, cP_of hP hK hD⟩ rfl rfl hl.1 rfl (lv_room (Nat.le_of_ble_eq_true rfl)) dX7_torque_3 ⟨Nat.le_of_ble_eq_true rfl, Nat.le_of_ble_eq_true rfl⟩) hS (fun q _ h => absurd h id) (fun q h => absurd h id) (fun he u9 t9 H locs ht9 hvm hw hB hz1 hk1 hS => ?_)
  have hP := P_same hP hk1
  have hw := hw.trans (bI_iff (show _ ↔ elm d x by unfold elm; rw [hm1]))
  by_cases hel : elm d x
  rotate_left
  · refine t_i (hw.trans (bI_f hel).symm) ?_
    refine b_if_ne hx hb (nI_toIntI (by omega)) dX7_torque_6 (tgt := 13) (by decide) (fun c6 => absurd c6 (by omega)) (fun c6 => ?_)
    refine lv_iconst (v := nI 1) hx hb dX7_torque_9 (by decide) ?_
    refine lv_goto (tgt := 43) hx hb dX7_torque_10 (by decide) ?_
    refine va_put (D := D) (ci := 7) (v := .int (nI 1)) (ty := .int) (C := RX7) (T := TX7) (N := 17) hx hb hts iX7 tyX7 tyX7_ok nmX7 hown hK hP hD hS 0 rfl rfl 5 (by decide) (hts _ k_f_X7_45) (fun _ h9 => h9) rfl (by decide +kernel) rfl rfl (Nat.le_of_ble_eq_true rfl) dX7_torque_43 (fun H locs hP hD hS => ?_)
    have hP : va_P D vwCl (WM K mm ta sl ss be ch (nI 1) M rq cq pv so st gs gm gu gl aw) H := hP
    have hD : va_D A (WM K mm ta sl ss be ch (nI 1) M rq cq pv so st gs gm gu gl aw) := hD
    refine lv_aload_n hx hb dX7_torque_46 rfl (lv_at hl 0 rfl) ?_
    refine va_get (D := D) (ci := 7) (C := RX7) (T := TX7) (N := 17) hx hb hts iX7 hown hK hP 0 rfl rfl 5 (by decide) (hts _ k_f_X7_45) (fun _ h9 => h9) rfl dX7_torque_47 ?_
    refine b_if_eq hx hb (nI_toIntI (by omega)) dX7_torque_50 (tgt := 55) (by decide) (fun c50 => absurd c50 (by omega)) (fun c50 => ?_)
    refine lv_lconst (v := 0) hx hb dX7_torque_53 (by decide) ?_
    have hrs : rs_torque d x y = _ := (cI_t (hel))
    exact W.lret (v := (0 : Int64)) hx hb hr (fun t9 ht9 hW => ⟨⟨(0 : Int64), (ta, sl, ss, be, ch, (nI 1), M, rq, cq, pv, so, st, gs, gm, gu, gl, aw), rfl, ⟨hR, by rw [hrs], by rw [hrs]; exact fun h9 => absurd h9 (by decide)⟩, by rw [ht9]; exact hP, va_K.moved hW.alike hK, hD⟩, hS.F ht9⟩) hS.2.2 dX7_torque_54
  refine t_i (hw.trans (bI_t hel).symm) ?_
  obtain ⟨ke, hke, rfl⟩ := id hel
  have hke2 := hke
  rw [hm1] at hke2
  have hkn : (nI ke).toInt.toNat = ke := by rw [nI_toIntI (by omega)]; omega
  refine b_if_ne hx hb (nI_toIntI (by omega)) dX7_torque_6 (tgt := 13) (by decide) (fun c6 => ?_) (fun c6 => absurd c6 (by omega))
  refine lv_iload_n hx hb dX7_torque_13 rfl (lv_at hl 2 rfl) ?_
  refine va_calli (va_runS (As := [.int y]) (rest := [.ref (mm 0)]) ⟨hx, hb, hml, hown, hts⟩ (c_X7_isPart l y ) (va_cwS 1 hts (TB_S k_m_X7_131 k_st_X7_isPart k_in_X7 k_co_X7_isPart (fun _ h => h)) rfl rfl rfl (by decide +kernel) ⟨Nat.le_of_ble_eq_true rfl, Nat.le_of_ble_eq_true rfl⟩) ⟨tP_blind, tP_of⟩ rfl rfl hl.1 rfl (lv_room (Nat.le_of_ble_eq_true rfl)) dX7_torque_14 ⟨Nat.le_of_ble_eq_true rfl, Nat.le_of_ble_eq_true rfl⟩) hS (fun q _ h => absurd h id) (fun q h => absurd h id) (fun rs u9 t9 H locs ht9 hvm hw hB hz1 hk1 hS => ?_)
  have hP := P_same hP hk1
  by_cases hprt : prt y
  rotate_left
  · refine t_i (hw.trans (bI_f hprt).symm) ?_
    refine b_if_ne hx hb (nI_toIntI (by omega)) dX7_torque_17 (tgt := 24) (by decide) (fun c17 => absurd c17 (by omega)) (fun c17 => ?_)
    refine lv_iconst (v := nI 2) hx hb dX7_torque_20 (by decide) ?_
    refine lv_goto (tgt := 43) hx hb dX7_torque_21 (by decide) ?_
    refine va_put (D := D) (ci := 7) (v := .int (nI 2)) (ty := .int) (C := RX7) (T := TX7) (N := 17) hx hb hts iX7 tyX7 tyX7_ok nmX7 hown hK hP hD hS 0 rfl rfl 5 (by decide) (hts _ k_f_X7_45) (fun _ h9 => h9) rfl (by decide +kernel) rfl rfl (Nat.le_of_ble_eq_true rfl) dX7_torque_43 (fun H locs hP hD hS => ?_)
    have hP : va_P D vwCl (WM K mm ta sl ss be ch (nI 2) M rq cq pv so st gs gm gu gl aw) H := hP
    have hD : va_D A (WM K mm ta sl ss be ch (nI 2) M rq cq pv so st gs gm gu gl aw) := hD
    refine lv_aload_n hx hb dX7_torque_46 rfl (lv_at hl 0 rfl) ?_
    refine va_get (D := D) (ci := 7) (C := RX7) (T := TX7) (N := 17) hx hb hts iX7 hown hK hP 0 rfl rfl 5 (by decide) (hts _ k_f_X7_45) (fun _ h9 => h9) rfl dX7_torque_47 ?_
    refine b_if_eq hx hb (nI_toIntI (by omega)) dX7_torque_50 (tgt := 55) (by decide) (fun c50 => absurd c50 (by omega)) (fun c50 => ?_)
    refine lv_lconst (v := 0) hx hb dX7_torque_53 (by decide) ?_
    have hrs : rs_torque d (nI ke) y = _ := ((cI_f (fun z => z hel)).trans (cI_t (hprt)))
    exact W.lret (v := (0 : Int64)) hx hb hr (fun t9 ht9 hW => ⟨⟨(0 : Int64), (ta, sl, ss, be, ch, (nI 2), M, rq, cq, pv, so, st, gs, gm, gu, gl, aw), rfl, ⟨hR, by rw [hrs], by rw [hrs]; exact fun h9 => absurd h9 (by decide)⟩, by rw [ht9]; exact hP, va_K.moved hW.alike hK, hD⟩, hS.F ht9⟩) hS.2.2 dX7_torque_54
  refine t_i (hw.trans (bI_t hprt).symm) ?_
  obtain ⟨kp, hkp, rfl⟩ := id hprt
  have hkpn : (nI kp).toInt.toNat = kp := by rw [nI_toIntI (by omega)]; omega
  refine b_if_ne hx hb (nI_toIntI (by omega)) dX7_torque_17 (tgt := 24) (by decide) (fun c17 => ?_) (fun c17 => absurd c17 (by omega))
  refine lv_aload_n hx hb dX7_torque_24 rfl (lv_at hl 0 rfl) ?_
  refine va_get (D := D) (ci := 7) (C := RX7) (T := TX7) (N := 17) hx hb hts iX7 hown hK hP 0 rfl rfl 0 (by decide) (hts _ k_f_X7_7) (fun _ h9 => h9) rfl dX7_torque_25 ?_
  refine lv_bipush (v := nI 35) hx hb dX7_torque_28 (by decide) ?_
  refine n_iald hx hb hK hP 1 0 rfl rfl (i := 35) (n := 36) (by omega) (by decide) dX7_torque_30 ?_
  refine t_i (show _ = nI ge from h35) ?_
  refine lv_iload_n hx hb dX7_torque_31 rfl (lv_at hl 1 rfl) ?_
  refine va_calli (va_runS (As := [.int (nI ge), .int (nI ke)]) (rest := [.ref (mm 0)]) ⟨hx, hb, hml, hown, hts⟩ (c_X7_has l ke ge (by omega) (by omega)) (va_cwS 2 hts (TB_S k_m_X7_73 k_st_X7_has k_in_X7 k_co_X7_has (fun _ h => h)) rfl rfl rfl (by decide +kernel) ⟨Nat.le_of_ble_eq_true rfl, Nat.le_of_ble_eq_true rfl⟩) ⟨tP_blind, tP_of⟩ rfl rfl hl.1 rfl (lv_room (Nat.le_of_ble_eq_true rfl)) dX7_torque_32 ⟨Nat.le_of_ble_eq_true rfl, Nat.le_of_ble_eq_true rfl⟩) hS (fun q _ h => absurd h id) (fun q h => absurd h id) (fun hz9 u9 t9 H locs ht9 hvm hw hB hz1 hk1 hS => ?_)
  have hP := P_same hP hk1
  by_cases hen : ge.testBit ke = true
  rotate_left
  · refine t_i (hw.trans (bI_f hen).symm) ?_
    refine b_if_ne hx hb (nI_toIntI (by omega)) dX7_torque_35 (tgt := 42) (by decide) (fun c35 => absurd c35 (by omega)) (fun c35 => ?_)
    refine lv_iconst (v := nI 3) hx hb dX7_torque_38 (by decide) ?_
    refine lv_goto (tgt := 43) hx hb dX7_torque_39 (by decide) ?_
    refine va_put (D := D) (ci := 7) (v := .int (nI 3)) (ty := .int) (C := RX7) (T := TX7) (N := 17) hx hb hts iX7 tyX7 tyX7_ok nmX7 hown hK hP hD hS 0 rfl rfl 5 (by decide) (hts _ k_f_X7_45) (fun _ h9 => h9) rfl (by decide +kernel) rfl rfl (Nat.le_of_ble_eq_true rfl) dX7_torque_43 (fun H locs hP hD hS => ?_)
    have hP : va_P D vwCl (WM K mm ta sl ss be ch (nI 3) M rq cq pv so st gs gm gu gl aw) H := hP
    have hD : va_D A (WM K mm ta sl ss be ch (nI 3) M rq cq pv so st gs gm gu gl aw) := hD
    refine lv_aload_n hx hb dX7_torque_46 rfl (lv_at hl 0 rfl) ?_
    refine va_get (D := D) (ci := 7) (C := RX7) (T := TX7) (N := 17) hx hb hts iX7 hown hK hP 0 rfl rfl 5 (by decide) (hts _ k_f_X7_45) (fun _ h9 => h9) rfl dX7_torque_47 ?_
    refine b_if_eq hx hb (nI_toIntI (by omega)) dX7_torque_50 (tgt := 55) (by decide) (fun c50 => absurd c50 (by omega)) (fun c50 => ?_)
    refine lv_lconst (v := 0) hx hb dX7_torque_53 (by decide) ?_
    have hrs : rs_torque d (nI ke) (nI kp) = _ := ((cI_f (fun z => z hel)).trans ((cI_f (fun z => z hprt)).trans (cI_t (by rw [hg1, hkn]; exact hen))))
    exact W.lret (v := (0 : Int64)) hx hb hr (fun t9 ht9 hW => ⟨⟨(0 : Int64), (ta, sl, ss, be, ch, (nI 3), M, rq, cq, pv, so, st, gs, gm, gu, gl, aw), rfl, ⟨hR, by rw [hrs], by rw [hrs]; exact fun h9 => absurd h9 (by decide)⟩, by rw [ht9]; exact hP, va_K.moved hW.alike hK, hD⟩, hS.F ht9⟩) hS.2.2 dX7_torque_54
  refine t_i (hw.trans (bI_t hen).symm) ?_
  refine b_if_ne hx hb (nI_toIntI (by omega)) dX7_torque_35 (tgt := 42) (by decide) (fun c35 => ?_) (fun c35 => absurd c35 (by omega))
  refine lv_iconst (v := nI 0) hx hb dX7_torque_42 (by decide) ?_
  refine va_put (D := D) (ci := 7) (v := .int (nI 0)) (ty := .int) (C := RX7) (T := TX7) (N := 17) hx hb hts iX7 tyX7 tyX7_ok nmX7 hown hK hP hD hS 0 rfl rfl 5 (by decide) (hts _ k_f_X7_45) (fun _ h9 => h9) rfl (by decide +kernel) rfl rfl (Nat.le_of_ble_eq_true rfl) dX7_torque_43 (fun H locs hP hD hS => ?_)
  have hP : va_P D vwCl (WM K mm ta sl ss be ch (nI 0) M rq cq pv so st gs gm gu gl aw) H := hP
  have hD : va_D A (WM K mm ta sl ss be ch (nI 0) M rq cq pv so st gs gm gu gl aw) := hD
  refine lv_aload_n hx hb dX7_torque_46 rfl (lv_at hl 0 rfl) ?_
  refine va_get (D := D) (ci := 7) (C := RX7) (T := TX7) (N := 17) hx hb hts iX7 hown hK hP 0 rfl rfl 5 (by decide) (hts _ k_f_X7_45) (fun _ h9 => h9) rfl dX7_torque_47 ?_
  refine b_if_eq hx hb (nI_toIntI (by omega)) dX7_torque_50 (tgt := 55) (by decide) (fun c50 => ?_) (fun c50 => absurd c50 (by omega))
  refine lv_aload_n hx hb dX7_torque_55 rfl (lv_at hl 0 rfl) ?_
  have hFc := freeAll hD hS hA
  refine va_callv (va_runV (As := []) (rest := []) ⟨hx, hb, hml, hown, hts⟩ (c_X7_layTorques l D K mm ta sl ss be ch (nI 0) M rq cq pv so st gs gm gu gl aw d H.size hd hat) (cwV 0 hts (TB_V k_m_X7_144 k_im_X7_layTorques k_se_X7_layTorques k_in_X7 k_co_X7_layTorques (fun _ h => h)) rfl rfl rfl (by decide +kernel) ⟨Nat.le_of_ble_eq_true rfl, Nat.le_of_ble_eq_true rfl⟩) ⟨cP_blind, va_recv hK hP (ci := 7) (q0 := 0) rfl rfl, cP_of hP hK hD⟩ rfl rfl hl.1 rfl (lv_room (Nat.le_of_ble_eq_true rfl)) dX7_torque_56 ⟨Nat.le_of_ble_eq_true rfl, Nat.le_of_ble_eq_true rfl⟩) hS (fun q _ h => hFc q h) hFc (fun u7 t9 H locs ht9 hvm hw hB hz1 hk1 hS => ?_)
  obtain ⟨hP, hK1, hD1⟩ := hB
  rw [ht9] at hP
  have hD := hD1.weaken (fun _ _ _ h => hFc _ h)
  have hP : va_P D vwCl (WM K mm ta sl ss be ch (nI 0) u7.1 (nI 6) (nI 10) u7.2.1 u7.2.2 st gs gm gu gl aw) H := hP
  have hD : va_D A (WM K mm ta sl ss be ch (nI 0) u7.1 (nI 6) (nI 10) u7.2.1 u7.2.2 st gs gm gu gl aw) := hD
  have hs1 := hw
  rw [hg1] at hs1
  refine lv_aload_n hx hb dX7_torque_59 rfl (lv_at hl 0 rfl) ?_
  refine lv_aload_n hx hb dX7_torque_60 rfl (lv_at hl 0 rfl) ?_
  refine lv_iconst (v := nI 4) hx hb dX7_torque_61 (by decide) ?_
  refine lv_iload_n hx hb dX7_torque_62 rfl (lv_at hl 1 rfl) ?_
  refine lv_iadd hx hb dX7_torque_63 ?_
  refine t_i (nI_add _ _) ?_
  refine va_calli (va_runV (As := [.int (nI (4 + ke))]) (rest := [.ref (mm 0)]) ⟨hx, hb, hml, hown, hts⟩ (c_X7_isDetermined l D K mm ta sl ss be ch (nI 0) u7.1 (nI 6) (nI 10) u7.2.1 u7.2.2 st gs gm gu gl aw (TQ d ge) 6 10 (4 + ke) H.size (by decide) (by decide) rfl (by omega) hs1) (cwV 1 hts (TB_V k_m_X7_120 k_im_X7_isDetermined k_se_X7_isDetermined k_in_X7 k_co_X7_isDetermined (fun _ h => h)) rfl rfl rfl (by decide +kernel) ⟨Nat.le_of_ble_eq_true rfl, Nat.le_of_ble_eq_true rfl⟩) ⟨cP_blind, va_recv hK hP (ci := 7) (q0 := 0) rfl rfl, cP_of hP hK hD⟩ rfl rfl hl.1 rfl (lv_room (Nat.le_of_ble_eq_true rfl)) dX7_torque_64 ⟨Nat.le_of_ble_eq_true rfl, Nat.le_of_ble_eq_true rfl⟩) hS (fun q _ h => absurd h id) (fun q h => absurd h id) (fun dz u9 t9 H locs ht9 hvm hw hB hz1 hk1 hS => ?_)
  have hP := P_same hP hk1
  by_cases hdet : Solv (TQ d ge) ∧ DetS (TQ d ge) (4 + ke)
  rotate_left
  · refine t_i (hw.trans (bI_f hdet).symm) ?_
    refine b_if_eq hx hb (nI_toIntI (by omega)) dX7_torque_67 (tgt := 74) (by decide) (fun c67 => ?_) (fun c67 => absurd c67 (by omega))
    refine lv_iconst (v := nI 3) hx hb dX7_torque_74 (by decide) ?_
    refine va_put (D := D) (ci := 7) (v := .int (nI 3)) (ty := .int) (C := RX7) (T := TX7) (N := 17) hx hb hts iX7 tyX7 tyX7_ok nmX7 hown hK hP hD hS 0 rfl rfl 5 (by decide) (hts _ k_f_X7_45) (fun _ h9 => h9) rfl (by decide +kernel) rfl rfl (Nat.le_of_ble_eq_true rfl) dX7_torque_75 (fun H locs hP hD hS => ?_)
    have hP : va_P D vwCl (WM K mm ta sl ss be ch (nI 3) u7.1 (nI 6) (nI 10) u7.2.1 u7.2.2 st gs gm gu gl aw) H := hP
    have hD : va_D A (WM K mm ta sl ss be ch (nI 3) u7.1 (nI 6) (nI 10) u7.2.1 u7.2.2 st gs gm gu gl aw) := hD
    refine lv_aload_n hx hb dX7_torque_78 rfl (lv_at hl 0 rfl) ?_
    refine va_get (D := D) (ci := 7) (C := RX7) (T := TX7) (N := 17) hx hb hts iX7 hown hK hP 0 rfl rfl 5 (by decide) (hts _ k_f_X7_45) (fun _ h9 => h9) rfl dX7_torque_79 ?_
    refine b_if_eq hx hb (nI_toIntI (by omega)) dX7_torque_82 (tgt := 89) (by decide) (fun c82 => absurd c82 (by omega)) (fun c82 => ?_)
    refine lv_lconst (v := 0) hx hb dX7_torque_85 (by decide) ?_
    refine lv_goto (tgt := 107) hx hb dX7_torque_86 (by decide) ?_
    have hrs : rs_torque d (nI ke) (nI kp) = _ := ((cI_f (fun z => z hel)).trans ((cI_f (fun z => z hprt)).trans ((cI_f (fun z => z (by rw [hg1, hkn]; exact hen))).trans (cI_t (by rw [hg1, hkn]; exact hdet)))))
    exact W.lret (v := (0 : Int64)) hx hb hr (fun t9 ht9 hW => ⟨⟨(0 : Int64), (ta, sl, ss, be, ch, (nI 3), u7.1, (nI 6), (nI 10), u7.2.1, u7.2.2, st, gs, gm, gu, gl, aw), rfl, ⟨hR, by rw [hrs], by rw [hrs]; exact fun h9 => absurd h9 (by decide)⟩, by rw [ht9]; exact hP, va_K.moved hW.alike hK, hD⟩, hS.F ht9⟩) hS.2.2 dX7_torque_107
  refine t_i (hw.trans (bI_t hdet).symm) ?_
  obtain ⟨kv, hkv, hpv9, hne9, hb19, hb29, hvn, hvd⟩ := hs1.val (by decide) (by decide) (t := (4 + ke)) (by omega) hdet.1 hdet.2
  refine b_if_eq hx hb (nI_toIntI (by omega)) dX7_torque_67 (tgt := 74) (by decide) (fun c67 => absurd c67 (by omega)) (fun c67 => ?_)
  refine lv_iconst (v := nI 0) hx hb dX7_torque_70 (by decide) ?_
  refine lv_goto (tgt := 75) hx hb dX7_torque_71 (by decide) ?_
  refine va_put (D := D) (ci := 7) (v := .int (nI 0)) (ty := .int) (C := RX7) (T := TX7) (N := 17) hx hb hts iX7 tyX7 tyX7_ok nmX7 hown hK hP hD hS 0 rfl rfl 5 (by decide) (hts _ k_f_X7_45) (fun _ h9 => h9) rfl (by decide +kernel) rfl rfl (Nat.le_of_ble_eq_true rfl) dX7_torque_75 (fun H locs hP hD hS => ?_)
  have hP : va_P D vwCl (WM K mm ta sl ss be ch (nI 0) u7.1 (nI 6) (nI 10) u7.2.1 u7.2.2 st gs gm gu gl aw) H := hP
  have hD : va_D A (WM K mm ta sl ss be ch (nI 0) u7.1 (nI 6) (nI 10) u7.2.1 u7.2.2 st gs gm gu gl aw) := hD
  refine lv_aload_n hx hb dX7_torque_78 rfl (lv_at hl 0 rfl) ?_
  refine va_get (D := D) (ci := 7) (C := RX7) (T := TX7) (N := 17) hx hb hts iX7 hown hK hP 0 rfl rfl 5 (by decide) (hts _ k_f_X7_45) (fun _ h9 => h9) rfl dX7_torque_79 ?_
  refine b_if_eq hx hb (nI_toIntI (by omega)) dX7_torque_82 (tgt := 89) (by decide) (fun c82 => ?_) (fun c82 => absurd c82 (by omega))
  refine lv_aload_n hx hb dX7_torque_89 rfl (lv_at hl 0 rfl) ?_
  refine lv_iconst (v := nI 4) hx hb dX7_torque_90 (by decide) ?_
  refine lv_iload_n hx hb dX7_torque_91 rfl (lv_at hl 1 rfl) ?_
  refine lv_iadd hx hb dX7_torque_92 ?_
  refine t_i (nI_add _ _) ?_
  refine va_calll (va_runV (As := [.int (nI (4 + ke))]) (rest := []) ⟨hx, hb, hml, hown, hts⟩ (c_X7_upper l D K mm ta sl ss be ch (nI 0) u7.1 (nI 6) (nI 10) u7.2.1 u7.2.2 st gs gm gu gl aw kv (4 + ke) H.size (by omega) (by omega) hpv9 hb19 hb29) (cwV 1 hts (TB_V k_m_X7_123 k_im_X7_upper k_se_X7_upper k_in_X7 k_co_X7_upper (fun _ h => h)) rfl rfl rfl (by decide +kernel) ⟨Nat.le_of_ble_eq_true rfl, Nat.le_of_ble_eq_true rfl⟩) ⟨cP_blind, va_recv hK hP (ci := 7) (q0 := 0) rfl rfl, cP_of hP hK hD⟩ rfl rfl hl.1 rfl (lv_room (Nat.le_of_ble_eq_true rfl)) dX7_torque_93 ⟨Nat.le_of_ble_eq_true rfl, Nat.le_of_ble_eq_true rfl⟩) hS (fun q _ h => absurd h id) (fun q h => absurd h id) (fun up u9 t9 H locs ht9 hvm hw hB hz1 hk1 hS => ?_)
  have hP := P_same hP hk1
  have hup := hw
  have hBB : BB = 351232000 := rfl
  have hupb : up.toInt.natAbs ≤ BB := by rw [hup]; split <;> omega
  refine lv_aload_n hx hb dX7_torque_96 rfl (lv_at hl 0 rfl) ?_
  refine lv_iconst (v := nI 4) hx hb dX7_torque_97 (by decide) ?_
  refine lv_iload_n hx hb dX7_torque_98 rfl (lv_at hl 1 rfl) ?_
  refine lv_iadd hx hb dX7_torque_99 ?_
  refine t_i (nI_add _ _) ?_
  refine va_calll (va_runV (As := [.int (nI (4 + ke))]) (rest := [.long up]) ⟨hx, hb, hml, hown, hts⟩ (c_X7_lower l D K mm ta sl ss be ch (nI 0) u7.1 (nI 6) (nI 10) u7.2.1 u7.2.2 st gs gm gu gl aw kv (4 + ke) H.size (by omega) (by omega) hpv9 hb19 hb29) (cwV 1 hts (TB_V k_m_X7_134 k_im_X7_lower k_se_X7_lower k_in_X7 k_co_X7_lower (fun _ h => h)) rfl rfl rfl (by decide +kernel) ⟨Nat.le_of_ble_eq_true rfl, Nat.le_of_ble_eq_true rfl⟩) ⟨cP_blind, va_recv hK hP (ci := 7) (q0 := 0) rfl rfl, cP_of hP hK hD⟩ rfl rfl hl.1 rfl (lv_room (Nat.le_of_ble_eq_true rfl)) dX7_torque_100 ⟨Nat.le_of_ble_eq_true rfl, Nat.le_of_ble_eq_true rfl⟩) hS (fun q _ h => absurd h id) (fun q h => absurd h id) (fun lo u9 t9 H locs ht9 hvm hw hB hz1 hk1 hS => ?_)
  have hP := P_same hP hk1
  have hlo := hw
  refine lv_iload_n hx hb dX7_torque_103 rfl (lv_at hl 2 rfl) ?_
  refine va_calll (va_runS (As := [.long up, .long lo, .int (nI kp)]) (rest := []) ⟨hx, hb, hml, hown, hts⟩ (c_X7_part l up lo kp hkp hupb (by rw [hlo]; omega) (by rw [hlo]; omega)) (va_cwS 3 hts (TB_S k_m_X7_137 k_st_X7_part k_in_X7 k_co_X7_part (fun _ h => h)) rfl rfl rfl (by decide +kernel) ⟨Nat.le_of_ble_eq_true rfl, Nat.le_of_ble_eq_true rfl⟩) ⟨tP_blind, tP_of⟩ rfl rfl hl.1 rfl (lv_room (Nat.le_of_ble_eq_true rfl)) dX7_torque_104 ⟨Nat.le_of_ble_eq_true rfl, Nat.le_of_ble_eq_true rfl⟩) hS (fun q _ h => absurd h id) (fun q h => absurd h id) (fun rz u9 t9 H locs ht9 hvm hw hB hz1 hk1 hS => ?_)
  have hP := P_same hP hk1
  obtain ⟨hr1, hr2⟩ := val_fin hne9 hup hlo
  have hw := hw.trans (by rw [hr1, hr2, hvn, hvd])
  have hrs : rs_torque d (nI ke) (nI kp) = _ := ((cI_f (fun z => z hel)).trans ((cI_f (fun z => z hprt)).trans ((cI_f (fun z => z (by rw [hg1, hkn]; exact hen))).trans ((cI_f (fun z => z (by rw [hg1, hkn]; exact hdet))).trans (rfl)))))
  exact W.lret (v := rz) hx hb hr (fun t9 ht9 hW => ⟨⟨rz, (ta, sl, ss, be, ch, (nI 0), u7.1, (nI 6), (nI 10), u7.2.1, u7.2.2, st, gs, gm, gu, gl, aw), rfl, ⟨hR, by rw [hrs], by rw [hrs]; exact fun h9 => by rw [hg1, hkn, hkpn]; exact hw⟩, by rw [ht9]; exact hP, va_K.moved hW.alike hK, hD⟩, hS.F ht9⟩) hS.2.2 dX7_torque_107
set_option maxHeartbeats 4000000 in
set_option maxRecDepth 100000 in
theorem c_X7_engaged (l : Launch) (D : va_G) (K : Nat → ClassId) (mm : Nat → Nat) (v : CV) (w0 : MS)  (sz : Nat) (hI : IV v) (hR : RM v w0)  : Met l yX7_engaged (.code yX7_engaged cX7_engaged 1 (some .int) :: TB) ({ frames := 0, cells := 0, slots := 0, locals := 0 } : Room) (va_Pc [.ref (mm 0)] (cP D K (WMu K mm w0) sz)) (va_Qi (fun (z : Int32) (u : MS) => RM v u ∧ u.2.2.2.2.2.1 = nI 0 ∧ z = v.1 8 2) (fun (u : MS) t => cB D K (va_A (WMu K mm w0) sz) (WMu K mm u) t) (va_A (WMu K mm w0) sz)) 0 0 (va_A (WMu K mm w0) sz) := by
  refine Met.ofW (cc := cX7_engaged) (maxL := 1) (ret := (some .int)) (by decide) rfl ?_
  intro p e s m args below meth c s₁ B hml hv
  obtain ⟨rfl, hsz, hP, hK, hD0⟩ := hv
  have hx := B.exec
  have hb := B.bytes
  have hr := B.returns
  have hts := hts_tl (atoms_spec (ws := (.code yX7_engaged cX7_engaged 1 (some .int) :: TB)) B.pre)
  have hown : s.vm.findClass RX7 = some m.cls := findClass_of_methodNamed B.named
  have hlocks := B.notSynchronized
  subst hsz
  have hD := hD0.self (sz := s.heap.size)
  generalize hAe : (va_A (WMu K mm w0) s.heap.size) = A at hD ⊢
  have hA : ∀ q : Nat, s.heap.size ≤ q → A q := fun q h => by rw [← hAe]; exact Or.inr h
  have hS : va_S A s.heap s.heap [] := va_S.rf
  clear hAe hD0
  obtain ⟨d, d1, d2, f1, f2, f, s0⟩ := v
  obtain ⟨ta, sl, ss, be, ch, th, M, rq, cq, pv, so, st, gs, gm, gu, gl, aw⟩ := w0
  obtain ⟨hd, hd1, hd2, hf1, hf2, hs20, hhf⟩ := id hI
  obtain ⟨hat, hat1, hat2, hss0, hss1, hch, hbe⟩ := id hR
  dsimp only at hd hd1 hd2 hf1 hf2 hs20 hhf hat hat1 hat2 hss0 hss1 hch hbe
  obtain ⟨n, m1, ge, hn, hm, hge, h0, h1, h2, hs9, he9⟩ := id hd
  obtain ⟨ha1, ha2, ha33, ha34, ha35⟩ := id hat
  have hp6 : 2 ^ m1 ≤ 64 := Nat.pow_le_pow_right (show 0 < 2 by decide) hm
  have h33 := ha33.trans h0
  have h34 := ha34.trans h1
  have h35 := ha35.trans h2
  have hn1 : dn d 8 0 = n := dn_of h0 (by omega)
  have hm1 : dn d 8 1 = m1 := dn_of h1 (by omega)
  have hg1 : dn d 8 2 = ge := dn_of h2 (by omega)
  have hP : va_P D vwCl (WM K mm ta sl ss be ch th M rq cq pv so st gs gm gu gl aw) s.heap := hP
  have hD : va_D A (WM K mm ta sl ss be ch th M rq cq pv so st gs gm gu gl aw) := hD
  have hl := lv_entry ([.ref (mm 0)]) (n := 1) (Nat.le_of_ble_eq_true rfl)
  rw [lg_entry_eq]
  generalize (lg_sl ([.ref (mm 0)]) ++ List.replicate (1 - (lg_sl ([.ref (mm 0)])).length) Slot.unset).toArray = ls at hl ⊢
  have hl : lv_has ls 1 [(0, .ref (mm 0))] := hl
  refine lv_aload_n hx hb dX7_engaged_0 rfl (lv_at hl 0 rfl) ?_
  refine lv_iconst (v := nI 0) hx hb dX7_engaged_1 (by decide) ?_
  refine va_put (D := D) (ci := 7) (v := .int (nI 0)) (ty := .int) (C := RX7) (T := TX7) (N := 17) hx hb hts iX7 tyX7 tyX7_ok nmX7 hown hK hP hD hS 0 rfl rfl 5 (by decide) (hts _ k_f_X7_45) (fun _ h9 => h9) rfl (by decide +kernel) rfl rfl (Nat.le_of_ble_eq_true rfl) dX7_engaged_2 (fun H locs hP hD hS => ?_)
  have hP : va_P D vwCl (WM K mm ta sl ss be ch (nI 0) M rq cq pv so st gs gm gu gl aw) H := hP
  have hD : va_D A (WM K mm ta sl ss be ch (nI 0) M rq cq pv so st gs gm gu gl aw) := hD
  refine lv_aload_n hx hb dX7_engaged_5 rfl (lv_at hl 0 rfl) ?_
  refine va_get (D := D) (ci := 7) (C := RX7) (T := TX7) (N := 17) hx hb hts iX7 hown hK hP 0 rfl rfl 0 (by decide) (hts _ k_f_X7_7) (fun _ h9 => h9) rfl dX7_engaged_6 ?_
  refine lv_bipush (v := nI 35) hx hb dX7_engaged_9 (by decide) ?_
  refine n_iald hx hb hK hP 1 0 rfl rfl (i := 35) (n := 36) (by omega) (by decide) dX7_engaged_11 ?_
  refine t_i (show _ = nI ge from h35) ?_
  exact W.iret (v := nI ge) hx hb hr (fun t9 ht9 hW => ⟨⟨nI ge, (ta, sl, ss, be, ch, (nI 0), M, rq, cq, pv, so, st, gs, gm, gu, gl, aw), rfl, ⟨hR, rfl, h2.symm⟩, by rw [ht9]; exact hP, va_K.moved hW.alike hK, hD⟩, hS.F ht9⟩) hS.2.2 dX7_engaged_12
