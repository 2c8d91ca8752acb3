/-! PlanetaryGearboxModel: speed, ratio, torques -/
theorem val_fin {c p x y : Int} (hp : p ≠ 0) (hx : x = if p < 0 then -c else c) (hy : y = (p.natAbs : Int)) : x / (Nat.gcd x.natAbs y.natAbs : Nat) = Lnum c p ∧ y / (Nat.gcd x.natAbs y.natAbs : Nat) = Lden c p := by
  obtain ⟨h1, h2, h3⟩ := Lfacts (c := c) hp
  have e1 : y.natAbs = p.natAbs := by rw [hy]; omega
  have e2 : x.natAbs = c.natAbs := by rw [hx]; split <;> omega
  rw [e1, e2, Nat.gcd_comm]
  rw [← hx] at h1
  rw [← hy] at h2
  generalize Nat.gcd p.natAbs c.natAbs = G at h1 h2 h3 ⊢
  exact ⟨by rw [← h1]; exact Int.mul_ediv_cancel _ (by omega), by rw [← h2]; exact Int.mul_ediv_cancel _ (by omega)⟩
set_option maxHeartbeats 4000000 in
set_option maxRecDepth 100000 in
theorem c_X7_speed (l : Launch) (D : va_G) (K : Nat → ClassId) (mm : Nat → Nat) (v : CV) (w0 : MS) (x y : Int32) (sz : Nat) (hI : IV v) (hR : RM v w0)  : Met l yX7_speed (.code yX7_speed cX7_speed 3 (some .long) :: TB) ({ frames := 5, cells := 0, slots := 0, locals := 129 } : Room) (va_Pc [.ref (mm 0), .int x, .int y] (cP D K (WMu K mm w0) sz)) (va_Ql (fun (z : Int64) (u : MS) => RM v u ∧ u.2.2.2.2.2.1 = nI (rs_speed v.1 x y).1 ∧ ((rs_speed v.1 x y).1 = 0 → z.toInt = (rs_speed v.1 x y).2)) (fun (u : MS) t => cB D K (va_A (WMu K mm w0) sz) (WMu K mm u) t) (va_A (WMu K mm w0) sz)) 0 0 (va_A (WMu K mm w0) sz) := by
  refine Met.ofW (cc := cX7_speed) (maxL := 3) (ret := (some .long)) (by decide) rfl ?_
  intro p e s m args below meth c s₁ B hml hv
  obtain ⟨rfl, hsz, hP, hK, hD0⟩ := hv
  have hx := B.exec
  have hb := B.bytes
  have hr := B.returns
  have hts := hts_tl (atoms_spec (ws := (.code yX7_speed cX7_speed 3 (some .long) :: TB)) B.pre)
  have hown : s.vm.findClass RX7 = some m.cls := findClass_of_methodNamed B.named
  have hlocks := B.notSynchronized
  subst hsz
  have hD := hD0.self (sz := s.heap.size)
  generalize hAe : (va_A (WMu K mm w0) s.heap.size) = A at hD ⊢
  have hA : ∀ q : Nat, s.heap.size ≤ q → A q := fun q h => by rw [← hAe]; exact Or.inr h
  have hS : va_S A s.heap s.heap [] := va_S.rf
  clear hAe hD0
  obtain ⟨d, d1, d2, f1, f2, f, s0⟩ := v
  obtain ⟨ta, sl, ss, be, ch, th, M, rq, cq, pv, so, st, gs, gm, gu, gl, aw⟩ := w0
  obtain ⟨hd, hd1, hd2, hf1, hf2, hs20, hhf⟩ := id hI
  obtain ⟨hat, hat1, hat2, hss0, hss1, hch, hbe⟩ := id hR
  dsimp only at hd hd1 hd2 hf1 hf2 hs20 hhf hat hat1 hat2 hss0 hss1 hch hbe
  obtain ⟨n, m1, ge, hn, hm, hge, h0, h1, h2, hs9, he9⟩ := id hd
  obtain ⟨ha1, ha2, ha33, ha34, ha35⟩ := id hat
  have hp6 : 2 ^ m1 ≤ 64 := Nat.pow_le_pow_right (show 0 < 2 by decide) hm
  have h33 := ha33.trans h0
  have h34 := ha34.trans h1
  have h35 := ha35.trans h2
  have hn1 : dn d 8 0 = n := dn_of h0 (by omega)
  have hm1 : dn d 8 1 = m1 := dn_of h1 (by omega)
  have hg1 : dn d 8 2 = ge := dn_of h2 (by omega)
  have hP : va_P D vwCl (WM K mm ta sl ss be ch th M rq cq pv so st gs gm gu gl aw) s.heap := hP
  have hD : va_D A (WM K mm ta sl ss be ch th M rq cq pv so st gs gm gu gl aw) := hD
  have hl := lv_entry ([.ref (mm 0), .int x, .int y]) (n := 3) (Nat.le_of_ble_eq_true rfl)
  rw [lg_entry_eq]
  generalize (lg_sl ([.ref (mm 0), .int x, .int y]) ++ List.replicate (3 - (lg_sl ([.ref (mm 0), .int x, .int y])).length) Slot.unset).toArray = ls at hl ⊢
  have hl : lv_has ls 3 [(0, .ref (mm 0)), (1, .int x), (2, .int y)] := hl
  refine lv_aload_n hx hb dX7_speed_0 rfl (lv_at hl 0 rfl) ?_
  refine lv_iload_n hx hb dX7_speed_1 rfl (lv_at hl 1 rfl) ?_
  refine va_calli (va_runS (As := [.int x]) (rest := [.ref (mm 0)]) ⟨hx, hb, hml, hown, hts⟩ (c_X7_isShaft l x ) (va_cwS 1 hts (TB_S k_m_X7_53 k_st_X7_isShaft k_in_X7 k_co_X7_isShaft (fun _ h => h)) rfl rfl rfl (by decide +kernel) ⟨Nat.le_of_ble_eq_true rfl, Nat.le_of_ble_eq_true rfl⟩) ⟨tP_blind, tP_of⟩ rfl rfl hl.1 rfl (lv_room (Nat.le_of_ble_eq_true rfl)) dX7_speed_2 ⟨Nat.le_of_ble_eq_true rfl, Nat.le_of_ble_eq_true rfl⟩) hS (fun q _ h => absurd h id) (fun q h => absurd h id) (fun rs u9 t9 H locs ht9 hvm hw hB hz1 hk1 hS => ?_)
  have hP := P_same hP hk1
  by_cases hs_x : shf x
  rotate_left
  · refine t_i (hw.trans (bI_f hs_x).symm) ?_
    refine b_if_ne hx hb (nI_toIntI (by omega)) dX7_speed_5 (tgt := 12) (by decide) (fun c5 => absurd c5 (by omega)) (fun c5 => ?_)
    refine lv_iconst (v := nI 1) hx hb dX7_speed_8 (by decide) ?_
    refine lv_goto (tgt := 24) hx hb dX7_speed_9 (by decide) ?_
    refine va_put (D := D) (ci := 7) (v := .int (nI 1)) (ty := .int) (C := RX7) (T := TX7) (N := 17) hx hb hts iX7 tyX7 tyX7_ok nmX7 hown hK hP hD hS 0 rfl rfl 5 (by decide) (hts _ k_f_X7_45) (fun _ h9 => h9) rfl (by decide +kernel) rfl rfl (Nat.le_of_ble_eq_true rfl) dX7_speed_24 (fun H locs hP hD hS => ?_)
    have hP : va_P D vwCl (WM K mm ta sl ss be ch (nI 1) M rq cq pv so st gs gm gu gl aw) H := hP
    have hD : va_D A (WM K mm ta sl ss be ch (nI 1) M rq cq pv so st gs gm gu gl aw) := hD
    refine lv_aload_n hx hb dX7_speed_27 rfl (lv_at hl 0 rfl) ?_
    refine va_get (D := D) (ci := 7) (C := RX7) (T := TX7) (N := 17) hx hb hts iX7 hown hK hP 0 rfl rfl 5 (by decide) (hts _ k_f_X7_45) (fun _ h9 => h9) rfl dX7_speed_28 ?_
    refine b_if_eq hx hb (nI_toIntI (by omega)) dX7_speed_31 (tgt := 36) (by decide) (fun c31 => absurd c31 (by omega)) (fun c31 => ?_)
    refine lv_lconst (v := 0) hx hb dX7_speed_34 (by decide) ?_
    have hrs : rs_speed d x y = _ := (cI_t (hs_x))
    exact W.lret (v := (0 : Int64)) hx hb hr (fun t9 ht9 hW => ⟨⟨(0 : Int64), (ta, sl, ss, be, ch, (nI 1), M, rq, cq, pv, so, st, gs, gm, gu, gl, aw), rfl, ⟨hR, by rw [hrs], by rw [hrs]; exact fun h9 => absurd h9 (by decide)⟩, by rw [ht9]; exact hP, va_K.moved hW.alike hK, hD⟩, hS.F ht9⟩) hS.2.2 dX7_speed_35
  refine t_i (hw.trans (bI_t hs_x).symm) ?_
  obtain ⟨kx, hkx, rfl⟩ := id hs_x
  have hkxn : (nI kx).toInt.toNat = kx := by rw [nI_toIntI (by omega)]; omega
  refine b_if_ne hx hb (nI_toIntI (by omega)) dX7_speed_5 (tgt := 12) (by decide) (fun c5 => ?_) (fun c5 => absurd c5 (by omega))
  refine lv_iload_n hx hb dX7_speed_12 rfl (lv_at hl 2 rfl) ?_
  refine va_calli (va_runS (As := [.int y]) (rest := [.ref (mm 0)]) ⟨hx, hb, hml, hown, hts⟩ (c_X7_isPart l y ) (va_cwS 1 hts (TB_S k_m_X7_131 k_st_X7_isPart k_in_X7 k_co_X7_isPart (fun _ h => h)) rfl rfl rfl (by decide +kernel) ⟨Nat.le_of_ble_eq_true rfl, Nat.le_of_ble_eq_true rfl⟩) ⟨tP_blind, tP_of⟩ rfl rfl hl.1 rfl (lv_room (Nat.le_of_ble_eq_true rfl)) dX7_speed_13 ⟨Nat.le_of_ble_eq_true rfl, Nat.le_of_ble_eq_true rfl⟩) hS (fun q _ h => absurd h id) (fun q h => absurd h id) (fun rs u9 t9 H locs ht9 hvm hw hB hz1 hk1 hS => ?_)
  have hP := P_same hP hk1
  by_cases hprt : prt y
  rotate_left
  · refine t_i (hw.trans (bI_f hprt).symm) ?_
    refine b_if_ne hx hb (nI_toIntI (by omega)) dX7_speed_16 (tgt := 23) (by decide) (fun c16 => absurd c16 (by omega)) (fun c16 => ?_)
    refine lv_iconst (v := nI 2) hx hb dX7_speed_19 (by decide) ?_
    refine lv_goto (tgt := 24) hx hb dX7_speed_20 (by decide) ?_
    refine va_put (D := D) (ci := 7) (v := .int (nI 2)) (ty := .int) (C := RX7) (T := TX7) (N := 17) hx hb hts iX7 tyX7 tyX7_ok nmX7 hown hK hP hD hS 0 rfl rfl 5 (by decide) (hts _ k_f_X7_45) (fun _ h9 => h9) rfl (by decide +kernel) rfl rfl (Nat.le_of_ble_eq_true rfl) dX7_speed_24 (fun H locs hP hD hS => ?_)
    have hP : va_P D vwCl (WM K mm ta sl ss be ch (nI 2) M rq cq pv so st gs gm gu gl aw) H := hP
    have hD : va_D A (WM K mm ta sl ss be ch (nI 2) M rq cq pv so st gs gm gu gl aw) := hD
    refine lv_aload_n hx hb dX7_speed_27 rfl (lv_at hl 0 rfl) ?_
    refine va_get (D := D) (ci := 7) (C := RX7) (T := TX7) (N := 17) hx hb hts iX7 hown hK hP 0 rfl rfl 5 (by decide) (hts _ k_f_X7_45) (fun _ h9 => h9) rfl dX7_speed_28 ?_
    refine b_if_eq hx hb (nI_toIntI (by omega)) dX7_speed_31 (tgt := 36) (by decide) (fun c31 => absurd c31 (by omega)) (fun c31 => ?_)
    refine lv_lconst (v := 0) hx hb dX7_speed_34 (by decide) ?_
    have hrs : rs_speed d (nI kx) y = _ := ((cI_f (fun z => z hs_x)).trans (cI_t (hprt)))
    exact W.lret (v := (0 : Int64)) hx hb hr (fun t9 ht9 hW => ⟨⟨(0 : Int64), (ta, sl, ss, be, ch, (nI 2), M, rq, cq, pv, so, st, gs, gm, gu, gl, aw), rfl, ⟨hR, by rw [hrs], by rw [hrs]; exact fun h9 => absurd h9 (by decide)⟩, by rw [ht9]; exact hP, va_K.moved hW.alike hK, hD⟩, hS.F ht9⟩) hS.2.2 dX7_speed_35
  refine t_i (hw.trans (bI_t hprt).symm) ?_
  obtain ⟨kp, hkp, rfl⟩ := id hprt
  have hkpn : (nI kp).toInt.toNat = kp := by rw [nI_toIntI (by omega)]; omega
  refine b_if_ne hx hb (nI_toIntI (by omega)) dX7_speed_16 (tgt := 23) (by decide) (fun c16 => ?_) (fun c16 => absurd c16 (by omega))
  refine lv_iconst (v := nI 0) hx hb dX7_speed_23 (by decide) ?_
  refine va_put (D := D) (ci := 7) (v := .int (nI 0)) (ty := .int) (C := RX7) (T := TX7) (N := 17) hx hb hts iX7 tyX7 tyX7_ok nmX7 hown hK hP hD hS 0 rfl rfl 5 (by decide) (hts _ k_f_X7_45) (fun _ h9 => h9) rfl (by decide +kernel) rfl rfl (Nat.le_of_ble_eq_true rfl) dX7_speed_24 (fun H locs hP hD hS => ?_)
  have hP : va_P D vwCl (WM K mm ta sl ss be ch (nI 0) M rq cq pv so st gs gm gu gl aw) H := hP
  have hD : va_D A (WM K mm ta sl ss be ch (nI 0) M rq cq pv so st gs gm gu gl aw) := hD
  refine lv_aload_n hx hb dX7_speed_27 rfl (lv_at hl 0 rfl) ?_
  refine va_get (D := D) (ci := 7) (C := RX7) (T := TX7) (N := 17) hx hb hts iX7 hown hK hP 0 rfl rfl 5 (by decide) (hts _ k_f_X7_45) (fun _ h9 => h9) rfl dX7_speed_28 ?_
  refine b_if_eq hx hb (nI_toIntI (by omega)) dX7_speed_31 (tgt := 36) (by decide) (fun c31 => ?_) (fun c31 => absurd c31 (by omega))
  refine lv_aload_n hx hb dX7_speed_36 rfl (lv_at hl 0 rfl) ?_
  refine lv_aload_n hx hb dX7_speed_37 rfl (lv_at hl 0 rfl) ?_
  refine va_get (D := D) (ci := 7) (C := RX7) (T := TX7) (N := 17) hx hb hts iX7 hown hK hP 0 rfl rfl 0 (by decide) (hts _ k_f_X7_7) (fun _ h9 => h9) rfl dX7_speed_38 ?_
  refine lv_bipush (v := nI 35) hx hb dX7_speed_41 (by decide) ?_
  refine n_iald hx hb hK hP 1 0 rfl rfl (i := 35) (n := 36) (by omega) (by decide) dX7_speed_43 ?_
  refine t_i (show _ = nI ge from h35) ?_
  have hFc := freeAll hD hS hA
  refine va_callv (va_runV (As := [.int (nI ge)]) (rest := []) ⟨hx, hb, hml, hown, hts⟩ (c_X7_laySpeeds l D K mm ta sl ss be ch (nI 0) M rq cq pv so st gs gm gu gl aw d ge H.size hd hat (by omega)) (cwV 1 hts (TB_V k_m_X7_117 k_im_X7_laySpeeds k_se_X7_laySpeeds k_in_X7 k_co_X7_laySpeeds (fun _ h => h)) rfl rfl rfl (by decide +kernel) ⟨Nat.le_of_ble_eq_true rfl, Nat.le_of_ble_eq_true rfl⟩) ⟨cP_blind, va_recv hK hP (ci := 7) (q0 := 0) rfl rfl, cP_of hP hK hD⟩ rfl rfl hl.1 rfl (lv_room (Nat.le_of_ble_eq_true rfl)) dX7_speed_44 ⟨Nat.le_of_ble_eq_true rfl, Nat.le_of_ble_eq_true rfl⟩) hS (fun q _ h => hFc q h) hFc (fun u6 t9 H locs ht9 hvm hw hB hz1 hk1 hS => ?_)
  obtain ⟨hP, hK1, hD1⟩ := hB
  rw [ht9] at hP
  have hD := hD1.weaken (fun _ _ _ h => hFc _ h)
  have hP : va_P D vwCl (WM K mm ta sl ss be ch (nI 0) u6.1.1 u6.2 (nI 6) u6.1.2.1 u6.1.2.2 st gs gm gu gl aw) H := hP
  have hD : va_D A (WM K mm ta sl ss be ch (nI 0) u6.1.1 u6.2 (nI 6) u6.1.2.1 u6.1.2.2 st gs gm gu gl aw) := hD
  obtain ⟨nr, hnr, hrq9, hs0⟩ := hw
  refine lv_aload_n hx hb dX7_speed_47 rfl (lv_at hl 0 rfl) ?_
  refine lv_aload_n hx hb dX7_speed_48 rfl (lv_at hl 0 rfl) ?_
  refine lv_iload_n hx hb dX7_speed_49 rfl (lv_at hl 1 rfl) ?_
  refine va_calli (va_runV (As := [.int (nI kx)]) (rest := [.ref (mm 0)]) ⟨hx, hb, hml, hown, hts⟩ (c_X7_isDetermined l D K mm ta sl ss be ch (nI 0) u6.1.1 u6.2 (nI 6) u6.1.2.1 u6.1.2.2 st gs gm gu gl aw (SP d ge) nr 6 kx H.size hnr (by decide) rfl (by omega) hs0) (cwV 1 hts (TB_V k_m_X7_120 k_im_X7_isDetermined k_se_X7_isDetermined k_in_X7 k_co_X7_isDetermined (fun _ h => h)) rfl rfl rfl (by decide +kernel) ⟨Nat.le_of_ble_eq_true rfl, Nat.le_of_ble_eq_true rfl⟩) ⟨cP_blind, va_recv hK hP (ci := 7) (q0 := 0) rfl rfl, cP_of hP hK hD⟩ rfl rfl hl.1 rfl (lv_room (Nat.le_of_ble_eq_true rfl)) dX7_speed_50 ⟨Nat.le_of_ble_eq_true rfl, Nat.le_of_ble_eq_true rfl⟩) hS (fun q _ h => absurd h id) (fun q h => absurd h id) (fun dz u9 t9 H locs ht9 hvm hw hB hz1 hk1 hS => ?_)
  have hP := P_same hP hk1
  by_cases hdet : Solv (SP d ge) ∧ DetS (SP d ge) kx
  rotate_left
  · refine t_i (hw.trans (bI_f hdet).symm) ?_
    refine b_if_eq hx hb (nI_toIntI (by omega)) dX7_speed_53 (tgt := 60) (by decide) (fun c53 => ?_) (fun c53 => absurd c53 (by omega))
    refine lv_iconst (v := nI 3) hx hb dX7_speed_60 (by decide) ?_
    refine va_put (D := D) (ci := 7) (v := .int (nI 3)) (ty := .int) (C := RX7) (T := TX7) (N := 17) hx hb hts iX7 tyX7 tyX7_ok nmX7 hown hK hP hD hS 0 rfl rfl 5 (by decide) (hts _ k_f_X7_45) (fun _ h9 => h9) rfl (by decide +kernel) rfl rfl (Nat.le_of_ble_eq_true rfl) dX7_speed_61 (fun H locs hP hD hS => ?_)
    have hP : va_P D vwCl (WM K mm ta sl ss be ch (nI 3) u6.1.1 u6.2 (nI 6) u6.1.2.1 u6.1.2.2 st gs gm gu gl aw) H := hP
    have hD : va_D A (WM K mm ta sl ss be ch (nI 3) u6.1.1 u6.2 (nI 6) u6.1.2.1 u6.1.2.2 st gs gm gu gl aw) := hD
    refine lv_aload_n hx hb dX7_speed_64 rfl (lv_at hl 0 rfl) ?_
    refine va_get (D := D) (ci := 7) (C := RX7) (T := TX7) (N := 17) hx hb hts iX7 hown hK hP 0 rfl rfl 5 (by decide) (hts _ k_f_X7_45) (fun _ h9 => h9) rfl dX7_speed_65 ?_
    refine b_if_eq hx hb (nI_toIntI (by omega)) dX7_speed_68 (tgt := 75) (by decide) (fun c68 => absurd c68 (by omega)) (fun c68 => ?_)
    refine lv_lconst (v := 0) hx hb dX7_speed_71 (by decide) ?_
    refine lv_goto (tgt := 89) hx hb dX7_speed_72 (by decide) ?_
    have hrs : rs_speed d (nI kx) (nI kp) = _ := ((cI_f (fun z => z hs_x)).trans ((cI_f (fun z => z hprt)).trans (cI_t (by rw [hg1, hkxn]; exact hdet))))
    exact W.lret (v := (0 : Int64)) hx hb hr (fun t9 ht9 hW => ⟨⟨(0 : Int64), (ta, sl, ss, be, ch, (nI 3), u6.1.1, u6.2, (nI 6), u6.1.2.1, u6.1.2.2, st, gs, gm, gu, gl, aw), rfl, ⟨hR, by rw [hrs], by rw [hrs]; exact fun h9 => absurd h9 (by decide)⟩, by rw [ht9]; exact hP, va_K.moved hW.alike hK, hD⟩, hS.F ht9⟩) hS.2.2 dX7_speed_89
  refine t_i (hw.trans (bI_t hdet).symm) ?_
  obtain ⟨kv, hkv, hpv9, hne9, hb19, hb29, hvn, hvd⟩ := hs0.val hnr (by decide) (t := kx) (by omega) hdet.1 hdet.2
  refine b_if_eq hx hb (nI_toIntI (by omega)) dX7_speed_53 (tgt := 60) (by decide) (fun c53 => absurd c53 (by omega)) (fun c53 => ?_)
  refine lv_iconst (v := nI 0) hx hb dX7_speed_56 (by decide) ?_
  refine lv_goto (tgt := 61) hx hb dX7_speed_57 (by decide) ?_
  refine va_put (D := D) (ci := 7) (v := .int (nI 0)) (ty := .int) (C := RX7) (T := TX7) (N := 17) hx hb hts iX7 tyX7 tyX7_ok nmX7 hown hK hP hD hS 0 rfl rfl 5 (by decide) (hts _ k_f_X7_45) (fun _ h9 => h9) rfl (by decide +kernel) rfl rfl (Nat.le_of_ble_eq_true rfl) dX7_speed_61 (fun H locs hP hD hS => ?_)
  have hP : va_P D vwCl (WM K mm ta sl ss be ch (nI 0) u6.1.1 u6.2 (nI 6) u6.1.2.1 u6.1.2.2 st gs gm gu gl aw) H := hP
  have hD : va_D A (WM K mm ta sl ss be ch (nI 0) u6.1.1 u6.2 (nI 6) u6.1.2.1 u6.1.2.2 st gs gm gu gl aw) := hD
  refine lv_aload_n hx hb dX7_speed_64 rfl (lv_at hl 0 rfl) ?_
  refine va_get (D := D) (ci := 7) (C := RX7) (T := TX7) (N := 17) hx hb hts iX7 hown hK hP 0 rfl rfl 5 (by decide) (hts _ k_f_X7_45) (fun _ h9 => h9) rfl dX7_speed_65 ?_
  refine b_if_eq hx hb (nI_toIntI (by omega)) dX7_speed_68 (tgt := 75) (by decide) (fun c68 => ?_) (fun c68 => absurd c68 (by omega))
  refine lv_aload_n hx hb dX7_speed_75 rfl (lv_at hl 0 rfl) ?_
  refine lv_iload_n hx hb dX7_speed_76 rfl (lv_at hl 1 rfl) ?_
  refine va_calll (va_runV (As := [.int (nI kx)]) (rest := []) ⟨hx, hb, hml, hown, hts⟩ (c_X7_upper l D K mm ta sl ss be ch (nI 0) u6.1.1 u6.2 (nI 6) u6.1.2.1 u6.1.2.2 st gs gm gu gl aw kv kx H.size (by omega) (by omega) hpv9 hb19 hb29) (cwV 1 hts (TB_V k_m_X7_123 k_im_X7_upper k_se_X7_upper k_in_X7 k_co_X7_upper (fun _ h => h)) rfl rfl rfl (by decide +kernel) ⟨Nat.le_of_ble_eq_true rfl, Nat.le_of_ble_eq_true rfl⟩) ⟨cP_blind, va_recv hK hP (ci := 7) (q0 := 0) rfl rfl, cP_of hP hK hD⟩ rfl rfl hl.1 rfl (lv_room (Nat.le_of_ble_eq_true rfl)) dX7_speed_77 ⟨Nat.le_of_ble_eq_true rfl, Nat.le_of_ble_eq_true rfl⟩) hS (fun q _ h => absurd h id) (fun q h => absurd h id) (fun up u9 t9 H locs ht9 hvm hw hB hz1 hk1 hS => ?_)
  have hP := P_same hP hk1
  have hup := hw
  have hBB : BB = 351232000 := rfl
  have hupb : up.toInt.natAbs ≤ BB := by rw [hup]; split <;> omega
  refine lv_aload_n hx hb dX7_speed_80 rfl (lv_at hl 0 rfl) ?_
  refine lv_iload_n hx hb dX7_speed_81 rfl (lv_at hl 1 rfl) ?_
  refine va_calll (va_runV (As := [.int (nI kx)]) (rest := [.long up]) ⟨hx, hb, hml, hown, hts⟩ (c_X7_lower l D K mm ta sl ss be ch (nI 0) u6.1.1 u6.2 (nI 6) u6.1.2.1 u6.1.2.2 st gs gm gu gl aw kv kx H.size (by omega) (by omega) hpv9 hb19 hb29) (cwV 1 hts (TB_V k_m_X7_134 k_im_X7_lower k_se_X7_lower k_in_X7 k_co_X7_lower (fun _ h => h)) rfl rfl rfl (by decide +kernel) ⟨Nat.le_of_ble_eq_true rfl, Nat.le_of_ble_eq_true rfl⟩) ⟨cP_blind, va_recv hK hP (ci := 7) (q0 := 0) rfl rfl, cP_of hP hK hD⟩ rfl rfl hl.1 rfl (lv_room (Nat.le_of_ble_eq_true rfl)) dX7_speed_82 ⟨Nat.le_of_ble_eq_true rfl, Nat.le_of_ble_eq_true rfl⟩) hS (fun q _ h => absurd h id) (fun q h => absurd h id) (fun lo u9 t9 H locs ht9 hvm hw hB hz1 hk1 hS => ?_)
  have hP := P_same hP hk1
  have hlo := hw
  refine lv_iload_n hx hb dX7_speed_85 rfl (lv_at hl 2 rfl) ?_
  refine va_calll (va_runS (As := [.long up, .long lo, .int (nI kp)]) (rest := []) ⟨hx, hb, hml, hown, hts⟩ (c_X7_part l up lo kp hkp hupb (by rw [hlo]; omega) (by rw [hlo]; omega)) (va_cwS 3 hts (TB_S k_m_X7_137 k_st_X7_part k_in_X7 k_co_X7_part (fun _ h => h)) rfl rfl rfl (by decide +kernel) ⟨Nat.le_of_ble_eq_true rfl, Nat.le_of_ble_eq_true rfl⟩) ⟨tP_blind, tP_of⟩ rfl rfl hl.1 rfl (lv_room (Nat.le_of_ble_eq_true rfl)) dX7_speed_86 ⟨Nat.le_of_ble_eq_true rfl, Nat.le_of_ble_eq_true rfl⟩) hS (fun q _ h => absurd h id) (fun q h => absurd h id) (fun rz u9 t9 H locs ht9 hvm hw hB hz1 hk1 hS => ?_)
  have hP := P_same hP hk1
  obtain ⟨hr1, hr2⟩ := val_fin hne9 hup hlo
  have hw := hw.trans (by rw [hr1, hr2, hvn, hvd])
  have hrs : rs_speed d (nI kx) (nI kp) = _ := ((cI_f (fun z => z hs_x)).trans ((cI_f (fun z => z hprt)).trans ((cI_f (fun z => z (by rw [hg1, hkxn]; exact hdet))).trans (rfl))))
  exact W.lret (v := rz) hx hb hr (fun t9 ht9 hW => ⟨⟨rz, (ta, sl, ss, be, ch, (nI 0), u6.1.1, u6.2, (nI 6), u6.1.2.1, u6.1.2.2, st, gs, gm, gu, gl, aw), rfl, ⟨hR, by rw [hrs], by rw [hrs]; exact fun h9 => by rw [hg1, hkxn, hkpn]; exact hw⟩, by rw [ht9]; exact hP, va_K.moved hW.alike hK, hD⟩, hS.F ht9⟩) hS.2.2 dX7_speed_89
set_option maxHeartbeats 4000000 in
set_option maxRecDepth 100000 in
theorem c_X7_outputTorque (l : Launch) (D : va_G) (K : Nat → ClassId) (mm : Nat → Nat) (v : CV) (w0 : MS) (y : Int32) (sz : Nat) (hI : IV v) (hR : RM v w0)  : Met l yX7_outputTorque (.code yX7_outputTorque cX7_outputTorque 2 (some .long) :: TB) ({ frames := 5, cells := 0, slots := 0, locals := 127 } : Room) (va_Pc [.ref (mm 0), .int y] (cP D K (WMu K mm w0) sz)) (va_Ql (fun (z : Int64) (u : MS) => RM v u ∧ u.2.2.2.2.2.1 = nI (rs_outputTorque v.1 y).1 ∧ ((rs_outputTorque v.1 y).1 = 0 → z.toInt = (rs_outputTorque v.1 y).2)) (fun (u : MS) t => cB D K (va_A (WMu K mm w0) sz) (WMu K mm u) t) (va_A (WMu K mm w0) sz)) 0 0 (va_A (WMu K mm w0) sz) := by
  refine Met.ofW (cc := cX7_outputTorque) (maxL := 2) (ret := (some .long)) (by decide) rfl ?_
  intro p e s m args below meth c s₁ B hml hv
  obtain ⟨rfl, hsz, hP, hK, hD0⟩ := hv
  have hx := B.exec
  have hb := B.bytes
  have hr := B.returns
  have hts := hts_tl (atoms_spec (ws := (.code yX7_outputTorque cX7_outputTorque 2 (some .long) :: TB)) B.pre)
  have hown : s.vm.findClass RX7 = some m.cls := findClass_of_methodNamed B.named
  have hlocks := B.notSynchronized
  subst hsz
  have hD := hD0.self (sz := s.heap.size)
  generalize hAe : (va_A (WMu K mm w0) s.heap.size) = A at hD ⊢
  have hA : ∀ q : Nat, s.heap.size ≤ q → A q := fun q h => by rw [← hAe]; exact Or.inr h
  have hS : va_S A s.heap s.heap [] := va_S.rf
  clear hAe hD0
  obtain ⟨d, d1, d2, f1, f2, f, s0⟩ := v
  obtain ⟨ta, sl, ss, be, ch, th, M, rq, cq, pv, so, st, gs, gm, gu, gl, aw⟩ := w0
  obtain ⟨hd, hd1, hd2, hf1, hf2, hs20, hhf⟩ := id hI
  obtain ⟨hat, hat1, hat2, hss0, hss1, hch, hbe⟩ := id hR
  dsimp only at hd hd1 hd2 hf1 hf2 hs20 hhf hat hat1 hat2 hss0 hss1 hch hbe
  obtain ⟨n, m1, ge, hn, hm, hge, h0, h1, h2, hs9, he9⟩ := id hd
  obtain ⟨ha1, ha2, ha33, ha34, ha35⟩ := id hat
  have hp6 : 2 ^ m1 ≤ 64 := Nat.pow_le_pow_right (show 0 < 2 by decide) hm
  have h33 := ha33.trans h0
  have h34 := ha34.trans h1
  have h35 := ha35.trans h2
  have hn1 : dn d 8 0 = n := dn_of h0 (by omega)
  have hm1 : dn d 8 1 = m1 := dn_of h1 (by omega)
  have hg1 : dn d 8 2 = ge := dn_of h2 (by omega)
  have hP : va_P D vwCl (WM K mm ta sl ss be ch th M rq cq pv so st gs gm gu gl aw) s.heap := hP
  have hD : va_D A (WM K mm ta sl ss be ch th M rq cq pv so st gs gm gu gl aw) := hD
  have hl := lv_entry ([.ref (mm 0), .int y]) (n := 2) (Nat.le_of_ble_eq_true rfl)
  rw [lg_entry_eq]
  generalize (lg_sl ([.ref (mm 0), .int y]) ++ List.replicate (2 - (lg_sl ([.ref (mm 0), .int y])).length) Slot.unset).toArray = ls at hl ⊢
  have hl : lv_has ls 2 [(0, .ref (mm 0)), (1, .int y)] := hl
  refine lv_aload_n hx hb dX7_outputTorque_0 rfl (lv_at hl 0 rfl) ?_
  refine lv_iload_n hx hb dX7_outputTorque_1 rfl (lv_at hl 1 rfl) ?_
  refine va_calli (va_runS (As := [.int y]) (rest := [.ref (mm 0)]) ⟨hx, hb, hml, hown, hts⟩ (c_X7_isPart l y ) (va_cwS 1 hts (TB_S k_m_X7_131 k_st_X7_isPart k_in_X7 k_co_X7_isPart (fun _ h => h)) rfl rfl rfl (by decide +kernel) ⟨Nat.le_of_ble_eq_true rfl, Nat.le_of_ble_eq_true rfl⟩) ⟨tP_blind, tP_of⟩ rfl rfl hl.1 rfl (lv_room (Nat.le_of_ble_eq_true rfl)) dX7_outputTorque_2 ⟨Nat.le_of_ble_eq_true rfl, Nat.le_of_ble_eq_true rfl⟩) hS (fun q _ h => absurd h id) (fun q h => absurd h id) (fun rs u9 t9 H locs ht9 hvm hw hB hz1 hk1 hS => ?_)
  have hP := P_same hP hk1
  by_cases hprt : prt y
  rotate_left
  · refine t_i (hw.trans (bI_f hprt).symm) ?_
    refine b_if_eq hx hb (nI_toIntI (by omega)) dX7_outputTorque_5 (tgt := 12) (by decide) (fun c5 => ?_) (fun c5 => absurd c5 (by omega))
    refine lv_iconst (v := nI 1) hx hb dX7_outputTorque_12 (by decide) ?_
    refine va_put (D := D) (ci := 7) (v := .int (nI 1)) (ty := .int) (C := RX7) (T := TX7) (N := 17) hx hb hts iX7 tyX7 tyX7_ok nmX7 hown hK hP hD hS 0 rfl rfl 5 (by decide) (hts _ k_f_X7_45) (fun _ h9 => h9) rfl (by decide +kernel) rfl rfl (Nat.le_of_ble_eq_true rfl) dX7_outputTorque_13 (fun H locs hP hD hS => ?_)
    have hP : va_P D vwCl (WM K mm ta sl ss be ch (nI 1) M rq cq pv so st gs gm gu gl aw) H := hP
    have hD : va_D A (WM K mm ta sl ss be ch (nI 1) M rq cq pv so st gs gm gu gl aw) := hD
    refine lv_aload_n hx hb dX7_outputTorque_16 rfl (lv_at hl 0 rfl) ?_
    refine va_get (D := D) (ci := 7) (C := RX7) (T := TX7) (N := 17) hx hb hts iX7 hown hK hP 0 rfl rfl 5 (by decide) (hts _ k_f_X7_45) (fun _ h9 => h9) rfl dX7_outputTorque_17 ?_
    refine b_if_eq hx hb (nI_toIntI (by omega)) dX7_outputTorque_20 (tgt := 25) (by decide) (fun c20 => absurd c20 (by omega)) (fun c20 => ?_)
    refine lv_lconst (v := 0) hx hb dX7_outputTorque_23 (by decide) ?_
    have hrs : rs_outputTorque d y = _ := (cI_t (hprt))
    exact W.lret (v := (0 : Int64)) hx hb hr (fun t9 ht9 hW => ⟨⟨(0 : Int64), (ta, sl, ss, be, ch, (nI 1), M, rq, cq, pv, so, st, gs, gm, gu, gl, aw), rfl, ⟨hR, by rw [hrs], by rw [hrs]; exact fun h9 => absurd h9 (by decide)⟩, by rw [ht9]; exact hP, va_K.moved hW.alike hK, hD⟩, hS.F ht9⟩) hS.2.2 dX7_outputTorque_24
  refine t_i (hw.trans (bI_t hprt).symm) ?_
  obtain ⟨kp, hkp, rfl⟩ := id hprt
  have hkpn : (nI kp).toInt.toNat = kp := by rw [nI_toIntI (by omega)]; omega
  refine b_if_eq hx hb (nI_toIntI (by omega)) dX7_outputTorque_5 (tgt := 12) (by decide) (fun c5 => absurd c5 (by omega)) (fun c5 => ?_)
  refine lv_iconst (v := nI 0) hx hb dX7_outputTorque_8 (by decide) ?_
  refine lv_goto (tgt := 13) hx hb dX7_outputTorque_9 (by decide) ?_
  refine va_put (D := D) (ci := 7) (v := .int (nI 0)) (ty := .int) (C := RX7) (T := TX7) (N := 17) hx hb hts iX7 tyX7 tyX7_ok nmX7 hown hK hP hD hS 0 rfl rfl 5 (by decide) (hts _ k_f_X7_45) (fun _ h9 => h9) rfl (by decide +kernel) rfl rfl (Nat.le_of_ble_eq_true rfl) dX7_outputTorque_13 (fun H locs hP hD hS => ?_)
  have hP : va_P D vwCl (WM K mm ta sl ss be ch (nI 0) M rq cq pv so st gs gm gu gl aw) H := hP
  have hD : va_D A (WM K mm ta sl ss be ch (nI 0) M rq cq pv so st gs gm gu gl aw) := hD
  refine lv_aload_n hx hb dX7_outputTorque_16 rfl (lv_at hl 0 rfl) ?_
  refine va_get (D := D) (ci := 7) (C := RX7) (T := TX7) (N := 17) hx hb hts iX7 hown hK hP 0 rfl rfl 5 (by decide) (hts _ k_f_X7_45) (fun _ h9 => h9) rfl dX7_outputTorque_17 ?_
  refine b_if_eq hx hb (nI_toIntI (by omega)) dX7_outputTorque_20 (tgt := 25) (by decide) (fun c20 => ?_) (fun c20 => absurd c20 (by omega))
  refine lv_aload_n hx hb dX7_outputTorque_25 rfl (lv_at hl 0 rfl) ?_
  have hFc := freeAll hD hS hA
  refine va_callv (va_runV (As := []) (rest := []) ⟨hx, hb, hml, hown, hts⟩ (c_X7_layTorques l D K mm ta sl ss be ch (nI 0) M rq cq pv so st gs gm gu gl aw d H.size hd hat) (cwV 0 hts (TB_V k_m_X7_144 k_im_X7_layTorques k_se_X7_layTorques k_in_X7 k_co_X7_layTorques (fun _ h => h)) rfl rfl rfl (by decide +kernel) ⟨Nat.le_of_ble_eq_true rfl, Nat.le_of_ble_eq_true rfl⟩) ⟨cP_blind, va_recv hK hP (ci := 7) (q0 := 0) rfl rfl, cP_of hP hK hD⟩ rfl rfl hl.1 rfl (lv_room (Nat.le_of_ble_eq_true rfl)) dX7_outputTorque_26 ⟨Nat.le_of_ble_eq_true rfl, Nat.le_of_ble_eq_true rfl⟩) hS (fun q _ h => hFc q h) hFc (fun u7 t9 H locs ht9 hvm hw hB hz1 hk1 hS => ?_)
  obtain ⟨hP, hK1, hD1⟩ := hB
  rw [ht9] at hP
  have hD := hD1.weaken (fun _ _ _ h => hFc _ h)
  have hP : va_P D vwCl (WM K mm ta sl ss be ch (nI 0) u7.1 (nI 6) (nI 10) u7.2.1 u7.2.2 st gs gm gu gl aw) H := hP
  have hD : va_D A (WM K mm ta sl ss be ch (nI 0) u7.1 (nI 6) (nI 10) u7.2.1 u7.2.2 st gs gm gu gl aw) := hD
  have hs1 := hw
  rw [hg1] at hs1
  refine lv_aload_n hx hb dX7_outputTorque_29 rfl (lv_at hl 0 rfl) ?_
  refine lv_aload_n hx hb dX7_outputTorque_30 rfl (lv_at hl 0 rfl) ?_
  refine lv_iconst (v := nI 0) hx hb dX7_outputTorque_31 (by decide) ?_
  refine va_calli (va_runV (As := [.int (nI 0)]) (rest := [.ref (mm 0)]) ⟨hx, hb, hml, hown, hts⟩ (c_X7_isDetermined l D K mm ta sl ss be ch (nI 0) u7.1 (nI 6) (nI 10) u7.2.1 u7.2.2 st gs gm gu gl aw (TQ d ge) 6 10 0 H.size (by decide) (by decide) rfl (by omega) hs1) (cwV 1 hts (TB_V k_m_X7_120 k_im_X7_isDetermined k_se_X7_isDetermined k_in_X7 k_co_X7_isDetermined (fun _ h => h)) rfl rfl rfl (by decide +kernel) ⟨Nat.le_of_ble_eq_true rfl, Nat.le_of_ble_eq_true rfl⟩) ⟨cP_blind, va_recv hK hP (ci := 7) (q0 := 0) rfl rfl, cP_of hP hK hD⟩ rfl rfl hl.1 rfl (lv_room (Nat.le_of_ble_eq_true rfl)) dX7_outputTorque_32 ⟨Nat.le_of_ble_eq_true rfl, Nat.le_of_ble_eq_true rfl⟩) hS (fun q _ h => absurd h id) (fun q h => absurd h id) (fun dz u9 t9 H locs ht9 hvm hw hB hz1 hk1 hS => ?_)
  have hP := P_same hP hk1
  by_cases hdet : Solv (TQ d ge) ∧ DetS (TQ d ge) 0
  rotate_left
  · refine t_i (hw.trans (bI_f hdet).symm) ?_
    refine b_if_eq hx hb (nI_toIntI (by omega)) dX7_outputTorque_35 (tgt := 42) (by decide) (fun c35 => ?_) (fun c35 => absurd c35 (by omega))
    refine lv_iconst (v := nI 2) hx hb dX7_outputTorque_42 (by decide) ?_
    refine va_put (D := D) (ci := 7) (v := .int (nI 2)) (ty := .int) (C := RX7) (T := TX7) (N := 17) hx hb hts iX7 tyX7 tyX7_ok nmX7 hown hK hP hD hS 0 rfl rfl 5 (by decide) (hts _ k_f_X7_45) (fun _ h9 => h9) rfl (by decide +kernel) rfl rfl (Nat.le_of_ble_eq_true rfl) dX7_outputTorque_43 (fun H locs hP hD hS => ?_)
    have hP : va_P D vwCl (WM K mm ta sl ss be ch (nI 2) u7.1 (nI 6) (nI 10) u7.2.1 u7.2.2 st gs gm gu gl aw) H := hP
    have hD : va_D A (WM K mm ta sl ss be ch (nI 2) u7.1 (nI 6) (nI 10) u7.2.1 u7.2.2 st gs gm gu gl aw) := hD
    refine lv_aload_n hx hb dX7_outputTorque_46 rfl (lv_at hl 0 rfl) ?_
    refine va_get (D := D) (ci := 7) (C := RX7) (T := TX7) (N := 17) hx hb hts iX7 hown hK hP 0 rfl rfl 5 (by decide) (hts _ k_f_X7_45) (fun _ h9 => h9) rfl dX7_outputTorque_47 ?_
    refine b_if_eq hx hb (nI_toIntI (by omega)) dX7_outputTorque_50 (tgt := 57) (by decide) (fun c50 => absurd c50 (by omega)) (fun c50 => ?_)
    refine lv_lconst (v := 0) hx hb dX7_outputTorque_53 (by decide) ?_
    refine lv_goto (tgt := 71) hx hb dX7_outputTorque_54 (by decide) ?_
    have hrs : rs_outputTorque d (nI kp) = _ := ((cI_f (fun z => z hprt)).trans (cI_t (by rw [hg1]; exact hdet)))
    exact W.lret (v := (0 : Int64)) hx hb hr (fun t9 ht9 hW => ⟨⟨(0 : Int64), (ta, sl, ss, be, ch, (nI 2), u7.1, (nI 6), (nI 10), u7.2.1, u7.2.2, st, gs, gm, gu, gl, aw), rfl, ⟨hR, by rw [hrs], by rw [hrs]; exact fun h9 => absurd h9 (by decide)⟩, by rw [ht9]; exact hP, va_K.moved hW.alike hK, hD⟩, hS.F ht9⟩) hS.2.2 dX7_outputTorque_71
  refine t_i (hw.trans (bI_t hdet).symm) ?_
  obtain ⟨kv, hkv, hpv9, hne9, hb19, hb29, hvn, hvd⟩ := hs1.val (by decide) (by decide) (t := 0) (by omega) hdet.1 hdet.2
  refine b_if_eq hx hb (nI_toIntI (by omega)) dX7_outputTorque_35 (tgt := 42) (by decide) (fun c35 => absurd c35 (by omega)) (fun c35 => ?_)
  refine lv_iconst (v := nI 0) hx hb dX7_outputTorque_38 (by decide) ?_
  refine lv_goto (tgt := 43) hx hb dX7_outputTorque_39 (by decide) ?_
  refine va_put (D := D) (ci := 7) (v := .int (nI 0)) (ty := .int) (C := RX7) (T := TX7) (N := 17) hx hb hts iX7 tyX7 tyX7_ok nmX7 hown hK hP hD hS 0 rfl rfl 5 (by decide) (hts _ k_f_X7_45) (fun _ h9 => h9) rfl (by decide +kernel) rfl rfl (Nat.le_of_ble_eq_true rfl) dX7_outputTorque_43 (fun H locs hP hD hS => ?_)
  have hP : va_P D vwCl (WM K mm ta sl ss be ch (nI 0) u7.1 (nI 6) (nI 10) u7.2.1 u7.2.2 st gs gm gu gl aw) H := hP
  have hD : va_D A (WM K mm ta sl ss be ch (nI 0) u7.1 (nI 6) (nI 10) u7.2.1 u7.2.2 st gs gm gu gl aw) := hD
  refine lv_aload_n hx hb dX7_outputTorque_46 rfl (lv_at hl 0 rfl) ?_
  refine va_get (D := D) (ci := 7) (C := RX7) (T := TX7) (N := 17) hx hb hts iX7 hown hK hP 0 rfl rfl 5 (by decide) (hts _ k_f_X7_45) (fun _ h9 => h9) rfl dX7_outputTorque_47 ?_
  refine b_if_eq hx hb (nI_toIntI (by omega)) dX7_outputTorque_50 (tgt := 57) (by decide) (fun c50 => ?_) (fun c50 => absurd c50 (by omega))
  refine lv_aload_n hx hb dX7_outputTorque_57 rfl (lv_at hl 0 rfl) ?_
  refine lv_iconst (v := nI 0) hx hb dX7_outputTorque_58 (by decide) ?_
  refine va_calll (va_runV (As := [.int (nI 0)]) (rest := []) ⟨hx, hb, hml, hown, hts⟩ (c_X7_upper l D K mm ta sl ss be ch (nI 0) u7.1 (nI 6) (nI 10) u7.2.1 u7.2.2 st gs gm gu gl aw kv 0 H.size (by omega) (by omega) hpv9 hb19 hb29) (cwV 1 hts (TB_V k_m_X7_123 k_im_X7_upper k_se_X7_upper k_in_X7 k_co_X7_upper (fun _ h => h)) rfl rfl rfl (by decide +kernel) ⟨Nat.le_of_ble_eq_true rfl, Nat.le_of_ble_eq_true rfl⟩) ⟨cP_blind, va_recv hK hP (ci := 7) (q0 := 0) rfl rfl, cP_of hP hK hD⟩ rfl rfl hl.1 rfl (lv_room (Nat.le_of_ble_eq_true rfl)) dX7_outputTorque_59 ⟨Nat.le_of_ble_eq_true rfl, Nat.le_of_ble_eq_true rfl⟩) hS (fun q _ h => absurd h id) (fun q h => absurd h id) (fun up u9 t9 H locs ht9 hvm hw hB hz1 hk1 hS => ?_)
  have hP := P_same hP hk1
  have hup := hw
  have hBB : BB = 351232000 := rfl
  have hupb : up.toInt.natAbs ≤ BB := by rw [hup]; split <;> omega
  refine lv_aload_n hx hb dX7_outputTorque_62 rfl (lv_at hl 0 rfl) ?_
  refine lv_iconst (v := nI 0) hx hb dX7_outputTorque_63 (by decide) ?_
  refine va_calll (va_runV (As := [.int (nI 0)]) (rest := [.long up]) ⟨hx, hb, hml, hown, hts⟩ (c_X7_lower l D K mm ta sl ss be ch (nI 0) u7.1 (nI 6) (nI 10) u7.2.1 u7.2.2 st gs gm gu gl aw kv 0 H.size (by omega) (by omega) hpv9 hb19 hb29) (cwV 1 hts (TB_V k_m_X7_134 k_im_X7_lower k_se_X7_lower k_in_X7 k_co_X7_lower (fun _ h => h)) rfl rfl rfl (by decide +kernel) ⟨Nat.le_of_ble_eq_true rfl, Nat.le_of_ble_eq_true rfl⟩) ⟨cP_blind, va_recv hK hP (ci := 7) (q0 := 0) rfl rfl, cP_of hP hK hD⟩ rfl rfl hl.1 rfl (lv_room (Nat.le_of_ble_eq_true rfl)) dX7_outputTorque_64 ⟨Nat.le_of_ble_eq_true rfl, Nat.le_of_ble_eq_true rfl⟩) hS (fun q _ h => absurd h id) (fun q h => absurd h id) (fun lo u9 t9 H locs ht9 hvm hw hB hz1 hk1 hS => ?_)
  have hP := P_same hP hk1
  have hlo := hw
  refine lv_iload_n hx hb dX7_outputTorque_67 rfl (lv_at hl 1 rfl) ?_
  refine va_calll (va_runS (As := [.long up, .long lo, .int (nI kp)]) (rest := []) ⟨hx, hb, hml, hown, hts⟩ (c_X7_part l up lo kp hkp hupb (by rw [hlo]; omega) (by rw [hlo]; omega)) (va_cwS 3 hts (TB_S k_m_X7_137 k_st_X7_part k_in_X7 k_co_X7_part (fun _ h => h)) rfl rfl rfl (by decide +kernel) ⟨Nat.le_of_ble_eq_true rfl, Nat.le_of_ble_eq_true rfl⟩) ⟨tP_blind, tP_of⟩ rfl rfl hl.1 rfl (lv_room (Nat.le_of_ble_eq_true rfl)) dX7_outputTorque_68 ⟨Nat.le_of_ble_eq_true rfl, Nat.le_of_ble_eq_true rfl⟩) hS (fun q _ h => absurd h id) (fun q h => absurd h id) (fun rz u9 t9 H locs ht9 hvm hw hB hz1 hk1 hS => ?_)
  have hP := P_same hP hk1
  obtain ⟨hr1, hr2⟩ := val_fin hne9 hup hlo
  have hw := hw.trans (by rw [hr1, hr2, hvn, hvd])
  have hrs : rs_outputTorque d (nI kp) = _ := ((cI_f (fun z => z hprt)).trans ((cI_f (fun z => z (by rw [hg1]; exact hdet))).trans (rfl)))
  exact W.lret (v := rz) hx hb hr (fun t9 ht9 hW => ⟨⟨rz, (ta, sl, ss, be, ch, (nI 0), u7.1, (nI 6), (nI 10), u7.2.1, u7.2.2, st, gs, gm, gu, gl, aw), rfl, ⟨hR, by rw [hrs], by rw [hrs]; exact fun h9 => by rw [hg1, hkpn]; exact hw⟩, by rw [ht9]; exact hP, va_K.moved hW.alike hK, hD⟩, hS.F ht9⟩) hS.2.2 dX7_outputTorque_71
set_option maxHeartbeats 4000000 in
set_option maxRecDepth 100000 in
theorem c_X7_ratio (l : Launch) (D : va_G) (K : Nat → ClassId) (mm : Nat → Nat) (v : CV) (w0 : MS) (y : Int32) (sz : Nat) (hI : IV v) (hR : RM v w0)  : Met l yX7_ratio (.code yX7_ratio cX7_ratio 2 (some .long) :: TB) ({ frames := 6, cells := 0, slots := 0, locals := 150 } : Room) (va_Pc [.ref (mm 0), .int y] (cP D K (WMu K mm w0) sz)) (va_Ql (fun (z : Int64) (u : MS) => RM v u ∧ u.2.2.2.2.2.1 = nI (rs_ratio v.1 y).1 ∧ ((rs_ratio v.1 y).1 = 0 → z.toInt = (rs_ratio v.1 y).2)) (fun (u : MS) t => cB D K (va_A (WMu K mm w0) sz) (WMu K mm u) t) (va_A (WMu K mm w0) sz)) 0 0 (va_A (WMu K mm w0) sz) := by
  refine Met.ofW (cc := cX7_ratio) (maxL := 2) (ret := (some .long)) (by decide) rfl ?_
  intro p e s m args below meth c s₁ B hml hv
  obtain ⟨rfl, hsz, hP, hK, hD0⟩ := hv
  have hx := B.exec
  have hb := B.bytes
  have hr := B.returns
  have hts := hts_tl (atoms_spec (ws := (.code yX7_ratio cX7_ratio 2 (some .long) :: TB)) B.pre)
  have hown : s.vm.findClass RX7 = some m.cls := findClass_of_methodNamed B.named
  have hlocks := B.notSynchronized
  subst hsz
  have hD := hD0.self (sz := s.heap.size)
  generalize hAe : (va_A (WMu K mm w0) s.heap.size) = A at hD ⊢
  have hA : ∀ q : Nat, s.heap.size ≤ q → A q := fun q h => by rw [← hAe]; exact Or.inr h
  have hS : va_S A s.heap s.heap [] := va_S.rf
  clear hAe hD0
  obtain ⟨d, d1, d2, f1, f2, f, s0⟩ := v
  obtain ⟨ta, sl, ss, be, ch, th, M, rq, cq, pv, so, st, gs, gm, gu, gl, aw⟩ := w0
  obtain ⟨hd, hd1, hd2, hf1, hf2, hs20, hhf⟩ := id hI
  obtain ⟨hat, hat1, hat2, hss0, hss1, hch, hbe⟩ := id hR
  dsimp only at hd hd1 hd2 hf1 hf2 hs20 hhf hat hat1 hat2 hss0 hss1 hch hbe
  obtain ⟨n, m1, ge, hn, hm, hge, h0, h1, h2, hs9, he9⟩ := id hd
  obtain ⟨ha1, ha2, ha33, ha34, ha35⟩ := id hat
  have hp6 : 2 ^ m1 ≤ 64 := Nat.pow_le_pow_right (show 0 < 2 by decide) hm
  have h33 := ha33.trans h0
  have h34 := ha34.trans h1
  have h35 := ha35.trans h2
  have hn1 : dn d 8 0 = n := dn_of h0 (by omega)
  have hm1 : dn d 8 1 = m1 := dn_of h1 (by omega)
  have hg1 : dn d 8 2 = ge := dn_of h2 (by omega)
  have hP : va_P D vwCl (WM K mm ta sl ss be ch th M rq cq pv so st gs gm gu gl aw) s.heap := hP
  have hD : va_D A (WM K mm ta sl ss be ch th M rq cq pv so st gs gm gu gl aw) := hD
  have hl := lv_entry ([.ref (mm 0), .int y]) (n := 2) (Nat.le_of_ble_eq_true rfl)
  rw [lg_entry_eq]
  generalize (lg_sl ([.ref (mm 0), .int y]) ++ List.replicate (2 - (lg_sl ([.ref (mm 0), .int y])).length) Slot.unset).toArray = ls at hl ⊢
  have hl : lv_has ls 2 [(0, .ref (mm 0)), (1, .int y)] := hl
  refine lv_aload_n hx hb dX7_ratio_0 rfl (lv_at hl 0 rfl) ?_
  refine lv_iload_n hx hb dX7_ratio_1 rfl (lv_at hl 1 rfl) ?_
  refine va_calli (va_runS (As := [.int y]) (rest := [.ref (mm 0)]) ⟨hx, hb, hml, hown, hts⟩ (c_X7_isPart l y ) (va_cwS 1 hts (TB_S k_m_X7_131 k_st_X7_isPart k_in_X7 k_co_X7_isPart (fun _ h => h)) rfl rfl rfl (by decide +kernel) ⟨Nat.le_of_ble_eq_true rfl, Nat.le_of_ble_eq_true rfl⟩) ⟨tP_blind, tP_of⟩ rfl rfl hl.1 rfl (lv_room (Nat.le_of_ble_eq_true rfl)) dX7_ratio_2 ⟨Nat.le_of_ble_eq_true rfl, Nat.le_of_ble_eq_true rfl⟩) hS (fun q _ h => absurd h id) (fun q h => absurd h id) (fun rs u9 t9 H locs ht9 hvm hw hB hz1 hk1 hS => ?_)
  have hP := P_same hP hk1
  by_cases hprt : prt y
  rotate_left
  · refine t_i (hw.trans (bI_f hprt).symm) ?_
    refine b_if_ne hx hb (nI_toIntI (by omega)) dX7_ratio_5 (tgt := 12) (by decide) (fun c5 => absurd c5 (by omega)) (fun c5 => ?_)
    refine lv_iconst (v := nI 1) hx hb dX7_ratio_8 (by decide) ?_
    refine lv_goto (tgt := 31) hx hb dX7_ratio_9 (by decide) ?_
    refine va_put (D := D) (ci := 7) (v := .int (nI 1)) (ty := .int) (C := RX7) (T := TX7) (N := 17) hx hb hts iX7 tyX7 tyX7_ok nmX7 hown hK hP hD hS 0 rfl rfl 5 (by decide) (hts _ k_f_X7_45) (fun _ h9 => h9) rfl (by decide +kernel) rfl rfl (Nat.le_of_ble_eq_true rfl) dX7_ratio_31 (fun H locs hP hD hS => ?_)
    have hP : va_P D vwCl (WM K mm ta sl ss be ch (nI 1) M rq cq pv so st gs gm gu gl aw) H := hP
    have hD : va_D A (WM K mm ta sl ss be ch (nI 1) M rq cq pv so st gs gm gu gl aw) := hD
    refine lv_aload_n hx hb dX7_ratio_34 rfl (lv_at hl 0 rfl) ?_
    refine va_get (D := D) (ci := 7) (C := RX7) (T := TX7) (N := 17) hx hb hts iX7 hown hK hP 0 rfl rfl 5 (by decide) (hts _ k_f_X7_45) (fun _ h9 => h9) rfl dX7_ratio_35 ?_
    refine b_if_eq hx hb (nI_toIntI (by omega)) dX7_ratio_38 (tgt := 45) (by decide) (fun c38 => absurd c38 (by omega)) (fun c38 => ?_)
    refine lv_lconst (v := 0) hx hb dX7_ratio_41 (by decide) ?_
    refine lv_goto (tgt := 50) hx hb dX7_ratio_42 (by decide) ?_
    have hrs : rs_ratio d y = _ := (cI_t (hprt))
    exact W.lret (v := (0 : Int64)) hx hb hr (fun t9 ht9 hW => ⟨⟨(0 : Int64), (ta, sl, ss, be, ch, (nI 1), M, rq, cq, pv, so, st, gs, gm, gu, gl, aw), rfl, ⟨hR, by rw [hrs], by rw [hrs]; exact fun h9 => absurd h9 (by decide)⟩, by rw [ht9]; exact hP, va_K.moved hW.alike hK, hD⟩, hS.F ht9⟩) hS.2.2 dX7_ratio_50
  refine t_i (hw.trans (bI_t hprt).symm) ?_
  obtain ⟨kp, hkp, rfl⟩ := id hprt
  have hkpn : (nI kp).toInt.toNat = kp := by rw [nI_toIntI (by omega)]; omega
  refine b_if_ne hx hb (nI_toIntI (by omega)) dX7_ratio_5 (tgt := 12) (by decide) (fun c5 => ?_) (fun c5 => absurd c5 (by omega))
  refine lv_aload_n hx hb dX7_ratio_12 rfl (lv_at hl 0 rfl) ?_
  refine lv_aload_n hx hb dX7_ratio_13 rfl (lv_at hl 0 rfl) ?_
  refine va_get (D := D) (ci := 7) (C := RX7) (T := TX7) (N := 17) hx hb hts iX7 hown hK hP 0 rfl rfl 0 (by decide) (hts _ k_f_X7_7) (fun _ h9 => h9) rfl dX7_ratio_14 ?_
  refine lv_bipush (v := nI 35) hx hb dX7_ratio_17 (by decide) ?_
  refine n_iald hx hb hK hP 1 0 rfl rfl (i := 35) (n := 36) (by omega) (by decide) dX7_ratio_19 ?_
  refine t_i (show _ = nI ge from h35) ?_
  have hFc := freeAll hD hS hA
  refine va_calli (va_runV (As := [.int (nI ge)]) (rest := [.ref (mm 0)]) ⟨hx, hb, hml, hown, hts⟩ (c_X7_stateOf l D K mm ta sl ss be ch th M rq cq pv so st gs gm gu gl aw d ge H.size hd hat (by omega)) (cwV 1 hts (TB_V k_m_X7_127 k_im_X7_stateOf k_se_X7_stateOf k_in_X7 k_co_X7_stateOf (fun _ h => h)) rfl rfl rfl (by decide +kernel) ⟨Nat.le_of_ble_eq_true rfl, Nat.le_of_ble_eq_true rfl⟩) ⟨cP_blind, va_recv hK hP (ci := 7) (q0 := 0) rfl rfl, cP_of hP hK hD⟩ rfl rfl hl.1 rfl (lv_room (Nat.le_of_ble_eq_true rfl)) dX7_ratio_20 ⟨Nat.le_of_ble_eq_true rfl, Nat.le_of_ble_eq_true rfl⟩) hS (fun q _ h => hFc q h) hFc (fun sz9 u6 t9 H locs ht9 hvm hw hB hz1 hk1 hS => ?_)
  obtain ⟨hP, hK1, hD1⟩ := hB
  rw [ht9] at hP
  have hD := hD1.weaken (fun _ _ _ h => hFc _ h)
  have hP : va_P D vwCl (WM K mm ta sl ss be ch th u6.1.1 u6.2 (nI 6) u6.1.2.1 u6.1.2.2 st gs gm gu gl aw) H := hP
  have hD : va_D A (WM K mm ta sl ss be ch th u6.1.1 u6.2 (nI 6) u6.1.2.1 u6.1.2.2 st gs gm gu gl aw) := hD
  obtain ⟨hsz9, nr, hnr, hrq9, hs0⟩ := hw
  have hst3 := stC_le (SP d ge)
  have hst3 : stM d ge ≤ 3 := hst3
  refine t_i hsz9 ?_
  refine b_if_eq hx hb (nI_toIntI (by omega)) dX7_ratio_23 (tgt := 30) (by decide) (fun c23 => ?_) (fun c23 => ?_)
  · refine lv_iconst (v := nI 0) hx hb dX7_ratio_30 (by decide) ?_
    refine va_put (D := D) (ci := 7) (v := .int (nI 0)) (ty := .int) (C := RX7) (T := TX7) (N := 17) hx hb hts iX7 tyX7 tyX7_ok nmX7 hown hK hP hD hS 0 rfl rfl 5 (by decide) (hts _ k_f_X7_45) (fun _ h9 => h9) rfl (by decide +kernel) rfl rfl (Nat.le_of_ble_eq_true rfl) dX7_ratio_31 (fun H locs hP hD hS => ?_)
    have hP : va_P D vwCl (WM K mm ta sl ss be ch (nI 0) u6.1.1 u6.2 (nI 6) u6.1.2.1 u6.1.2.2 st gs gm gu gl aw) H := hP
    have hD : va_D A (WM K mm ta sl ss be ch (nI 0) u6.1.1 u6.2 (nI 6) u6.1.2.1 u6.1.2.2 st gs gm gu gl aw) := hD
    refine lv_aload_n hx hb dX7_ratio_34 rfl (lv_at hl 0 rfl) ?_
    refine va_get (D := D) (ci := 7) (C := RX7) (T := TX7) (N := 17) hx hb hts iX7 hown hK hP 0 rfl rfl 5 (by decide) (hts _ k_f_X7_45) (fun _ h9 => h9) rfl dX7_ratio_35 ?_
    refine b_if_eq hx hb (nI_toIntI (by omega)) dX7_ratio_38 (tgt := 45) (by decide) (fun c38 => ?_) (fun c38 => absurd c38 (by omega))
    refine lv_aload_n hx hb dX7_ratio_45 rfl (lv_at hl 0 rfl) ?_
    refine lv_iload_n hx hb dX7_ratio_46 rfl (lv_at hl 1 rfl) ?_
    have hst0 : stM d ge = 0 := by omega
    refine va_calll (va_runV (As := [.int (nI kp)]) (rest := []) ⟨hx, hb, hml, hown, hts⟩ (c_X7_ratioPart l D K mm ta sl ss be ch (nI 0) u6.1.1 u6.2 (nI 6) u6.1.2.1 u6.1.2.2 st gs gm gu gl aw (SP d ge) nr kp H.size hnr hkp hs0 hst0) (cwV 1 hts (TB_V k_m_X7_141 k_im_X7_ratioPart k_se_X7_ratioPart k_in_X7 k_co_X7_ratioPart (fun _ h => h)) rfl rfl rfl (by decide +kernel) ⟨Nat.le_of_ble_eq_true rfl, Nat.le_of_ble_eq_true rfl⟩) ⟨cP_blind, va_recv hK hP (ci := 7) (q0 := 0) rfl rfl, cP_of hP hK hD⟩ rfl rfl hl.1 rfl (lv_room (Nat.le_of_ble_eq_true rfl)) dX7_ratio_47 ⟨Nat.le_of_ble_eq_true rfl, Nat.le_of_ble_eq_true rfl⟩) hS (fun q _ h => absurd h id) (fun q h => absurd h id) (fun rz u9 t9 H locs ht9 hvm hw hB hz1 hk1 hS => ?_)
    have hP := P_same hP hk1
    have hrs : rs_ratio d (nI kp) = _ := ((cI_f (fun z => z hprt)).trans ((cI_f (fun z => z (by rw [hg1]; exact hst0))).trans (rfl)))
    exact W.lret (v := rz) hx hb hr (fun t9 ht9 hW => ⟨⟨rz, (ta, sl, ss, be, ch, (nI 0), u6.1.1, u6.2, (nI 6), u6.1.2.1, u6.1.2.2, st, gs, gm, gu, gl, aw), rfl, ⟨hR, by rw [hrs], by rw [hrs]; exact fun h9 => by rw [hg1, hkpn]; exact hw⟩, by rw [ht9]; exact hP, va_K.moved hW.alike hK, hD⟩, hS.F ht9⟩) hS.2.2 dX7_ratio_50
  refine lv_iconst (v := nI 2) hx hb dX7_ratio_26 (by decide) ?_
  refine lv_goto (tgt := 31) hx hb dX7_ratio_27 (by decide) ?_
  refine va_put (D := D) (ci := 7) (v := .int (nI 2)) (ty := .int) (C := RX7) (T := TX7) (N := 17) hx hb hts iX7 tyX7 tyX7_ok nmX7 hown hK hP hD hS 0 rfl rfl 5 (by decide) (hts _ k_f_X7_45) (fun _ h9 => h9) rfl (by decide +kernel) rfl rfl (Nat.le_of_ble_eq_true rfl) dX7_ratio_31 (fun H locs hP hD hS => ?_)
  have hP : va_P D vwCl (WM K mm ta sl ss be ch (nI 2) u6.1.1 u6.2 (nI 6) u6.1.2.1 u6.1.2.2 st gs gm gu gl aw) H := hP
  have hD : va_D A (WM K mm ta sl ss be ch (nI 2) u6.1.1 u6.2 (nI 6) u6.1.2.1 u6.1.2.2 st gs gm gu gl aw) := hD
  refine lv_aload_n hx hb dX7_ratio_34 rfl (lv_at hl 0 rfl) ?_
  refine va_get (D := D) (ci := 7) (C := RX7) (T := TX7) (N := 17) hx hb hts iX7 hown hK hP 0 rfl rfl 5 (by decide) (hts _ k_f_X7_45) (fun _ h9 => h9) rfl dX7_ratio_35 ?_
  refine b_if_eq hx hb (nI_toIntI (by omega)) dX7_ratio_38 (tgt := 45) (by decide) (fun c38 => absurd c38 (by omega)) (fun c38 => ?_)
  refine lv_lconst (v := 0) hx hb dX7_ratio_41 (by decide) ?_
  refine lv_goto (tgt := 50) hx hb dX7_ratio_42 (by decide) ?_
  have hrs : rs_ratio d (nI kp) = _ := ((cI_f (fun z => z hprt)).trans (cI_t (by rw [hg1]; omega)))
  exact W.lret (v := (0 : Int64)) hx hb hr (fun t9 ht9 hW => ⟨⟨(0 : Int64), (ta, sl, ss, be, ch, (nI 2), u6.1.1, u6.2, (nI 6), u6.1.2.1, u6.1.2.2, st, gs, gm, gu, gl, aw), rfl, ⟨hR, by rw [hrs], by rw [hrs]; exact fun h9 => absurd h9 (by decide)⟩, by rw [ht9]; exact hP, va_K.moved hW.alike hK, hD⟩, hS.F ht9⟩) hS.2.2 dX7_ratio_50
