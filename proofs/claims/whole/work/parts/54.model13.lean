/-! PlanetaryGearboxModel: capacity, undo -/
theorem AtD_cap {ta : Nat → Int32} {d : Nat → Nat → Int32} {k : Nat} {x : Int32} (h : AtD ta d) (hk : k < 6) : AtD (upd ta (27 + k) x) (dU d 7 k x) := by
  obtain ⟨h1, h2, h3, h4, h5⟩ := h
  refine ⟨fun i j hi hj => ?_, fun e he => ?_, (updOther (by omega)).trans h3, (updOther (by omega)).trans h4, (updOther (by omega)).trans h5⟩
  · rw [updOther (by omega), h1 i j hi hj]
    have : j = 0 ∨ j = 1 ∨ j = 2 ∨ j = 3 ∨ j = 4 := by omega
    rcases this with rfl | rfl | rfl | rfl | rfl <;> rfl
  · obtain ⟨g1, g2, g3⟩ := h2 e he
    refine ⟨(updOther (by omega)).trans g1, (updOther (by omega)).trans g2, ?_⟩
    by_cases q : e = k
    · subst q; exact updSame.trans updSame.symm
    · exact (updOther (by omega)).trans (g3.trans (updOther q).symm)
theorem AtD_eng {ta : Nat → Int32} {d : Nat → Nat → Int32} {x : Int32} (h : AtD ta d) : AtD (upd ta 35 x) (dU d 8 2 x) := by
  obtain ⟨h1, h2, h3, h4, h5⟩ := h
  refine ⟨fun i j hi hj => ?_, fun e he => ?_, (updOther (by omega)).trans h3, (updOther (by omega)).trans h4, updSame⟩
  · rw [updOther (by omega), h1 i j hi hj]
    have : j = 0 ∨ j = 1 ∨ j = 2 ∨ j = 3 ∨ j = 4 := by omega
    rcases this with rfl | rfl | rfl | rfl | rfl <;> rfl
  · obtain ⟨g1, g2, g3⟩ := h2 e he
    exact ⟨(updOther (by omega)).trans g1, (updOther (by omega)).trans g2, (updOther (by omega)).trans g3⟩
set_option maxHeartbeats 4000000 in
set_option maxRecDepth 100000 in
theorem c_X7_setCapacity (l : Launch) (D : va_G) (K : Nat → ClassId) (mm : Nat → Nat) (v : CV) (w0 : MS) (x y : Int32) (sz : Nat) (hI : IV v) (hR : RM v w0)  : Met l yX7_setCapacity (.code yX7_setCapacity cX7_setCapacity 4 (some .int) :: TB) ({ frames := 2, cells := 0, slots := 0, locals := 43 } : Room) (va_Pc [.ref (mm 0), .int x, .int y] (cP D K (WMu K mm w0) sz)) (va_Qi (fun (z : Int32) (u : MS) => u.2.2.2.2.2.1 = nI (rs_setCapacity v.1 x y).1 ∧ ((rs_setCapacity v.1 x y).1 = 0 → z.toInt = (rs_setCapacity v.1 x y).2 ∧ RM (dU v.1 7 x.toInt.toNat y, v.2) u) ∧ (¬ (rs_setCapacity v.1 x y).1 = 0 → RM v u)) (fun (u : MS) t => cB D K (va_A (WMu K mm w0) sz) (WMu K mm u) t) (va_A (WMu K mm w0) sz)) 0 0 (va_A (WMu K mm w0) sz) := by
  refine Met.ofW (cc := cX7_setCapacity) (maxL := 4) (ret := (some .int)) (by decide) rfl ?_
  intro p e s m args below meth c s₁ B hml hv
  obtain ⟨rfl, hsz, hP, hK, hD0⟩ := hv
  have hx := B.exec
  have hb := B.bytes
  have hr := B.returns
  have hts := hts_tl (atoms_spec (ws := (.code yX7_setCapacity cX7_setCapacity 4 (some .int) :: TB)) B.pre)
  have hown : s.vm.findClass RX7 = some m.cls := findClass_of_methodNamed B.named
  have hlocks := B.notSynchronized
  subst hsz
  have hD := hD0.self (sz := s.heap.size)
  generalize hAe : (va_A (WMu K mm w0) s.heap.size) = A at hD ⊢
  have hA : ∀ q : Nat, s.heap.size ≤ q → A q := fun q h => by rw [← hAe]; exact Or.inr h
  have hS : va_S A s.heap s.heap [] := va_S.rf
  clear hAe hD0
  obtain ⟨d, d1, d2, f1, f2, f, s0⟩ := v
  obtain ⟨ta, sl, ss, be, ch, th, M, rq, cq, pv, so, st, gs, gm, gu, gl, aw⟩ := w0
  obtain ⟨hd, hd1, hd2, hf1, hf2, hs20, hhf⟩ := id hI
  obtain ⟨hat, hat1, hat2, hss0, hss1, hch, hbe⟩ := id hR
  dsimp only at hd hd1 hd2 hf1 hf2 hs20 hhf hat hat1 hat2 hss0 hss1 hch hbe
  obtain ⟨n, m1, ge, hn, hm, hge, h0, h1, h2, hs9, he9⟩ := id hd
  obtain ⟨ha1, ha2, ha33, ha34, ha35⟩ := id hat
  have hp6 : 2 ^ m1 ≤ 64 := Nat.pow_le_pow_right (show 0 < 2 by decide) hm
  have h33 := ha33.trans h0
  have h34 := ha34.trans h1
  have h35 := ha35.trans h2
  have hn1 : dn d 8 0 = n := dn_of h0 (by omega)
  have hm1 : dn d 8 1 = m1 := dn_of h1 (by omega)
  have hg1 : dn d 8 2 = ge := dn_of h2 (by omega)
  have hP : va_P D vwCl (WM K mm ta sl ss be ch th M rq cq pv so st gs gm gu gl aw) s.heap := hP
  have hD : va_D A (WM K mm ta sl ss be ch th M rq cq pv so st gs gm gu gl aw) := hD
  have hl := lv_entry ([.ref (mm 0), .int x, .int y]) (n := 4) (Nat.le_of_ble_eq_true rfl)
  rw [lg_entry_eq]
  generalize (lg_sl ([.ref (mm 0), .int x, .int y]) ++ List.replicate (4 - (lg_sl ([.ref (mm 0), .int x, .int y])).length) Slot.unset).toArray = ls at hl ⊢
  have hl : lv_has ls 4 [(0, .ref (mm 0)), (1, .int x), (2, .int y)] := hl
  refine lv_aload_n hx hb dX7_setCapacity_0 rfl (lv_at hl 0 rfl) ?_
  refine lv_aload_n hx hb dX7_setCapacity_1 rfl (lv_at hl 0 rfl) ?_
  refine lv_iload_n hx hb dX7_setCapacity_2 rfl (lv_at hl 1 rfl) ?_
  refine va_calli (va_runV (As := [.int x]) (rest := [.ref (mm 0)]) ⟨hx, hb, hml, hown, hts⟩ (c_X7_isElement l D K mm ta sl ss be ch th M rq cq pv so st gs gm gu gl aw m1 x s.heap.size hm h34) (cwV 1 hts (TB_V k_m_X7_61 k_im_X7_isElement k_se_X7_isElement k_in_X7 k_co_X7_isElement (fun _ h => h)) rfl rfl rfl (by decide +kernel) ⟨Nat.le_of_ble_eq_true rfl, Nat.le_of_ble_eq_true rfl⟩) ⟨cP_blind, va_recv hK hP (ci := 7) (q0 := 0) rfl rfl, cP_of hP hK hD⟩ rfl rfl hl.1 rfl (lv_room (Nat.le_of_ble_eq_true rfl)) dX7_setCapacity_3 ⟨Nat.le_of_ble_eq_true rfl, Nat.le_of_ble_eq_true rfl⟩) hS (fun q _ h => absurd h id) (fun q h => absurd h id) (fun he u9 t9 H locs ht9 hvm hw hB hz1 hk1 hS => ?_)
  have hP := P_same hP hk1
  have hw := hw.trans (bI_iff (show _ ↔ elm d x by unfold elm; rw [hm1]))
  by_cases hel : elm d x
  rotate_left
  · refine t_i (hw.trans (bI_f hel).symm) ?_
    refine b_if_ne hx hb (nI_toIntI (by omega)) dX7_setCapacity_6 (tgt := 13) (by decide) (fun c6 => absurd c6 (by omega)) (fun c6 => ?_)
    refine lv_iconst (v := nI 1) hx hb dX7_setCapacity_9 (by decide) ?_
    refine lv_goto (tgt := 29) hx hb dX7_setCapacity_10 (by decide) ?_
    refine va_put (D := D) (ci := 7) (v := .int (nI 1)) (ty := .int) (C := RX7) (T := TX7) (N := 17) hx hb hts iX7 tyX7 tyX7_ok nmX7 hown hK hP hD hS 0 rfl rfl 5 (by decide) (hts _ k_f_X7_45) (fun _ h9 => h9) rfl (by decide +kernel) rfl rfl (Nat.le_of_ble_eq_true rfl) dX7_setCapacity_29 (fun H locs hP hD hS => ?_)
    have hP : va_P D vwCl (WM K mm ta sl ss be ch (nI 1) M rq cq pv so st gs gm gu gl aw) H := hP
    have hD : va_D A (WM K mm ta sl ss be ch (nI 1) M rq cq pv so st gs gm gu gl aw) := hD
    refine lv_aload_n hx hb dX7_setCapacity_32 rfl (lv_at hl 0 rfl) ?_
    refine va_get (D := D) (ci := 7) (C := RX7) (T := TX7) (N := 17) hx hb hts iX7 hown hK hP 0 rfl rfl 5 (by decide) (hts _ k_f_X7_45) (fun _ h9 => h9) rfl dX7_setCapacity_33 ?_
    refine b_if_eq hx hb (nI_toIntI (by omega)) dX7_setCapacity_36 (tgt := 41) (by decide) (fun c36 => absurd c36 (by omega)) (fun c36 => ?_)
    refine lv_iconst (v := nI 0) hx hb dX7_setCapacity_39 (by decide) ?_
    have hrs : rs_setCapacity d x y = _ := (cI_t (hel))
    exact W.iret (v := nI 0) hx hb hr (fun t9 ht9 hW => ⟨⟨nI 0, (ta, sl, ss, be, ch, (nI 1), M, rq, cq, pv, so, st, gs, gm, gu, gl, aw), rfl, ⟨by rw [hrs], by rw [hrs]; exact fun h9 => absurd h9 (by decide), fun _ => hR⟩, by rw [ht9]; exact hP, va_K.moved hW.alike hK, hD⟩, hS.F ht9⟩) hS.2.2 dX7_setCapacity_40
  refine t_i (hw.trans (bI_t hel).symm) ?_
  obtain ⟨ke, hke, rfl⟩ := id hel
  have hke2 := hke
  rw [hm1] at hke2
  have hkn : (nI ke).toInt.toNat = ke := by rw [nI_toIntI (by omega)]; omega
  refine b_if_ne hx hb (nI_toIntI (by omega)) dX7_setCapacity_6 (tgt := 13) (by decide) (fun c6 => ?_) (fun c6 => absurd c6 (by omega))
  refine lv_iload_n hx hb dX7_setCapacity_13 rfl (lv_at hl 2 rfl) ?_
  refine lv_iconst (v := nI 1) hx hb dX7_setCapacity_14 (by decide) ?_
  refine lv_sipush (v := nI 10000) hx hb dX7_setCapacity_15 (by decide) ?_
  refine va_calli (va_runS (As := [.int y, .int (nI 1), .int (nI 10000)]) (rest := [.ref (mm 0)]) ⟨hx, hb, hml, hown, hts⟩ (c_X7_in l y (nI 1) (nI 10000) ) (va_cwS 3 hts (TB_S k_m_X7_49 k_st_X7_in k_in_X7 k_co_X7_in (fun _ h => h)) rfl rfl rfl (by decide +kernel) ⟨Nat.le_of_ble_eq_true rfl, Nat.le_of_ble_eq_true rfl⟩) ⟨tP_blind, tP_of⟩ rfl rfl hl.1 rfl (lv_room (Nat.le_of_ble_eq_true rfl)) dX7_setCapacity_18 ⟨Nat.le_of_ble_eq_true rfl, Nat.le_of_ble_eq_true rfl⟩) hS (fun q _ h => absurd h id) (fun q h => absurd h id) (fun zi u9 t9 H locs ht9 hvm hw hB hz1 hk1 hS => ?_)
  have hP := P_same hP hk1
  have hw := hw.trans (bI_iff (show _ ↔ (1 ≤ y.toInt ∧ y.toInt ≤ 10000) by rw [nI_toIntI (by omega), nI_toIntI (by omega)]; omega))
  by_cases hin9 : 1 ≤ y.toInt ∧ y.toInt ≤ 10000
  rotate_left
  · refine t_i (hw.trans (bI_f hin9).symm) ?_
    refine b_if_ne hx hb (nI_toIntI (by omega)) dX7_setCapacity_21 (tgt := 28) (by decide) (fun c21 => absurd c21 (by omega)) (fun c21 => ?_)
    refine lv_iconst (v := nI 2) hx hb dX7_setCapacity_24 (by decide) ?_
    refine lv_goto (tgt := 29) hx hb dX7_setCapacity_25 (by decide) ?_
    refine va_put (D := D) (ci := 7) (v := .int (nI 2)) (ty := .int) (C := RX7) (T := TX7) (N := 17) hx hb hts iX7 tyX7 tyX7_ok nmX7 hown hK hP hD hS 0 rfl rfl 5 (by decide) (hts _ k_f_X7_45) (fun _ h9 => h9) rfl (by decide +kernel) rfl rfl (Nat.le_of_ble_eq_true rfl) dX7_setCapacity_29 (fun H locs hP hD hS => ?_)
    have hP : va_P D vwCl (WM K mm ta sl ss be ch (nI 2) M rq cq pv so st gs gm gu gl aw) H := hP
    have hD : va_D A (WM K mm ta sl ss be ch (nI 2) M rq cq pv so st gs gm gu gl aw) := hD
    refine lv_aload_n hx hb dX7_setCapacity_32 rfl (lv_at hl 0 rfl) ?_
    refine va_get (D := D) (ci := 7) (C := RX7) (T := TX7) (N := 17) hx hb hts iX7 hown hK hP 0 rfl rfl 5 (by decide) (hts _ k_f_X7_45) (fun _ h9 => h9) rfl dX7_setCapacity_33 ?_
    refine b_if_eq hx hb (nI_toIntI (by omega)) dX7_setCapacity_36 (tgt := 41) (by decide) (fun c36 => absurd c36 (by omega)) (fun c36 => ?_)
    refine lv_iconst (v := nI 0) hx hb dX7_setCapacity_39 (by decide) ?_
    have hrs : rs_setCapacity d (nI ke) y = _ := ((cI_f (fun z => z hel)).trans (cI_t (by omega)))
    exact W.iret (v := nI 0) hx hb hr (fun t9 ht9 hW => ⟨⟨nI 0, (ta, sl, ss, be, ch, (nI 2), M, rq, cq, pv, so, st, gs, gm, gu, gl, aw), rfl, ⟨by rw [hrs], by rw [hrs]; exact fun h9 => absurd h9 (by decide), fun _ => hR⟩, by rw [ht9]; exact hP, va_K.moved hW.alike hK, hD⟩, hS.F ht9⟩) hS.2.2 dX7_setCapacity_40
  refine t_i (hw.trans (bI_t hin9).symm) ?_
  have ht27 := (ha2 ke (by omega)).2.2
  refine b_if_ne hx hb (nI_toIntI (by omega)) dX7_setCapacity_21 (tgt := 28) (by decide) (fun c21 => ?_) (fun c21 => absurd c21 (by omega))
  refine lv_iconst (v := nI 0) hx hb dX7_setCapacity_28 (by decide) ?_
  refine va_put (D := D) (ci := 7) (v := .int (nI 0)) (ty := .int) (C := RX7) (T := TX7) (N := 17) hx hb hts iX7 tyX7 tyX7_ok nmX7 hown hK hP hD hS 0 rfl rfl 5 (by decide) (hts _ k_f_X7_45) (fun _ h9 => h9) rfl (by decide +kernel) rfl rfl (Nat.le_of_ble_eq_true rfl) dX7_setCapacity_29 (fun H locs hP hD hS => ?_)
  have hP : va_P D vwCl (WM K mm ta sl ss be ch (nI 0) M rq cq pv so st gs gm gu gl aw) H := hP
  have hD : va_D A (WM K mm ta sl ss be ch (nI 0) M rq cq pv so st gs gm gu gl aw) := hD
  refine lv_aload_n hx hb dX7_setCapacity_32 rfl (lv_at hl 0 rfl) ?_
  refine va_get (D := D) (ci := 7) (C := RX7) (T := TX7) (N := 17) hx hb hts iX7 hown hK hP 0 rfl rfl 5 (by decide) (hts _ k_f_X7_45) (fun _ h9 => h9) rfl dX7_setCapacity_33 ?_
  refine b_if_eq hx hb (nI_toIntI (by omega)) dX7_setCapacity_36 (tgt := 41) (by decide) (fun c36 => ?_) (fun c36 => absurd c36 (by omega))
  refine lv_aload_n hx hb dX7_setCapacity_41 rfl (lv_at hl 0 rfl) ?_
  refine va_get (D := D) (ci := 7) (C := RX7) (T := TX7) (N := 17) hx hb hts iX7 hown hK hP 0 rfl rfl 0 (by decide) (hts _ k_f_X7_7) (fun _ h9 => h9) rfl dX7_setCapacity_42 ?_
  refine lv_bipush (v := nI 27) hx hb dX7_setCapacity_45 (by decide) ?_
  refine lv_iload_n hx hb dX7_setCapacity_47 rfl (lv_at hl 1 rfl) ?_
  refine lv_iadd hx hb dX7_setCapacity_48 ?_
  refine t_i (nI_add _ _) ?_
  refine n_iald hx hb hK hP 1 0 rfl rfl (i := 27 + ke) (n := 36) (by omega) (by decide) dX7_setCapacity_49 ?_
  refine lv_istore_n (lv' := [(3, .int (ta (27 + ke))), (0, .ref (mm 0)), (1, .int (nI ke)), (2, .int y)]) hx hb dX7_setCapacity_50 rfl hl (by decide) rfl (fun ls hl => ?_)
  refine lv_aload_n hx hb dX7_setCapacity_51 rfl (lv_at hl 1 rfl) ?_
  refine va_get (D := D) (ci := 7) (C := RX7) (T := TX7) (N := 17) hx hb hts iX7 hown hK hP 0 rfl rfl 0 (by decide) (hts _ k_f_X7_7) (fun _ h9 => h9) rfl dX7_setCapacity_52 ?_
  refine lv_bipush (v := nI 27) hx hb dX7_setCapacity_55 (by decide) ?_
  refine lv_iload_n hx hb dX7_setCapacity_57 rfl (lv_at hl 2 rfl) ?_
  refine lv_iadd hx hb dX7_setCapacity_58 ?_
  refine t_i (nI_add _ _) ?_
  refine lv_iload_n hx hb dX7_setCapacity_59 rfl (lv_at hl 3 rfl) ?_
  refine n_iast hx hb hK hP hD hS 1 0 rfl rfl (i := 27 + ke) (n := 36) (by omega) (by decide) dX7_setCapacity_60 (fun H locs hP hD hS => ?_)
  have hP : va_P D vwCl (WM K mm (upd ta (27 + ke) y) sl ss be ch (nI 0) M rq cq pv so st gs gm gu gl aw) H := hP
  have hD : va_D A (WM K mm (upd ta (27 + ke) y) sl ss be ch (nI 0) M rq cq pv so st gs gm gu gl aw) := hD
  refine lv_iload_n hx hb dX7_setCapacity_61 rfl (lv_at hl 0 rfl) ?_
  have hrs : rs_setCapacity d (nI ke) y = _ := ((cI_f (fun z => z hel)).trans ((cI_f (by omega)).trans (rfl)))
  exact W.iret (v := ta (27 + ke)) hx hb hr (fun t9 ht9 hW => ⟨⟨ta (27 + ke), (upd ta (27 + ke) y, sl, ss, be, ch, (nI 0), M, rq, cq, pv, so, st, gs, gm, gu, gl, aw), rfl, ⟨by rw [hrs], by rw [hrs]; exact fun _ => ⟨by rw [hkn, ht27], by rw [hkn]; exact ⟨AtD_cap hat (by omega), hat1, hat2, hss0, hss1, hch, hbe⟩⟩, by rw [hrs]; exact fun h9 => absurd rfl h9⟩, by rw [ht9]; exact hP, va_K.moved hW.alike hK, hD⟩, hS.F ht9⟩) hS.2.2 dX7_setCapacity_62
