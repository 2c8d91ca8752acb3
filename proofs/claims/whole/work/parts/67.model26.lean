/-! PlanetaryGearboxModel: fewestShifts, shift -/
set_option maxHeartbeats 4000000 in
set_option maxRecDepth 100000 in
theorem c_X7_fewestShifts (l : Launch) (D : va_G) (K : Nat → ClassId) (mm : Nat → Nat) (v : CV) (w0 : MS) (x y : Int32) (sz : Nat) (hI : IV v) (hR : RM v w0)  : Met l yX7_fewestShifts (.code yX7_fewestShifts cX7_fewestShifts 3 (some .int) :: TB) ({ frames := 7, cells := 0, slots := 0, locals := 177 } : Room) (va_Pc [.ref (mm 0), .int x, .int y] (cP D K (WMu K mm w0) sz)) (va_Qi (fun (z : Int32) (u : MS) => RM v u ∧ u.2.2.2.2.2.1 = nI (rs_fewest v.1 x y).1 ∧ ((rs_fewest v.1 x y).1 = 0 → z.toInt = (rs_fewest v.1 x y).2)) (fun (u : MS) t => cB D K (va_A (WMu K mm w0) sz) (WMu K mm u) t) (va_A (WMu K mm w0) sz)) 0 0 (va_A (WMu K mm w0) sz) := by
  refine Met.ofW (cc := cX7_fewestShifts) (maxL := 3) (ret := (some .int)) (by decide) rfl ?_
  intro p e s m args below meth c s₁ B hml hv
  obtain ⟨rfl, hsz, hP, hK, hD0⟩ := hv
  have hx := B.exec
  have hb := B.bytes
  have hr := B.returns
  have hts := hts_tl (atoms_spec (ws := (.code yX7_fewestShifts cX7_fewestShifts 3 (some .int) :: TB)) B.pre)
  have hown : s.vm.findClass RX7 = some m.cls := findClass_of_methodNamed B.named
  have hlocks := B.notSynchronized
  subst hsz
  have hD := hD0.self (sz := s.heap.size)
  generalize hAe : (va_A (WMu K mm w0) s.heap.size) = A at hD ⊢
  have hA : ∀ q : Nat, s.heap.size ≤ q → A q := fun q h => by rw [← hAe]; exact Or.inr h
  have hS : va_S A s.heap s.heap [] := va_S.rf
  clear hAe hD0
  obtain ⟨d, d1, d2, f1, f2, f, s0⟩ := v
  obtain ⟨ta, sl, ss, be, ch, th, M, rq, cq, pv, so, st, gs, gm, gu, gl, aw⟩ := w0
  obtain ⟨hd, hd1, hd2, hf1, hf2, hs20, hhf⟩ := id hI
  obtain ⟨hat, hat1, hat2, hss0, hss1, hch, hbe⟩ := id hR
  dsimp only at hd hd1 hd2 hf1 hf2 hs20 hhf hat hat1 hat2 hss0 hss1 hch hbe
  obtain ⟨n, m1, ge, hn, hm, hge, h0, h1, h2, hs9, he9⟩ := id hd
  obtain ⟨ha1, ha2, ha33, ha34, ha35⟩ := id hat
  have hp6 : 2 ^ m1 ≤ 64 := Nat.pow_le_pow_right (show 0 < 2 by decide) hm
  have h33 := ha33.trans h0
  have h34 := ha34.trans h1
  have h35 := ha35.trans h2
  have hn1 : dn d 8 0 = n := dn_of h0 (by omega)
  have hm1 : dn d 8 1 = m1 := dn_of h1 (by omega)
  have hg1 : dn d 8 2 = ge := dn_of h2 (by omega)
  have hP : va_P D vwCl (WM K mm ta sl ss be ch th M rq cq pv so st gs gm gu gl aw) s.heap := hP
  have hD : va_D A (WM K mm ta sl ss be ch th M rq cq pv so st gs gm gu gl aw) := hD
  have hl := lv_entry ([.ref (mm 0), .int x, .int y]) (n := 3) (Nat.le_of_ble_eq_true rfl)
  rw [lg_entry_eq]
  generalize (lg_sl ([.ref (mm 0), .int x, .int y]) ++ List.replicate (3 - (lg_sl ([.ref (mm 0), .int x, .int y])).length) Slot.unset).toArray = ls at hl ⊢
  have hl : lv_has ls 3 [(0, .ref (mm 0)), (1, .int x), (2, .int y)] := hl
  refine lv_aload_n hx hb dX7_fewestShifts_0 rfl (lv_at hl 0 rfl) ?_
  have hFc := freeAll hD hS hA
  refine va_callv (va_runV (As := []) (rest := []) ⟨hx, hb, hml, hown, hts⟩ (c_X7_layGears l D K mm ta sl ss be ch th M rq cq pv so st gs gm gu gl aw d s.heap.size hd hat) (cwV 0 hts (TB_V k_m_X7_64 k_im_X7_layGears k_se_X7_layGears k_in_X7 k_co_X7_layGears (fun _ h => h)) rfl rfl rfl (by decide +kernel) ⟨Nat.le_of_ble_eq_true rfl, Nat.le_of_ble_eq_true rfl⟩) ⟨cP_blind, va_recv hK hP (ci := 7) (q0 := 0) rfl rfl, cP_of hP hK hD⟩ rfl rfl hl.1 rfl (lv_room (Nat.le_of_ble_eq_true rfl)) dX7_fewestShifts_1 ⟨Nat.le_of_ble_eq_true rfl, Nat.le_of_ble_eq_true rfl⟩) hS (fun q _ h => hFc q h) hFc (fun u8 t9 H locs ht9 hvm hw hB hz1 hk1 hS => ?_)
  obtain ⟨hP, hK1, hD1⟩ := hB
  rw [ht9] at hP
  have hD := hD1.weaken (fun _ _ _ h => hFc _ h)
  have hP : va_P D vwCl (WM K mm ta sl ss be ch th u8.1 u8.2.1 u8.2.2.1 u8.2.2.2.1 u8.2.2.2.2.1 u8.2.2.2.2.2.1 (nI (gN d)) u8.2.2.2.2.2.2.1 u8.2.2.2.2.2.2.2.1 u8.2.2.2.2.2.2.2.2 aw) H := hP
  have hD : va_D A (WM K mm ta sl ss be ch th u8.1 u8.2.1 u8.2.2.1 u8.2.2.2.1 u8.2.2.2.2.1 u8.2.2.2.2.2.1 (nI (gN d)) u8.2.2.2.2.2.2.1 u8.2.2.2.2.2.2.2.1 u8.2.2.2.2.2.2.2.2 aw) := hD
  have htab := hw
  have hn64 := gN_le d
  refine lv_aload_n hx hb dX7_fewestShifts_4 rfl (lv_at hl 0 rfl) ?_
  refine lv_aload_n hx hb dX7_fewestShifts_5 rfl (lv_at hl 0 rfl) ?_
  refine lv_iload_n hx hb dX7_fewestShifts_6 rfl (lv_at hl 1 rfl) ?_
  refine va_calli (va_runV (As := [.int x]) (rest := [.ref (mm 0)]) ⟨hx, hb, hml, hown, hts⟩ (c_X7_isNumber l D K mm ta sl ss be ch th u8.1 u8.2.1 u8.2.2.1 u8.2.2.2.1 u8.2.2.2.2.1 u8.2.2.2.2.2.1 (nI (gN d)) u8.2.2.2.2.2.2.1 u8.2.2.2.2.2.2.2.1 u8.2.2.2.2.2.2.2.2 aw (gN d) x H.size hn64) (cwV 1 hts (TB_V k_m_X7_153 k_im_X7_isNumber k_se_X7_isNumber k_in_X7 k_co_X7_isNumber (fun _ h => h)) rfl rfl rfl (by decide +kernel) ⟨Nat.le_of_ble_eq_true rfl, Nat.le_of_ble_eq_true rfl⟩) ⟨cP_blind, va_recv hK hP (ci := 7) (q0 := 0) rfl rfl, cP_of hP hK hD⟩ rfl rfl hl.1 rfl (lv_room (Nat.le_of_ble_eq_true rfl)) dX7_fewestShifts_7 ⟨Nat.le_of_ble_eq_true rfl, Nat.le_of_ble_eq_true rfl⟩) hS (fun q _ h => absurd h id) (fun q h => absurd h id) (fun gz u9 t9 H locs ht9 hvm hw hB hz1 hk1 hS => ?_)
  have hP := P_same hP hk1
  have hw := hw.trans (bI_iff (show _ ↔ ger d x from Iff.rfl))
  by_cases hgra : ger d x
  rotate_left
  · refine t_i (hw.trans (bI_f hgra).symm) ?_
    refine b_if_eq hx hb (nI_toIntI (by omega)) dX7_fewestShifts_10 (tgt := 25) (by decide) (fun c10 => ?_) (fun c10 => absurd c10 (by omega))
    refine lv_iconst (v := nI 1) hx hb dX7_fewestShifts_25 (by decide) ?_
    refine va_put (D := D) (ci := 7) (v := .int (nI 1)) (ty := .int) (C := RX7) (T := TX7) (N := 17) hx hb hts iX7 tyX7 tyX7_ok nmX7 hown hK hP hD hS 0 rfl rfl 5 (by decide) (hts _ k_f_X7_45) (fun _ h9 => h9) rfl (by decide +kernel) rfl rfl (Nat.le_of_ble_eq_true rfl) dX7_fewestShifts_26 (fun H locs hP hD hS => ?_)
    have hP : va_P D vwCl (WM K mm ta sl ss be ch (nI 1) u8.1 u8.2.1 u8.2.2.1 u8.2.2.2.1 u8.2.2.2.2.1 u8.2.2.2.2.2.1 (nI (gN d)) u8.2.2.2.2.2.2.1 u8.2.2.2.2.2.2.2.1 u8.2.2.2.2.2.2.2.2 aw) H := hP
    have hD : va_D A (WM K mm ta sl ss be ch (nI 1) u8.1 u8.2.1 u8.2.2.1 u8.2.2.2.1 u8.2.2.2.2.1 u8.2.2.2.2.2.1 (nI (gN d)) u8.2.2.2.2.2.2.1 u8.2.2.2.2.2.2.2.1 u8.2.2.2.2.2.2.2.2 aw) := hD
    refine lv_aload_n hx hb dX7_fewestShifts_29 rfl (lv_at hl 0 rfl) ?_
    refine va_get (D := D) (ci := 7) (C := RX7) (T := TX7) (N := 17) hx hb hts iX7 hown hK hP 0 rfl rfl 5 (by decide) (hts _ k_f_X7_45) (fun _ h9 => h9) rfl dX7_fewestShifts_30 ?_
    refine b_if_eq hx hb (nI_toIntI (by omega)) dX7_fewestShifts_33 (tgt := 38) (by decide) (fun c33 => absurd c33 (by omega)) (fun c33 => ?_)
    refine lv_iconst (v := nI 0) hx hb dX7_fewestShifts_36 (by decide) ?_
    have hrs : rs_fewest d x y = _ := (cI_t (fun z => by first | exact hgra z.1 | exact hgrb z.2))
    exact W.iret (v := nI 0) hx hb hr (fun t9 ht9 hW => ⟨⟨nI 0, (ta, sl, ss, be, ch, (nI 1), u8.1, u8.2.1, u8.2.2.1, u8.2.2.2.1, u8.2.2.2.2.1, u8.2.2.2.2.2.1, (nI (gN d)), u8.2.2.2.2.2.2.1, u8.2.2.2.2.2.2.2.1, u8.2.2.2.2.2.2.2.2, aw), rfl, ⟨hR, by rw [hrs], by rw [hrs]; exact fun h9 => absurd h9 (by decide)⟩, by rw [ht9]; exact hP, va_K.moved hW.alike hK, hD⟩, hS.F ht9⟩) hS.2.2 dX7_fewestShifts_37
  refine t_i (hw.trans (bI_t hgra).symm) ?_
  obtain ⟨ka, hka, rfl⟩ := id hgra
  have hkan : (nI ka).toInt.toNat = ka := by rw [nI_toIntI (by omega)]; omega
  refine b_if_eq hx hb (nI_toIntI (by omega)) dX7_fewestShifts_10 (tgt := 25) (by decide) (fun c10 => absurd c10 (by omega)) (fun c10 => ?_)
  refine lv_aload_n hx hb dX7_fewestShifts_13 rfl (lv_at hl 0 rfl) ?_
  refine lv_iload_n hx hb dX7_fewestShifts_14 rfl (lv_at hl 2 rfl) ?_
  refine va_calli (va_runV (As := [.int y]) (rest := [.ref (mm 0)]) ⟨hx, hb, hml, hown, hts⟩ (c_X7_isNumber l D K mm ta sl ss be ch th u8.1 u8.2.1 u8.2.2.1 u8.2.2.2.1 u8.2.2.2.2.1 u8.2.2.2.2.2.1 (nI (gN d)) u8.2.2.2.2.2.2.1 u8.2.2.2.2.2.2.2.1 u8.2.2.2.2.2.2.2.2 aw (gN d) y H.size hn64) (cwV 1 hts (TB_V k_m_X7_153 k_im_X7_isNumber k_se_X7_isNumber k_in_X7 k_co_X7_isNumber (fun _ h => h)) rfl rfl rfl (by decide +kernel) ⟨Nat.le_of_ble_eq_true rfl, Nat.le_of_ble_eq_true rfl⟩) ⟨cP_blind, va_recv hK hP (ci := 7) (q0 := 0) rfl rfl, cP_of hP hK hD⟩ rfl rfl hl.1 rfl (lv_room (Nat.le_of_ble_eq_true rfl)) dX7_fewestShifts_15 ⟨Nat.le_of_ble_eq_true rfl, Nat.le_of_ble_eq_true rfl⟩) hS (fun q _ h => absurd h id) (fun q h => absurd h id) (fun gz u9 t9 H locs ht9 hvm hw hB hz1 hk1 hS => ?_)
  have hP := P_same hP hk1
  have hw := hw.trans (bI_iff (show _ ↔ ger d y from Iff.rfl))
  by_cases hgrb : ger d y
  rotate_left
  · refine t_i (hw.trans (bI_f hgrb).symm) ?_
    refine b_if_eq hx hb (nI_toIntI (by omega)) dX7_fewestShifts_18 (tgt := 25) (by decide) (fun c18 => ?_) (fun c18 => absurd c18 (by omega))
    refine lv_iconst (v := nI 1) hx hb dX7_fewestShifts_25 (by decide) ?_
    refine va_put (D := D) (ci := 7) (v := .int (nI 1)) (ty := .int) (C := RX7) (T := TX7) (N := 17) hx hb hts iX7 tyX7 tyX7_ok nmX7 hown hK hP hD hS 0 rfl rfl 5 (by decide) (hts _ k_f_X7_45) (fun _ h9 => h9) rfl (by decide +kernel) rfl rfl (Nat.le_of_ble_eq_true rfl) dX7_fewestShifts_26 (fun H locs hP hD hS => ?_)
    have hP : va_P D vwCl (WM K mm ta sl ss be ch (nI 1) u8.1 u8.2.1 u8.2.2.1 u8.2.2.2.1 u8.2.2.2.2.1 u8.2.2.2.2.2.1 (nI (gN d)) u8.2.2.2.2.2.2.1 u8.2.2.2.2.2.2.2.1 u8.2.2.2.2.2.2.2.2 aw) H := hP
    have hD : va_D A (WM K mm ta sl ss be ch (nI 1) u8.1 u8.2.1 u8.2.2.1 u8.2.2.2.1 u8.2.2.2.2.1 u8.2.2.2.2.2.1 (nI (gN d)) u8.2.2.2.2.2.2.1 u8.2.2.2.2.2.2.2.1 u8.2.2.2.2.2.2.2.2 aw) := hD
    refine lv_aload_n hx hb dX7_fewestShifts_29 rfl (lv_at hl 0 rfl) ?_
    refine va_get (D := D) (ci := 7) (C := RX7) (T := TX7) (N := 17) hx hb hts iX7 hown hK hP 0 rfl rfl 5 (by decide) (hts _ k_f_X7_45) (fun _ h9 => h9) rfl dX7_fewestShifts_30 ?_
    refine b_if_eq hx hb (nI_toIntI (by omega)) dX7_fewestShifts_33 (tgt := 38) (by decide) (fun c33 => absurd c33 (by omega)) (fun c33 => ?_)
    refine lv_iconst (v := nI 0) hx hb dX7_fewestShifts_36 (by decide) ?_
    have hrs : rs_fewest d (nI ka) y = _ := (cI_t (fun z => by first | exact hgra z.1 | exact hgrb z.2))
    exact W.iret (v := nI 0) hx hb hr (fun t9 ht9 hW => ⟨⟨nI 0, (ta, sl, ss, be, ch, (nI 1), u8.1, u8.2.1, u8.2.2.1, u8.2.2.2.1, u8.2.2.2.2.1, u8.2.2.2.2.2.1, (nI (gN d)), u8.2.2.2.2.2.2.1, u8.2.2.2.2.2.2.2.1, u8.2.2.2.2.2.2.2.2, aw), rfl, ⟨hR, by rw [hrs], by rw [hrs]; exact fun h9 => absurd h9 (by decide)⟩, by rw [ht9]; exact hP, va_K.moved hW.alike hK, hD⟩, hS.F ht9⟩) hS.2.2 dX7_fewestShifts_37
  refine t_i (hw.trans (bI_t hgrb).symm) ?_
  obtain ⟨kb, hkb, rfl⟩ := id hgrb
  have hkbn : (nI kb).toInt.toNat = kb := by rw [nI_toIntI (by omega)]; omega
  refine b_if_eq hx hb (nI_toIntI (by omega)) dX7_fewestShifts_18 (tgt := 25) (by decide) (fun c18 => absurd c18 (by omega)) (fun c18 => ?_)
  refine lv_iconst (v := nI 0) hx hb dX7_fewestShifts_21 (by decide) ?_
  refine lv_goto (tgt := 26) hx hb dX7_fewestShifts_22 (by decide) ?_
  refine va_put (D := D) (ci := 7) (v := .int (nI 0)) (ty := .int) (C := RX7) (T := TX7) (N := 17) hx hb hts iX7 tyX7 tyX7_ok nmX7 hown hK hP hD hS 0 rfl rfl 5 (by decide) (hts _ k_f_X7_45) (fun _ h9 => h9) rfl (by decide +kernel) rfl rfl (Nat.le_of_ble_eq_true rfl) dX7_fewestShifts_26 (fun H locs hP hD hS => ?_)
  have hP : va_P D vwCl (WM K mm ta sl ss be ch (nI 0) u8.1 u8.2.1 u8.2.2.1 u8.2.2.2.1 u8.2.2.2.2.1 u8.2.2.2.2.2.1 (nI (gN d)) u8.2.2.2.2.2.2.1 u8.2.2.2.2.2.2.2.1 u8.2.2.2.2.2.2.2.2 aw) H := hP
  have hD : va_D A (WM K mm ta sl ss be ch (nI 0) u8.1 u8.2.1 u8.2.2.1 u8.2.2.2.1 u8.2.2.2.2.1 u8.2.2.2.2.2.1 (nI (gN d)) u8.2.2.2.2.2.2.1 u8.2.2.2.2.2.2.2.1 u8.2.2.2.2.2.2.2.2 aw) := hD
  refine lv_aload_n hx hb dX7_fewestShifts_29 rfl (lv_at hl 0 rfl) ?_
  refine va_get (D := D) (ci := 7) (C := RX7) (T := TX7) (N := 17) hx hb hts iX7 hown hK hP 0 rfl rfl 5 (by decide) (hts _ k_f_X7_45) (fun _ h9 => h9) rfl dX7_fewestShifts_30 ?_
  refine b_if_eq hx hb (nI_toIntI (by omega)) dX7_fewestShifts_33 (tgt := 38) (by decide) (fun c33 => ?_) (fun c33 => absurd c33 (by omega))
  refine lv_aload_n hx hb dX7_fewestShifts_38 rfl (lv_at hl 0 rfl) ?_
  refine lv_iload_n hx hb dX7_fewestShifts_39 rfl (lv_at hl 2 rfl) ?_
  have hFc := freeAll hD hS hA
  refine va_callv (va_runV (As := [.int (nI kb)]) (rest := []) ⟨hx, hb, hml, hown, hts⟩ (c_X7_layAway l D K mm ta sl ss be ch (nI 0) u8.1 u8.2.1 u8.2.2.1 u8.2.2.2.1 u8.2.2.2.2.1 u8.2.2.2.2.2.1 (nI (gN d)) u8.2.2.2.2.2.2.1 u8.2.2.2.2.2.2.2.1 u8.2.2.2.2.2.2.2.2 aw (gF d) (gN d) kb H.size hn64 (fun j hj => ⟨(htab j hj).1, (htab j hj).2.1⟩) hkb) (cwV 1 hts (TB_V k_m_X7_166 k_im_X7_layAway k_se_X7_layAway k_in_X7 k_co_X7_layAway (fun _ h => h)) rfl rfl rfl (by decide +kernel) ⟨Nat.le_of_ble_eq_true rfl, Nat.le_of_ble_eq_true rfl⟩) ⟨cP_blind, va_recv hK hP (ci := 7) (q0 := 0) rfl rfl, cP_of hP hK hD⟩ rfl rfl hl.1 rfl (lv_room (Nat.le_of_ble_eq_true rfl)) dX7_fewestShifts_40 ⟨Nat.le_of_ble_eq_true rfl, Nat.le_of_ble_eq_true rfl⟩) hS (fun q _ h => hFc q h) hFc (fun aw9 t9 H locs ht9 hvm hw hB hz1 hk1 hS => ?_)
  obtain ⟨hP, hK1, hD1⟩ := hB
  rw [ht9] at hP
  have hD := hD1.weaken (fun _ _ _ h => hFc _ h)
  have hP : va_P D vwCl (WM K mm ta sl ss be ch (nI 0) u8.1 u8.2.1 u8.2.2.1 u8.2.2.2.1 u8.2.2.2.2.1 u8.2.2.2.2.2.1 (nI (gN d)) u8.2.2.2.2.2.2.1 u8.2.2.2.2.2.2.2.1 u8.2.2.2.2.2.2.2.2 aw9) H := hP
  have hD : va_D A (WM K mm ta sl ss be ch (nI 0) u8.1 u8.2.1 u8.2.2.1 u8.2.2.2.1 u8.2.2.2.2.1 u8.2.2.2.2.2.1 (nI (gN d)) u8.2.2.2.2.2.2.1 u8.2.2.2.2.2.2.2.1 u8.2.2.2.2.2.2.2.2 aw9) := hD
  have haw := hw
  obtain ⟨dv, hdv⟩ : ∃ dv : Nat → Int, dv = dD (gF d) (gN d) kb (gN d - 1) := ⟨_, rfl⟩
  rw [← hdv] at haw
  refine lv_aload_n hx hb dX7_fewestShifts_43 rfl (lv_at hl 0 rfl) ?_
  refine va_get (D := D) (ci := 7) (C := RX7) (T := TX7) (N := 17) hx hb hts iX7 hown hK hP 0 rfl rfl 16 (by decide) (hts _ k_f_X7_42) (fun _ h9 => h9) rfl dX7_fewestShifts_44 ?_
  refine lv_iload_n hx hb dX7_fewestShifts_47 rfl (lv_at hl 1 rfl) ?_
  refine n_iald hx hb hK hP 11 0 rfl rfl (i := ka) (n := 64) (by omega) (by decide) dX7_fewestShifts_48 ?_
  have hrs : rs_fewest d (nI ka) (nI kb) = _ := ((cI_f (fun z => z ⟨hgra, hgrb⟩)).trans (rfl))
  exact W.iret (v := aw9 ka) hx hb hr (fun t9 ht9 hW => ⟨⟨aw9 ka, (ta, sl, ss, be, ch, (nI 0), u8.1, u8.2.1, u8.2.2.1, u8.2.2.2.1, u8.2.2.2.2.1, u8.2.2.2.2.2.1, (nI (gN d)), u8.2.2.2.2.2.2.1, u8.2.2.2.2.2.2.2.1, u8.2.2.2.2.2.2.2.2, aw9), rfl, ⟨hR, by rw [hrs], by rw [hrs]; exact fun h9 => by rw [hkan, hkbn, ← hdv]; exact haw ka hka⟩, by rw [ht9]; exact hP, va_K.moved hW.alike hK, hD⟩, hS.F ht9⟩) hS.2.2 dX7_fewestShifts_49
set_option maxHeartbeats 4000000 in
set_option maxRecDepth 100000 in
theorem c_X7_shift (l : Launch) (D : va_G) (K : Nat → ClassId) (mm : Nat → Nat) (v : CV) (w0 : MS) (x y x3 : Int32) (sz : Nat) (hI : IV v) (hR : RM v w0)  : Met l yX7_shift (.code yX7_shift cX7_shift 7 (some .int) :: TB) ({ frames := 7, cells := 0, slots := 0, locals := 177 } : Room) (va_Pc [.ref (mm 0), .int x, .int y, .int x3] (cP D K (WMu K mm w0) sz)) (va_Qi (fun (z : Int32) (u : MS) => RM v u ∧ u.2.2.2.2.2.1 = nI (rs_shift v.1 x y x3).1 ∧ ((rs_shift v.1 x y x3).1 = 0 → z.toInt = (rs_shift v.1 x y x3).2)) (fun (u : MS) t => cB D K (va_A (WMu K mm w0) sz) (WMu K mm u) t) (va_A (WMu K mm w0) sz)) 0 0 (va_A (WMu K mm w0) sz) := by
  refine Met.ofW (cc := cX7_shift) (maxL := 7) (ret := (some .int)) (by decide) rfl ?_
  intro p e s m args below meth c s₁ B hml hv
  obtain ⟨rfl, hsz, hP, hK, hD0⟩ := hv
  have hx := B.exec
  have hb := B.bytes
  have hr := B.returns
  have hts := hts_tl (atoms_spec (ws := (.code yX7_shift cX7_shift 7 (some .int) :: TB)) B.pre)
  have hown : s.vm.findClass RX7 = some m.cls := findClass_of_methodNamed B.named
  have hlocks := B.notSynchronized
  subst hsz
  have hD := hD0.self (sz := s.heap.size)
  generalize hAe : (va_A (WMu K mm w0) s.heap.size) = A at hD ⊢
  have hA : ∀ q : Nat, s.heap.size ≤ q → A q := fun q h => by rw [← hAe]; exact Or.inr h
  have hS : va_S A s.heap s.heap [] := va_S.rf
  clear hAe hD0
  obtain ⟨d, d1, d2, f1, f2, f, s0⟩ := v
  obtain ⟨ta, sl, ss, be, ch, th, M, rq, cq, pv, so, st, gs, gm, gu, gl, aw⟩ := w0
  obtain ⟨hd, hd1, hd2, hf1, hf2, hs20, hhf⟩ := id hI
  obtain ⟨hat, hat1, hat2, hss0, hss1, hch, hbe⟩ := id hR
  dsimp only at hd hd1 hd2 hf1 hf2 hs20 hhf hat hat1 hat2 hss0 hss1 hch hbe
  obtain ⟨n, m1, ge, hn, hm, hge, h0, h1, h2, hs9, he9⟩ := id hd
  obtain ⟨ha1, ha2, ha33, ha34, ha35⟩ := id hat
  have hp6 : 2 ^ m1 ≤ 64 := Nat.pow_le_pow_right (show 0 < 2 by decide) hm
  have h33 := ha33.trans h0
  have h34 := ha34.trans h1
  have h35 := ha35.trans h2
  have hn1 : dn d 8 0 = n := dn_of h0 (by omega)
  have hm1 : dn d 8 1 = m1 := dn_of h1 (by omega)
  have hg1 : dn d 8 2 = ge := dn_of h2 (by omega)
  have hP : va_P D vwCl (WM K mm ta sl ss be ch th M rq cq pv so st gs gm gu gl aw) s.heap := hP
  have hD : va_D A (WM K mm ta sl ss be ch th M rq cq pv so st gs gm gu gl aw) := hD
  have hl := lv_entry ([.ref (mm 0), .int x, .int y, .int x3]) (n := 7) (Nat.le_of_ble_eq_true rfl)
  rw [lg_entry_eq]
  generalize (lg_sl ([.ref (mm 0), .int x, .int y, .int x3]) ++ List.replicate (7 - (lg_sl ([.ref (mm 0), .int x, .int y, .int x3])).length) Slot.unset).toArray = ls at hl ⊢
  have hl : lv_has ls 7 [(0, .ref (mm 0)), (1, .int x), (2, .int y), (3, .int x3)] := hl
  refine lv_aload_n hx hb dX7_shift_0 rfl (lv_at hl 0 rfl) ?_
  have hFc := freeAll hD hS hA
  refine va_callv (va_runV (As := []) (rest := []) ⟨hx, hb, hml, hown, hts⟩ (c_X7_layGears l D K mm ta sl ss be ch th M rq cq pv so st gs gm gu gl aw d s.heap.size hd hat) (cwV 0 hts (TB_V k_m_X7_64 k_im_X7_layGears k_se_X7_layGears k_in_X7 k_co_X7_layGears (fun _ h => h)) rfl rfl rfl (by decide +kernel) ⟨Nat.le_of_ble_eq_true rfl, Nat.le_of_ble_eq_true rfl⟩) ⟨cP_blind, va_recv hK hP (ci := 7) (q0 := 0) rfl rfl, cP_of hP hK hD⟩ rfl rfl hl.1 rfl (lv_room (Nat.le_of_ble_eq_true rfl)) dX7_shift_1 ⟨Nat.le_of_ble_eq_true rfl, Nat.le_of_ble_eq_true rfl⟩) hS (fun q _ h => hFc q h) hFc (fun u8 t9 H locs ht9 hvm hw hB hz1 hk1 hS => ?_)
  obtain ⟨hP, hK1, hD1⟩ := hB
  rw [ht9] at hP
  have hD := hD1.weaken (fun _ _ _ h => hFc _ h)
  have hP : va_P D vwCl (WM K mm ta sl ss be ch th u8.1 u8.2.1 u8.2.2.1 u8.2.2.2.1 u8.2.2.2.2.1 u8.2.2.2.2.2.1 (nI (gN d)) u8.2.2.2.2.2.2.1 u8.2.2.2.2.2.2.2.1 u8.2.2.2.2.2.2.2.2 aw) H := hP
  have hD : va_D A (WM K mm ta sl ss be ch th u8.1 u8.2.1 u8.2.2.1 u8.2.2.2.1 u8.2.2.2.2.1 u8.2.2.2.2.2.1 (nI (gN d)) u8.2.2.2.2.2.2.1 u8.2.2.2.2.2.2.2.1 u8.2.2.2.2.2.2.2.2 aw) := hD
  have htab := hw
  have hn64 := gN_le d
  refine lv_aload_n hx hb dX7_shift_4 rfl (lv_at hl 0 rfl) ?_
  refine lv_aload_n hx hb dX7_shift_5 rfl (lv_at hl 0 rfl) ?_
  refine lv_iload_n hx hb dX7_shift_6 rfl (lv_at hl 1 rfl) ?_
  refine va_calli (va_runV (As := [.int x]) (rest := [.ref (mm 0)]) ⟨hx, hb, hml, hown, hts⟩ (c_X7_isNumber l D K mm ta sl ss be ch th u8.1 u8.2.1 u8.2.2.1 u8.2.2.2.1 u8.2.2.2.2.1 u8.2.2.2.2.2.1 (nI (gN d)) u8.2.2.2.2.2.2.1 u8.2.2.2.2.2.2.2.1 u8.2.2.2.2.2.2.2.2 aw (gN d) x H.size hn64) (cwV 1 hts (TB_V k_m_X7_153 k_im_X7_isNumber k_se_X7_isNumber k_in_X7 k_co_X7_isNumber (fun _ h => h)) rfl rfl rfl (by decide +kernel) ⟨Nat.le_of_ble_eq_true rfl, Nat.le_of_ble_eq_true rfl⟩) ⟨cP_blind, va_recv hK hP (ci := 7) (q0 := 0) rfl rfl, cP_of hP hK hD⟩ rfl rfl hl.1 rfl (lv_room (Nat.le_of_ble_eq_true rfl)) dX7_shift_7 ⟨Nat.le_of_ble_eq_true rfl, Nat.le_of_ble_eq_true rfl⟩) hS (fun q _ h => absurd h id) (fun q h => absurd h id) (fun gz u9 t9 H locs ht9 hvm hw hB hz1 hk1 hS => ?_)
  have hP := P_same hP hk1
  have hw := hw.trans (bI_iff (show _ ↔ ger d x from Iff.rfl))
  by_cases hgra : ger d x
  rotate_left
  · refine t_i (hw.trans (bI_f hgra).symm) ?_
    refine b_if_eq hx hb (nI_toIntI (by omega)) dX7_shift_10 (tgt := 25) (by decide) (fun c10 => ?_) (fun c10 => absurd c10 (by omega))
    refine lv_iconst (v := nI 1) hx hb dX7_shift_25 (by decide) ?_
    refine va_put (D := D) (ci := 7) (v := .int (nI 1)) (ty := .int) (C := RX7) (T := TX7) (N := 17) hx hb hts iX7 tyX7 tyX7_ok nmX7 hown hK hP hD hS 0 rfl rfl 5 (by decide) (hts _ k_f_X7_45) (fun _ h9 => h9) rfl (by decide +kernel) rfl rfl (Nat.le_of_ble_eq_true rfl) dX7_shift_26 (fun H locs hP hD hS => ?_)
    have hP : va_P D vwCl (WM K mm ta sl ss be ch (nI 1) u8.1 u8.2.1 u8.2.2.1 u8.2.2.2.1 u8.2.2.2.2.1 u8.2.2.2.2.2.1 (nI (gN d)) u8.2.2.2.2.2.2.1 u8.2.2.2.2.2.2.2.1 u8.2.2.2.2.2.2.2.2 aw) H := hP
    have hD : va_D A (WM K mm ta sl ss be ch (nI 1) u8.1 u8.2.1 u8.2.2.1 u8.2.2.2.1 u8.2.2.2.2.1 u8.2.2.2.2.2.1 (nI (gN d)) u8.2.2.2.2.2.2.1 u8.2.2.2.2.2.2.2.1 u8.2.2.2.2.2.2.2.2 aw) := hD
    refine lv_aload_n hx hb dX7_shift_29 rfl (lv_at hl 0 rfl) ?_
    refine va_get (D := D) (ci := 7) (C := RX7) (T := TX7) (N := 17) hx hb hts iX7 hown hK hP 0 rfl rfl 5 (by decide) (hts _ k_f_X7_45) (fun _ h9 => h9) rfl dX7_shift_30 ?_
    refine b_if_eq hx hb (nI_toIntI (by omega)) dX7_shift_33 (tgt := 38) (by decide) (fun c33 => absurd c33 (by omega)) (fun c33 => ?_)
    refine lv_iconst (v := nI 0) hx hb dX7_shift_36 (by decide) ?_
    have hrs : rs_shift d x y x3 = _ := (cI_t (fun z => by first | exact hgra z.1 | exact hgrb z.2))
    exact W.iret (v := nI 0) hx hb hr (fun t9 ht9 hW => ⟨⟨nI 0, (ta, sl, ss, be, ch, (nI 1), u8.1, u8.2.1, u8.2.2.1, u8.2.2.2.1, u8.2.2.2.2.1, u8.2.2.2.2.2.1, (nI (gN d)), u8.2.2.2.2.2.2.1, u8.2.2.2.2.2.2.2.1, u8.2.2.2.2.2.2.2.2, aw), rfl, ⟨hR, by rw [hrs], by rw [hrs]; exact fun h9 => absurd h9 (by decide)⟩, by rw [ht9]; exact hP, va_K.moved hW.alike hK, hD⟩, hS.F ht9⟩) hS.2.2 dX7_shift_37
  refine t_i (hw.trans (bI_t hgra).symm) ?_
  obtain ⟨ka, hka, rfl⟩ := id hgra
  have hkan : (nI ka).toInt.toNat = ka := by rw [nI_toIntI (by omega)]; omega
  refine b_if_eq hx hb (nI_toIntI (by omega)) dX7_shift_10 (tgt := 25) (by decide) (fun c10 => absurd c10 (by omega)) (fun c10 => ?_)
  refine lv_aload_n hx hb dX7_shift_13 rfl (lv_at hl 0 rfl) ?_
  refine lv_iload_n hx hb dX7_shift_14 rfl (lv_at hl 2 rfl) ?_
  refine va_calli (va_runV (As := [.int y]) (rest := [.ref (mm 0)]) ⟨hx, hb, hml, hown, hts⟩ (c_X7_isNumber l D K mm ta sl ss be ch th u8.1 u8.2.1 u8.2.2.1 u8.2.2.2.1 u8.2.2.2.2.1 u8.2.2.2.2.2.1 (nI (gN d)) u8.2.2.2.2.2.2.1 u8.2.2.2.2.2.2.2.1 u8.2.2.2.2.2.2.2.2 aw (gN d) y H.size hn64) (cwV 1 hts (TB_V k_m_X7_153 k_im_X7_isNumber k_se_X7_isNumber k_in_X7 k_co_X7_isNumber (fun _ h => h)) rfl rfl rfl (by decide +kernel) ⟨Nat.le_of_ble_eq_true rfl, Nat.le_of_ble_eq_true rfl⟩) ⟨cP_blind, va_recv hK hP (ci := 7) (q0 := 0) rfl rfl, cP_of hP hK hD⟩ rfl rfl hl.1 rfl (lv_room (Nat.le_of_ble_eq_true rfl)) dX7_shift_15 ⟨Nat.le_of_ble_eq_true rfl, Nat.le_of_ble_eq_true rfl⟩) hS (fun q _ h => absurd h id) (fun q h => absurd h id) (fun gz u9 t9 H locs ht9 hvm hw hB hz1 hk1 hS => ?_)
  have hP := P_same hP hk1
  have hw := hw.trans (bI_iff (show _ ↔ ger d y from Iff.rfl))
  by_cases hgrb : ger d y
  rotate_left
  · refine t_i (hw.trans (bI_f hgrb).symm) ?_
    refine b_if_eq hx hb (nI_toIntI (by omega)) dX7_shift_18 (tgt := 25) (by decide) (fun c18 => ?_) (fun c18 => absurd c18 (by omega))
    refine lv_iconst (v := nI 1) hx hb dX7_shift_25 (by decide) ?_
    refine va_put (D := D) (ci := 7) (v := .int (nI 1)) (ty := .int) (C := RX7) (T := TX7) (N := 17) hx hb hts iX7 tyX7 tyX7_ok nmX7 hown hK hP hD hS 0 rfl rfl 5 (by decide) (hts _ k_f_X7_45) (fun _ h9 => h9) rfl (by decide +kernel) rfl rfl (Nat.le_of_ble_eq_true rfl) dX7_shift_26 (fun H locs hP hD hS => ?_)
    have hP : va_P D vwCl (WM K mm ta sl ss be ch (nI 1) u8.1 u8.2.1 u8.2.2.1 u8.2.2.2.1 u8.2.2.2.2.1 u8.2.2.2.2.2.1 (nI (gN d)) u8.2.2.2.2.2.2.1 u8.2.2.2.2.2.2.2.1 u8.2.2.2.2.2.2.2.2 aw) H := hP
    have hD : va_D A (WM K mm ta sl ss be ch (nI 1) u8.1 u8.2.1 u8.2.2.1 u8.2.2.2.1 u8.2.2.2.2.1 u8.2.2.2.2.2.1 (nI (gN d)) u8.2.2.2.2.2.2.1 u8.2.2.2.2.2.2.2.1 u8.2.2.2.2.2.2.2.2 aw) := hD
    refine lv_aload_n hx hb dX7_shift_29 rfl (lv_at hl 0 rfl) ?_
    refine va_get (D := D) (ci := 7) (C := RX7) (T := TX7) (N := 17) hx hb hts iX7 hown hK hP 0 rfl rfl 5 (by decide) (hts _ k_f_X7_45) (fun _ h9 => h9) rfl dX7_shift_30 ?_
    refine b_if_eq hx hb (nI_toIntI (by omega)) dX7_shift_33 (tgt := 38) (by decide) (fun c33 => absurd c33 (by omega)) (fun c33 => ?_)
    refine lv_iconst (v := nI 0) hx hb dX7_shift_36 (by decide) ?_
    have hrs : rs_shift d (nI ka) y x3 = _ := (cI_t (fun z => by first | exact hgra z.1 | exact hgrb z.2))
    exact W.iret (v := nI 0) hx hb hr (fun t9 ht9 hW => ⟨⟨nI 0, (ta, sl, ss, be, ch, (nI 1), u8.1, u8.2.1, u8.2.2.1, u8.2.2.2.1, u8.2.2.2.2.1, u8.2.2.2.2.2.1, (nI (gN d)), u8.2.2.2.2.2.2.1, u8.2.2.2.2.2.2.2.1, u8.2.2.2.2.2.2.2.2, aw), rfl, ⟨hR, by rw [hrs], by rw [hrs]; exact fun h9 => absurd h9 (by decide)⟩, by rw [ht9]; exact hP, va_K.moved hW.alike hK, hD⟩, hS.F ht9⟩) hS.2.2 dX7_shift_37
  refine t_i (hw.trans (bI_t hgrb).symm) ?_
  obtain ⟨kb, hkb, rfl⟩ := id hgrb
  have hkbn : (nI kb).toInt.toNat = kb := by rw [nI_toIntI (by omega)]; omega
  refine b_if_eq hx hb (nI_toIntI (by omega)) dX7_shift_18 (tgt := 25) (by decide) (fun c18 => absurd c18 (by omega)) (fun c18 => ?_)
  refine lv_iconst (v := nI 0) hx hb dX7_shift_21 (by decide) ?_
  refine lv_goto (tgt := 26) hx hb dX7_shift_22 (by decide) ?_
  refine va_put (D := D) (ci := 7) (v := .int (nI 0)) (ty := .int) (C := RX7) (T := TX7) (N := 17) hx hb hts iX7 tyX7 tyX7_ok nmX7 hown hK hP hD hS 0 rfl rfl 5 (by decide) (hts _ k_f_X7_45) (fun _ h9 => h9) rfl (by decide +kernel) rfl rfl (Nat.le_of_ble_eq_true rfl) dX7_shift_26 (fun H locs hP hD hS => ?_)
  have hP : va_P D vwCl (WM K mm ta sl ss be ch (nI 0) u8.1 u8.2.1 u8.2.2.1 u8.2.2.2.1 u8.2.2.2.2.1 u8.2.2.2.2.2.1 (nI (gN d)) u8.2.2.2.2.2.2.1 u8.2.2.2.2.2.2.2.1 u8.2.2.2.2.2.2.2.2 aw) H := hP
  have hD : va_D A (WM K mm ta sl ss be ch (nI 0) u8.1 u8.2.1 u8.2.2.1 u8.2.2.2.1 u8.2.2.2.2.1 u8.2.2.2.2.2.1 (nI (gN d)) u8.2.2.2.2.2.2.1 u8.2.2.2.2.2.2.2.1 u8.2.2.2.2.2.2.2.2 aw) := hD
  refine lv_aload_n hx hb dX7_shift_29 rfl (lv_at hl 0 rfl) ?_
  refine va_get (D := D) (ci := 7) (C := RX7) (T := TX7) (N := 17) hx hb hts iX7 hown hK hP 0 rfl rfl 5 (by decide) (hts _ k_f_X7_45) (fun _ h9 => h9) rfl dX7_shift_30 ?_
  refine b_if_eq hx hb (nI_toIntI (by omega)) dX7_shift_33 (tgt := 38) (by decide) (fun c33 => ?_) (fun c33 => absurd c33 (by omega))
  refine lv_aload_n hx hb dX7_shift_38 rfl (lv_at hl 0 rfl) ?_
  refine lv_iload_n hx hb dX7_shift_39 rfl (lv_at hl 2 rfl) ?_
  have hFc := freeAll hD hS hA
  refine va_callv (va_runV (As := [.int (nI kb)]) (rest := []) ⟨hx, hb, hml, hown, hts⟩ (c_X7_layAway l D K mm ta sl ss be ch (nI 0) u8.1 u8.2.1 u8.2.2.1 u8.2.2.2.1 u8.2.2.2.2.1 u8.2.2.2.2.2.1 (nI (gN d)) u8.2.2.2.2.2.2.1 u8.2.2.2.2.2.2.2.1 u8.2.2.2.2.2.2.2.2 aw (gF d) (gN d) kb H.size hn64 (fun j hj => ⟨(htab j hj).1, (htab j hj).2.1⟩) hkb) (cwV 1 hts (TB_V k_m_X7_166 k_im_X7_layAway k_se_X7_layAway k_in_X7 k_co_X7_layAway (fun _ h => h)) rfl rfl rfl (by decide +kernel) ⟨Nat.le_of_ble_eq_true rfl, Nat.le_of_ble_eq_true rfl⟩) ⟨cP_blind, va_recv hK hP (ci := 7) (q0 := 0) rfl rfl, cP_of hP hK hD⟩ rfl rfl hl.1 rfl (lv_room (Nat.le_of_ble_eq_true rfl)) dX7_shift_40 ⟨Nat.le_of_ble_eq_true rfl, Nat.le_of_ble_eq_true rfl⟩) hS (fun q _ h => hFc q h) hFc (fun aw9 t9 H locs ht9 hvm hw hB hz1 hk1 hS => ?_)
  obtain ⟨hP, hK1, hD1⟩ := hB
  rw [ht9] at hP
  have hD := hD1.weaken (fun _ _ _ h => hFc _ h)
  have hP : va_P D vwCl (WM K mm ta sl ss be ch (nI 0) u8.1 u8.2.1 u8.2.2.1 u8.2.2.2.1 u8.2.2.2.2.1 u8.2.2.2.2.2.1 (nI (gN d)) u8.2.2.2.2.2.2.1 u8.2.2.2.2.2.2.2.1 u8.2.2.2.2.2.2.2.2 aw9) H := hP
  have hD : va_D A (WM K mm ta sl ss be ch (nI 0) u8.1 u8.2.1 u8.2.2.1 u8.2.2.2.1 u8.2.2.2.2.1 u8.2.2.2.2.2.1 (nI (gN d)) u8.2.2.2.2.2.2.1 u8.2.2.2.2.2.2.2.1 u8.2.2.2.2.2.2.2.2 aw9) := hD
  have haw := hw
  obtain ⟨dv, hdv⟩ : ∃ dv : Nat → Int, dv = dD (gF d) (gN d) kb (gN d - 1) := ⟨_, rfl⟩
  rw [← hdv] at haw
  refine lv_iload_n hx hb dX7_shift_43 rfl (lv_at hl 3 rfl) ?_
  refine lv_iconst (v := nI 0) hx hb dX7_shift_44 (by decide) ?_
  refine lv_aload_n hx hb dX7_shift_45 rfl (lv_at hl 0 rfl) ?_
  refine va_get (D := D) (ci := 7) (C := RX7) (T := TX7) (N := 17) hx hb hts iX7 hown hK hP 0 rfl rfl 16 (by decide) (hts _ k_f_X7_42) (fun _ h9 => h9) rfl dX7_shift_46 ?_
  refine lv_iload_n hx hb dX7_shift_49 rfl (lv_at hl 1 rfl) ?_
  refine n_iald hx hb hK hP 11 0 rfl rfl (i := ka) (n := 64) (by omega) (by decide) dX7_shift_50 ?_
  refine va_calli (va_runS (As := [.int x3, .int (nI 0), .int (aw9 ka)]) (rest := []) ⟨hx, hb, hml, hown, hts⟩ (c_X7_in l x3 (nI 0) (aw9 ka) ) (va_cwS 3 hts (TB_S k_m_X7_49 k_st_X7_in k_in_X7 k_co_X7_in (fun _ h => h)) rfl rfl rfl (by decide +kernel) ⟨Nat.le_of_ble_eq_true rfl, Nat.le_of_ble_eq_true rfl⟩) ⟨tP_blind, tP_of⟩ rfl rfl hl.1 rfl (lv_room (Nat.le_of_ble_eq_true rfl)) dX7_shift_51 ⟨Nat.le_of_ble_eq_true rfl, Nat.le_of_ble_eq_true rfl⟩) hS (fun q _ h => absurd h id) (fun q h => absurd h id) (fun zi u9 t9 H locs ht9 hvm hw hB hz1 hk1 hS => ?_)
  have hP := P_same hP hk1
  have hdk := haw ka hka
  have hw := hw.trans (bI_iff (show _ ↔ (0 ≤ x3.toInt ∧ x3.toInt ≤ dv ka) by rw [hdk, nI_toIntI (by omega)]; exact Iff.rfl))
  by_cases hin9 : 0 ≤ x3.toInt ∧ x3.toInt ≤ dv ka
  rotate_left
  · refine t_i (hw.trans (bI_f hin9).symm) ?_
    refine b_if_ne hx hb (nI_toIntI (by omega)) dX7_shift_54 (tgt := 59) (by decide) (fun c54 => absurd c54 (by omega)) (fun c54 => ?_)
    refine lv_iconst (v := (-1)) hx hb dX7_shift_57 (by decide) ?_
    have hrs : rs_shift d (nI ka) (nI kb) x3 = _ := ((cI_f (fun z => z ⟨hgra, hgrb⟩)).trans ((cI_t (by rw [hkan, hkbn, ← hdv]; omega)).trans (rfl)))
    exact W.iret (v := (-1)) hx hb hr (fun t9 ht9 hW => ⟨⟨(-1), (ta, sl, ss, be, ch, (nI 0), u8.1, u8.2.1, u8.2.2.1, u8.2.2.2.1, u8.2.2.2.2.1, u8.2.2.2.2.2.1, (nI (gN d)), u8.2.2.2.2.2.2.1, u8.2.2.2.2.2.2.2.1, u8.2.2.2.2.2.2.2.2, aw9), rfl, ⟨hR, by rw [hrs], by rw [hrs]; exact fun h9 => by decide⟩, by rw [ht9]; exact hP, va_K.moved hW.alike hK, hD⟩, hS.F ht9⟩) hS.2.2 dX7_shift_58
  refine t_i (hw.trans (bI_t hin9).symm) ?_
  have hdr9 := dD_range (gF d) (gN d) kb (gN d - 1) ka
  rw [← hdv] at hdr9
  obtain ⟨ix, hix1, hix2, rfl⟩ : ∃ k : Nat, 0 ≤ k ∧ k ≤ 64 ∧ x3 = nI k := ⟨x3.toInt.toNat, by omega, by omega, (i32_eq _ _).mpr (by rw [nI_toIntI (by omega)]; omega)⟩
  have hixn : (nI ix).toInt = (ix : Int) := nI_toIntI (by omega)
  refine b_if_ne hx hb (nI_toIntI (by omega)) dX7_shift_54 (tgt := 59) (by decide) (fun c54 => ?_) (fun c54 => absurd c54 (by omega))
  refine lv_iload_n hx hb dX7_shift_59 rfl (lv_at hl 1 rfl) ?_
  refine lv_istore (lv' := [(4, .int (nI ka)), (0, .ref (mm 0)), (1, .int (nI ka)), (2, .int (nI kb)), (3, .int (nI ix))]) hx hb dX7_shift_60 hl (by decide) rfl (fun ls hl => ?_)
  refine lv_iconst (v := nI 0) hx hb dX7_shift_62 (by decide) ?_
  refine lv_istore (lv' := [(5, .int (nI 0)), (4, .int (nI ka)), (0, .ref (mm 0)), (1, .int (nI ka)), (2, .int (nI kb)), (3, .int (nI ix))]) hx hb dX7_shift_63 hl (by decide) rfl (fun ls hl => ?_)
  have hl : lv_has ls 7 [(5, .int (nI 0)), (4, .int (nI (wkF (gF d) (gN d) dv ka 0))), (0, .ref (mm 0)), (1, .int (nI ka)), (2, .int (nI kb)), (3, .int (nI ix))] := hl
  have L65 : ∀ (fuel : Nat) (k : Nat) (H : Heap) (locs : List Loc) (ls : Array Slot), ix - k < fuel → (k ≤ ix) → ((wkF (gF d) (gN d) dv ka k) < gN d) → (dv (wkF (gF d) (gN d) dv ka k) = dv ka - (k : Int)) → va_P D vwCl (WM K mm ta sl ss be ch (nI 0) u8.1 u8.2.1 u8.2.2.1 u8.2.2.2.1 u8.2.2.2.2.1 u8.2.2.2.2.2.1 (nI (gN d)) u8.2.2.2.2.2.2.1 u8.2.2.2.2.2.2.2.1 u8.2.2.2.2.2.2.2.2 aw9) H → va_D A (WM K mm ta sl ss be ch (nI 0) u8.1 u8.2.1 u8.2.2.1 u8.2.2.2.1 u8.2.2.2.2.1 u8.2.2.2.2.2.1 (nI (gN d)) u8.2.2.2.2.2.2.1 u8.2.2.2.2.2.2.2.1 u8.2.2.2.2.2.2.2.2 aw9) → va_S A s.heap H locs → lv_has ls 7 [(5, .int (nI k)), (4, .int (nI (wkF (gF d) (gN d) dv ka k))), (3, .int (nI ix)), (0, .ref (mm 0)), (1, .int (nI ka)), (2, .int (nI kb))] → W p l e ({ frames := 7, cells := 0, slots := 0, locals := 177 } : Room) s m [.ref (mm 0), .int (nI ka), .int (nI kb), .int (nI ix)].toArray below meth c H locs 0 0 (MQ below (va_Qi (fun (z : Int32) (u : MS) => RM (d, d1, d2, f1, f2, f, s0) u ∧ u.2.2.2.2.2.1 = nI (rs_shift (d, d1, d2, f1, f2, f, s0).1 (nI ka) (nI kb) (nI ix)).1 ∧ ((rs_shift (d, d1, d2, f1, f2, f, s0).1 (nI ka) (nI kb) (nI ix)).1 = 0 → z.toInt = (rs_shift (d, d1, d2, f1, f2, f, s0).1 (nI ka) (nI kb) (nI ix)).2)) (fun (u : MS) t => cB D K A (WMu K mm u) t) A) [.ref (mm 0), .int (nI ka), .int (nI kb), .int (nI ix)].toArray s 0 0 A) (F0 m 65 ls []) := by
    intro fuel
    induction fuel with
    | zero =>
      intro k H locs ls hfu
      exact absurd hfu (Nat.not_lt_zero _)
    | succ fuel ih65 =>
      intro k H locs ls hfu hk hwn hwd hP hD hS hl
      refine lv_iload hx hb dX7_shift_65 (lv_at hl 0 rfl) ?_
      refine lv_iload_n hx hb dX7_shift_67 rfl (lv_at hl 2 rfl) ?_
      refine b_icmp_ge hx hb (nI_toIntI (by omega)) (nI_toIntI (by omega)) dX7_shift_68 (tgt := 120) (by decide) (fun c68 => ?_) (fun c68 => ?_)
      · refine lv_iload hx hb dX7_shift_120 (lv_at hl 1 rfl) ?_
        have hrs : rs_shift d (nI ka) (nI kb) (nI ix) = _ := ((cI_f (fun z => z ⟨hgra, hgrb⟩)).trans ((cI_f (by rw [hkan, hkbn, ← hdv, hixn]; omega)).trans (rfl)))
        exact W.iret (v := nI (wkF (gF d) (gN d) dv ka k)) hx hb hr (fun t9 ht9 hW => ⟨⟨nI (wkF (gF d) (gN d) dv ka k), (ta, sl, ss, be, ch, (nI 0), u8.1, u8.2.1, u8.2.2.1, u8.2.2.2.1, u8.2.2.2.2.1, u8.2.2.2.2.2.1, (nI (gN d)), u8.2.2.2.2.2.2.1, u8.2.2.2.2.2.2.2.1, u8.2.2.2.2.2.2.2.2, aw9), rfl, ⟨hR, by rw [hrs], by rw [hrs]; exact fun h9 => by rw [hkan, hkbn, ← hdv, hixn, show ((ix : Int)).toNat = k by omega]; exact nI_toIntI (by omega)⟩, by rw [ht9]; exact hP, va_K.moved hW.alike hK, hD⟩, hS.F ht9⟩) hS.2.2 dX7_shift_122
      obtain ⟨v9, hv9⟩ : ∃ v9 : Nat, dv (wkF (gF d) (gN d) dv ka k) = (v9 : Int) + 1 := ⟨(dv ka - (k : Int) - 1).toNat, by omega⟩
      obtain ⟨h9, hh9, hh8, hh7⟩ : ∃ h, h < gN d ∧ dv h = (v9 : Int) ∧ nbr (gF d (wkF (gF d) (gN d) dv ka k)) (gF d h) := by rw [hdv] at hv9 ⊢; exact dD_step hv9
      refine lv_iconst (v := nI 0) hx hb dX7_shift_71 (by decide) ?_
      refine lv_istore (lv' := [(6, .int (nI 0)), (5, .int (nI k)), (4, .int (nI (wkF (gF d) (gN d) dv ka k))), (3, .int (nI ix)), (0, .ref (mm 0)), (1, .int (nI ka)), (2, .int (nI kb))]) hx hb dX7_shift_72 hl (by decide) rfl (fun ls hl => ?_)
      have L74 : ∀ (fuel : Nat) (h : Nat) (H : Heap) (locs : List Loc) (ls : Array Slot), 64 - h < fuel → (h ≤ h9) → (∀ j, j < h → ¬ (dv j = dv ka - (k : Int) - 1 ∧ nbr (gF d (wkF (gF d) (gN d) dv ka k)) (gF d j))) → va_P D vwCl (WM K mm ta sl ss be ch (nI 0) u8.1 u8.2.1 u8.2.2.1 u8.2.2.2.1 u8.2.2.2.2.1 u8.2.2.2.2.2.1 (nI (gN d)) u8.2.2.2.2.2.2.1 u8.2.2.2.2.2.2.2.1 u8.2.2.2.2.2.2.2.2 aw9) H → va_D A (WM K mm ta sl ss be ch (nI 0) u8.1 u8.2.1 u8.2.2.1 u8.2.2.2.1 u8.2.2.2.2.1 u8.2.2.2.2.2.1 (nI (gN d)) u8.2.2.2.2.2.2.1 u8.2.2.2.2.2.2.2.1 u8.2.2.2.2.2.2.2.2 aw9) → va_S A s.heap H locs → lv_has ls 7 [(6, .int (nI h)), (5, .int (nI k)), (4, .int (nI (wkF (gF d) (gN d) dv ka k))), (3, .int (nI ix)), (0, .ref (mm 0)), (1, .int (nI ka)), (2, .int (nI kb))] → W p l e ({ frames := 7, cells := 0, slots := 0, locals := 177 } : Room) s m [.ref (mm 0), .int (nI ka), .int (nI kb), .int (nI ix)].toArray below meth c H locs 0 0 (MQ below (va_Qi (fun (z : Int32) (u : MS) => RM (d, d1, d2, f1, f2, f, s0) u ∧ u.2.2.2.2.2.1 = nI (rs_shift (d, d1, d2, f1, f2, f, s0).1 (nI ka) (nI kb) (nI ix)).1 ∧ ((rs_shift (d, d1, d2, f1, f2, f, s0).1 (nI ka) (nI kb) (nI ix)).1 = 0 → z.toInt = (rs_shift (d, d1, d2, f1, f2, f, s0).1 (nI ka) (nI kb) (nI ix)).2)) (fun (u : MS) t => cB D K A (WMu K mm u) t) A) [.ref (mm 0), .int (nI ka), .int (nI kb), .int (nI ix)].toArray s 0 0 A) (F0 m 74 ls []) := by
        intro fuel
        induction fuel with
        | zero =>
          intro h H locs ls hfu
          exact absurd hfu (Nat.not_lt_zero _)
        | succ fuel ih74 =>
          intro h H locs ls hfu hhh hmin hP hD hS hl
          refine lv_aload_n hx hb dX7_shift_74 rfl (lv_at hl 4 rfl) ?_
          refine va_get (D := D) (ci := 7) (C := RX7) (T := TX7) (N := 17) hx hb hts iX7 hown hK hP 0 rfl rfl 16 (by decide) (hts _ k_f_X7_42) (fun _ h9 => h9) rfl dX7_shift_75 ?_
          refine lv_iload hx hb dX7_shift_78 (lv_at hl 0 rfl) ?_
          refine n_iald hx hb hK hP 11 0 rfl rfl (i := h) (n := 64) (by omega) (by decide) dX7_shift_80 ?_
          have hah := haw h (by omega)
          refine lv_aload_n hx hb dX7_shift_81 rfl (lv_at hl 4 rfl) ?_
          refine va_get (D := D) (ci := 7) (C := RX7) (T := TX7) (N := 17) hx hb hts iX7 hown hK hP 0 rfl rfl 16 (by decide) (hts _ k_f_X7_42) (fun _ h9 => h9) rfl dX7_shift_82 ?_
          refine lv_iload hx hb dX7_shift_85 (lv_at hl 2 rfl) ?_
          refine n_iald hx hb hK hP 11 0 rfl rfl (i := (wkF (gF d) (gN d) dv ka k)) (n := 64) (by omega) (by decide) dX7_shift_87 ?_
          have hak := haw (wkF (gF d) (gN d) dv ka k) hwn
          have hae : aw9 (wkF (gF d) (gN d) dv ka k) = nI (v9 + 1) := (i32_eq _ _).mpr (by rw [hak, nI_toIntI (by omega)]; omega)
          refine t_i hae ?_
          refine lv_iconst (v := nI 1) hx hb dX7_shift_88 (by decide) ?_
          refine lv_isub hx hb dX7_shift_89 ?_
          refine t_i (show nI (v9 + 1) - nI 1 = nI v9 from (pk_sub (by omega)).trans (congrArg nI (by omega))) ?_
          refine b_icmp_ne hx hb rfl (nI_toIntI (by omega)) dX7_shift_90 (tgt := 104) (by decide) (fun c90 => ?_) (fun c90 => ?_)
          · refine lv_iinc (v := nI (h + 1)) (lv' := [(6, .int (nI (h + 1))), (5, .int (nI k)), (4, .int (nI (wkF (gF d) (gN d) dv ka k))), (3, .int (nI ix)), (0, .ref (mm 0)), (1, .int (nI ka)), (2, .int (nI kb))]) hx hb dX7_shift_104 hl (k := 0) rfl (nI_add h 1) (by decide) rfl (fun ls hl => ?_)
            refine lv_goto (tgt := 74) hx hb dX7_shift_107 (by decide) ?_
            exact ih74 (h + 1) _ _ _ (by omega) (by
      by_cases q : h = h9
      · subst q; first | exact absurd hh7 hnb | (exfalso; omega)
      · omega) (fun j hj z => by
      by_cases q : j = h
      · subst q; first | exact hnb z.2 | (have := z.1; omega)
      · exact hmin j (by omega) z) hP hD hS (lv_sub hl [0, 1, 2, 3, 4, 5, 6] rfl)
          refine lv_aload_n hx hb dX7_shift_93 rfl (lv_at hl 4 rfl) ?_
          refine lv_iload hx hb dX7_shift_94 (lv_at hl 2 rfl) ?_
          refine lv_iload hx hb dX7_shift_96 (lv_at hl 0 rfl) ?_
          refine va_calli (va_runV (As := [.int (nI (wkF (gF d) (gN d) dv ka k)), .int (nI h)]) (rest := []) ⟨hx, hb, hml, hown, hts⟩ (c_X7_areNeighbours l D K mm ta sl ss be ch (nI 0) u8.1 u8.2.1 u8.2.2.1 u8.2.2.2.1 u8.2.2.2.2.1 u8.2.2.2.2.2.1 (nI (gN d)) u8.2.2.2.2.2.2.1 u8.2.2.2.2.2.2.2.1 u8.2.2.2.2.2.2.2.2 aw9 (gF d) (gN d) (wkF (gF d) (gN d) dv ka k) h H.size hn64 (fun j hj => ⟨(htab j hj).1, (htab j hj).2.1⟩) hwn (by omega)) (cwV 2 hts (TB_V k_m_X7_163 k_im_X7_areNeighbours k_se_X7_areNeighbours k_in_X7 k_co_X7_areNeighbours (fun _ h => h)) rfl rfl rfl (by decide +kernel) ⟨Nat.le_of_ble_eq_true rfl, Nat.le_of_ble_eq_true rfl⟩) ⟨cP_blind, va_recv hK hP (ci := 7) (q0 := 0) rfl rfl, cP_of hP hK hD⟩ rfl rfl hl.1 rfl (lv_room (Nat.le_of_ble_eq_true rfl)) dX7_shift_98 ⟨Nat.le_of_ble_eq_true rfl, Nat.le_of_ble_eq_true rfl⟩) hS (fun q _ h => absurd h id) (fun q h => absurd h id) (fun nz u9 t9 H locs ht9 hvm hw hB hz1 hk1 hS => ?_)
          have hP := P_same hP hk1
          by_cases hnb : nbr (gF d (wkF (gF d) (gN d) dv ka k)) (gF d h)
          rotate_left
          · refine t_i (hw.trans (bI_f hnb).symm) ?_
            refine b_if_ne hx hb (nI_toIntI (by omega)) dX7_shift_101 (tgt := 110) (by decide) (fun c101 => absurd c101 (by omega)) (fun c101 => ?_)
            refine lv_iinc (v := nI (h + 1)) (lv' := [(6, .int (nI (h + 1))), (5, .int (nI k)), (4, .int (nI (wkF (gF d) (gN d) dv ka k))), (3, .int (nI ix)), (0, .ref (mm 0)), (1, .int (nI ka)), (2, .int (nI kb))]) hx hb dX7_shift_104 hl (k := 0) rfl (nI_add h 1) (by decide) rfl (fun ls hl => ?_)
            refine lv_goto (tgt := 74) hx hb dX7_shift_107 (by decide) ?_
            exact ih74 (h + 1) _ _ _ (by omega) (by
      by_cases q : h = h9
      · subst q; first | exact absurd hh7 hnb | (exfalso; omega)
      · omega) (fun j hj z => by
      by_cases q : j = h
      · subst q; first | exact hnb z.2 | (have := z.1; omega)
      · exact hmin j (by omega) z) hP hD hS (lv_sub hl [0, 1, 2, 3, 4, 5, 6] rfl)
          refine t_i (hw.trans (bI_t hnb).symm) ?_
          refine b_if_ne hx hb (nI_toIntI (by omega)) dX7_shift_101 (tgt := 110) (by decide) (fun c101 => ?_) (fun c101 => absurd c101 (by omega))
          have hhn : h < gN d := by omega
          have hwk : wkF (gF d) (gN d) dv ka (k + 1) = h := lstF_eq hhn ⟨by omega, hnb⟩ (fun j hj z => hmin j hj z)
          have hdh9 : dv h = dv ka - (k : Int) - 1 := by omega
          have hl : lv_has ls 7 [(6, .int (nI (wkF (gF d) (gN d) dv ka (k + 1)))), (5, .int (nI k)), (4, .int (nI (wkF (gF d) (gN d) dv ka k))), (3, .int (nI ix)), (0, .ref (mm 0)), (1, .int (nI ka)), (2, .int (nI kb))] := by rw [hwk]; exact hl
          refine lv_iload hx hb dX7_shift_110 (lv_at hl 0 rfl) ?_
          refine lv_istore (lv' := [(4, .int (nI (wkF (gF d) (gN d) dv ka (k + 1)))), (6, .int (nI (wkF (gF d) (gN d) dv ka (k + 1)))), (5, .int (nI k)), (3, .int (nI ix)), (0, .ref (mm 0)), (1, .int (nI ka)), (2, .int (nI kb))]) hx hb dX7_shift_112 hl (by decide) rfl (fun ls hl => ?_)
          refine lv_iinc (v := nI (k + 1)) (lv' := [(5, .int (nI (k + 1))), (4, .int (nI (wkF (gF d) (gN d) dv ka (k + 1)))), (6, .int (nI (wkF (gF d) (gN d) dv ka (k + 1)))), (3, .int (nI ix)), (0, .ref (mm 0)), (1, .int (nI ka)), (2, .int (nI kb))]) hx hb dX7_shift_114 hl (k := 2) rfl (nI_add k 1) (by decide) rfl (fun ls hl => ?_)
          refine lv_goto (tgt := 65) hx hb dX7_shift_117 (by decide) ?_
          exact ih65 (k + 1) _ _ _ (by omega) (by omega) (by rw [hwk]; exact hhn) (by rw [hwk]; omega) hP hD hS (lv_sub hl [0, 1, 3, 4, 5, 6] rfl)
      exact L74 _ 0 _ _ _ (Nat.lt_succ_self _) (Nat.zero_le _) (fun j h => absurd h (Nat.not_lt_zero j)) hP hD hS (lv_sub hl [0, 1, 2, 3, 4, 5, 6] rfl)
  exact L65 _ 0 _ _ _ (Nat.lt_succ_self _) (by omega) hka (by show dv ka = dv ka - ((0 : Nat) : Int); omega) hP hD hS (lv_sub hl [0, 1, 5, 2, 3, 4] rfl)
