/-! PlanetaryGearboxModel: select -/
set_option maxHeartbeats 4000000 in
set_option maxRecDepth 100000 in
theorem c_X7_select (l : Launch) (D : va_G) (K : Nat → ClassId) (mm : Nat → Nat) (v : CV) (w0 : MS) (x : Int32) (sz : Nat) (hI : IV v) (hR : RM v w0)  : Met l yX7_select (.code yX7_select cX7_select 3 (some .int) :: TB) ({ frames := 2, cells := 0, slots := 0, locals := 43 } : Room) (va_Pc [.ref (mm 0), .int x] (cP D K (WMu K mm w0) sz)) (va_Qi (fun (z : Int32) (u : MS) => u.2.2.2.2.2.1 = nI (rs_select v.1 x).1 ∧ ((rs_select v.1 x).1 = 0 → z.toInt = (rs_select v.1 x).2 ∧ ∀ z1 v1, CHG v (x) z1 v1 → RM v1 u) ∧ (¬ (rs_select v.1 x).1 = 0 → RM v u)) (fun (u : MS) t => cB D K (va_A (WMu K mm w0) sz) (WMu K mm u) t) (va_A (WMu K mm w0) sz)) 0 0 (va_A (WMu K mm w0) sz) := by
  refine Met.ofW (cc := cX7_select) (maxL := 3) (ret := (some .int)) (by decide) rfl ?_
  intro p e s m args below meth c s₁ B hml hv
  obtain ⟨rfl, hsz, hP, hK, hD0⟩ := hv
  have hx := B.exec
  have hb := B.bytes
  have hr := B.returns
  have hts := hts_tl (atoms_spec (ws := (.code yX7_select cX7_select 3 (some .int) :: TB)) B.pre)
  have hown : s.vm.findClass RX7 = some m.cls := findClass_of_methodNamed B.named
  have hlocks := B.notSynchronized
  subst hsz
  have hD := hD0.self (sz := s.heap.size)
  generalize hAe : (va_A (WMu K mm w0) s.heap.size) = A at hD ⊢
  have hA : ∀ q : Nat, s.heap.size ≤ q → A q := fun q h => by rw [← hAe]; exact Or.inr h
  have hS : va_S A s.heap s.heap [] := va_S.rf
  clear hAe hD0
  obtain ⟨d, d1, d2, f1, f2, f, s0⟩ := v
  obtain ⟨ta, sl, ss, be, ch, th, M, rq, cq, pv, so, st, gs, gm, gu, gl, aw⟩ := w0
  obtain ⟨hd, hd1, hd2, hf1, hf2, hs20, hhf⟩ := id hI
  obtain ⟨hat, hat1, hat2, hss0, hss1, hch, hbe⟩ := id hR
  dsimp only at hd hd1 hd2 hf1 hf2 hs20 hhf hat hat1 hat2 hss0 hss1 hch hbe
  obtain ⟨n, m1, ge, hn, hm, hge, h0, h1, h2, hs9, he9⟩ := id hd
  obtain ⟨ha1, ha2, ha33, ha34, ha35⟩ := id hat
  have hp6 : 2 ^ m1 ≤ 64 := Nat.pow_le_pow_right (show 0 < 2 by decide) hm
  have h33 := ha33.trans h0
  have h34 := ha34.trans h1
  have h35 := ha35.trans h2
  have hn1 : dn d 8 0 = n := dn_of h0 (by omega)
  have hm1 : dn d 8 1 = m1 := dn_of h1 (by omega)
  have hg1 : dn d 8 2 = ge := dn_of h2 (by omega)
  have hP : va_P D vwCl (WM K mm ta sl ss be ch th M rq cq pv so st gs gm gu gl aw) s.heap := hP
  have hD : va_D A (WM K mm ta sl ss be ch th M rq cq pv so st gs gm gu gl aw) := hD
  have hl := lv_entry ([.ref (mm 0), .int x]) (n := 3) (Nat.le_of_ble_eq_true rfl)
  rw [lg_entry_eq]
  generalize (lg_sl ([.ref (mm 0), .int x]) ++ List.replicate (3 - (lg_sl ([.ref (mm 0), .int x])).length) Slot.unset).toArray = ls at hl ⊢
  have hl : lv_has ls 3 [(0, .ref (mm 0)), (1, .int x)] := hl
  refine lv_aload_n hx hb dX7_select_0 rfl (lv_at hl 0 rfl) ?_
  refine lv_aload_n hx hb dX7_select_1 rfl (lv_at hl 0 rfl) ?_
  refine lv_iload_n hx hb dX7_select_2 rfl (lv_at hl 1 rfl) ?_
  refine va_calli (va_runV (As := [.int x]) (rest := [.ref (mm 0)]) ⟨hx, hb, hml, hown, hts⟩ (c_X7_isMask l D K mm ta sl ss be ch th M rq cq pv so st gs gm gu gl aw m1 x s.heap.size hm h34) (cwV 1 hts (TB_V k_m_X7_81 k_im_X7_isMask k_se_X7_isMask k_in_X7 k_co_X7_isMask (fun _ h => h)) rfl rfl rfl (by decide +kernel) ⟨Nat.le_of_ble_eq_true rfl, Nat.le_of_ble_eq_true rfl⟩) ⟨cP_blind, va_recv hK hP (ci := 7) (q0 := 0) rfl rfl, cP_of hP hK hD⟩ rfl rfl hl.1 rfl (lv_room (Nat.le_of_ble_eq_true rfl)) dX7_select_3 ⟨Nat.le_of_ble_eq_true rfl, Nat.le_of_ble_eq_true rfl⟩) hS (fun q _ h => absurd h id) (fun q h => absurd h id) (fun he u9 t9 H locs ht9 hvm hw hB hz1 hk1 hS => ?_)
  have hP := P_same hP hk1
  have hw := hw.trans (bI_iff (show _ ↔ msk d x by unfold msk; rw [hm1]))
  by_cases hms : msk d x
  rotate_left
  · refine t_i (hw.trans (bI_f hms).symm) ?_
    refine b_if_eq hx hb (nI_toIntI (by omega)) dX7_select_6 (tgt := 13) (by decide) (fun c6 => ?_) (fun c6 => absurd c6 (by omega))
    refine lv_iconst (v := nI 1) hx hb dX7_select_13 (by decide) ?_
    refine va_put (D := D) (ci := 7) (v := .int (nI 1)) (ty := .int) (C := RX7) (T := TX7) (N := 17) hx hb hts iX7 tyX7 tyX7_ok nmX7 hown hK hP hD hS 0 rfl rfl 5 (by decide) (hts _ k_f_X7_45) (fun _ h9 => h9) rfl (by decide +kernel) rfl rfl (Nat.le_of_ble_eq_true rfl) dX7_select_14 (fun H locs hP hD hS => ?_)
    have hP : va_P D vwCl (WM K mm ta sl ss be ch (nI 1) M rq cq pv so st gs gm gu gl aw) H := hP
    have hD : va_D A (WM K mm ta sl ss be ch (nI 1) M rq cq pv so st gs gm gu gl aw) := hD
    refine lv_aload_n hx hb dX7_select_17 rfl (lv_at hl 0 rfl) ?_
    refine va_get (D := D) (ci := 7) (C := RX7) (T := TX7) (N := 17) hx hb hts iX7 hown hK hP 0 rfl rfl 5 (by decide) (hts _ k_f_X7_45) (fun _ h9 => h9) rfl dX7_select_18 ?_
    refine b_if_eq hx hb (nI_toIntI (by omega)) dX7_select_21 (tgt := 26) (by decide) (fun c21 => absurd c21 (by omega)) (fun c21 => ?_)
    refine lv_iconst (v := nI 0) hx hb dX7_select_24 (by decide) ?_
    have hrs : rs_select d x = _ := (cI_t (hms))
    exact W.iret (v := nI 0) hx hb hr (fun t9 ht9 hW => ⟨⟨nI 0, (ta, sl, ss, be, ch, (nI 1), M, rq, cq, pv, so, st, gs, gm, gu, gl, aw), rfl, ⟨by rw [hrs], by rw [hrs]; exact fun h9 => absurd h9 (by decide), fun _ => hR⟩, by rw [ht9]; exact hP, va_K.moved hW.alike hK, hD⟩, hS.F ht9⟩) hS.2.2 dX7_select_25
  refine t_i (hw.trans (bI_t hms).symm) ?_
  obtain ⟨kx, hkx, rfl⟩ := id hms
  have hkx2 := hkx
  rw [hm1] at hkx2
  refine b_if_eq hx hb (nI_toIntI (by omega)) dX7_select_6 (tgt := 13) (by decide) (fun c6 => absurd c6 (by omega)) (fun c6 => ?_)
  refine lv_iconst (v := nI 0) hx hb dX7_select_9 (by decide) ?_
  refine lv_goto (tgt := 14) hx hb dX7_select_10 (by decide) ?_
  refine va_put (D := D) (ci := 7) (v := .int (nI 0)) (ty := .int) (C := RX7) (T := TX7) (N := 17) hx hb hts iX7 tyX7 tyX7_ok nmX7 hown hK hP hD hS 0 rfl rfl 5 (by decide) (hts _ k_f_X7_45) (fun _ h9 => h9) rfl (by decide +kernel) rfl rfl (Nat.le_of_ble_eq_true rfl) dX7_select_14 (fun H locs hP hD hS => ?_)
  have hP : va_P D vwCl (WM K mm ta sl ss be ch (nI 0) M rq cq pv so st gs gm gu gl aw) H := hP
  have hD : va_D A (WM K mm ta sl ss be ch (nI 0) M rq cq pv so st gs gm gu gl aw) := hD
  refine lv_aload_n hx hb dX7_select_17 rfl (lv_at hl 0 rfl) ?_
  refine va_get (D := D) (ci := 7) (C := RX7) (T := TX7) (N := 17) hx hb hts iX7 hown hK hP 0 rfl rfl 5 (by decide) (hts _ k_f_X7_45) (fun _ h9 => h9) rfl dX7_select_18 ?_
  refine b_if_eq hx hb (nI_toIntI (by omega)) dX7_select_21 (tgt := 26) (by decide) (fun c21 => ?_) (fun c21 => absurd c21 (by omega))
  refine lv_aload_n hx hb dX7_select_26 rfl (lv_at hl 0 rfl) ?_
  refine va_get (D := D) (ci := 7) (C := RX7) (T := TX7) (N := 17) hx hb hts iX7 hown hK hP 0 rfl rfl 0 (by decide) (hts _ k_f_X7_7) (fun _ h9 => h9) rfl dX7_select_27 ?_
  refine lv_bipush (v := nI 35) hx hb dX7_select_30 (by decide) ?_
  refine n_iald hx hb hK hP 1 0 rfl rfl (i := 35) (n := 36) (by omega) (by decide) dX7_select_32 ?_
  refine t_i (show _ = nI ge from h35) ?_
  refine lv_istore_n (lv' := [(2, .int (nI ge)), (0, .ref (mm 0)), (1, .int (nI kx))]) hx hb dX7_select_33 rfl hl (by decide) rfl (fun ls hl => ?_)
  refine lv_aload_n hx hb dX7_select_34 rfl (lv_at hl 1 rfl) ?_
  refine lv_iload_n hx hb dX7_select_35 rfl (lv_at hl 2 rfl) ?_
  have hPc : va_P D vwCl (WMu K mm (ta, sl, ss, be, ch, (nI 0), M, rq, cq, pv, so, st, gs, gm, gu, gl, aw)) H := hP
  have hDc : va_D A (WMu K mm (ta, sl, ss, be, ch, (nI 0), M, rq, cq, pv, so, st, gs, gm, gu, gl, aw)) := hD
  have hFc := freeAll hDc hS hA
  refine va_callv (va_runV (As := [.int (nI kx)]) (rest := []) ⟨hx, hb, hml, hown, hts⟩ (c_X7_become l D K mm (d, d1, d2, f1, f2, f, s0) (ta, sl, ss, be, ch, (nI 0), M, rq, cq, pv, so, st, gs, gm, gu, gl, aw) kx H.size hI hR (by omega)) (cwV 1 hts (TB_V k_m_X7_77 k_im_X7_become k_se_X7_become k_in_X7 k_co_X7_become (fun _ h => h)) rfl rfl rfl (by decide +kernel) ⟨Nat.le_of_ble_eq_true rfl, Nat.le_of_ble_eq_true rfl⟩) ⟨cP_blind, va_recv hK hP (ci := 7) (q0 := 0) rfl rfl, cP_of hPc hK hDc⟩ rfl rfl hl.1 rfl (lv_room (Nat.le_of_ble_eq_true rfl)) dX7_select_36 ⟨Nat.le_of_ble_eq_true rfl, Nat.le_of_ble_eq_true rfl⟩) hS (fun q _ h => hFc q h) hFc (fun u9 t9 H locs ht9 hvm hw hB hz1 hk1 hS => ?_)
  obtain ⟨hP, hK1, hD1⟩ := hB
  rw [ht9] at hP
  have hD := hD1.weaken (fun _ _ _ h => hFc _ h)
  obtain ⟨ta8, sl8, ss8, be8, ch8, th8, M8, rq8, cq8, pv8, so8, st8, gs8, gm8, gu8, gl8, aw8⟩ := u9
  have hP : va_P D vwCl (WM K mm ta8 sl8 ss8 be8 ch8 th8 M8 rq8 cq8 pv8 so8 st8 gs8 gm8 gu8 gl8 aw8) H := hP
  have hD : va_D A (WM K mm ta8 sl8 ss8 be8 ch8 th8 M8 rq8 cq8 pv8 so8 st8 gs8 gm8 gu8 gl8 aw8) := hD
  obtain ⟨hth8, hch8⟩ := hw
  have hth8 : th8 = nI 0 := hth8
  refine lv_iload_n hx hb dX7_select_39 rfl (lv_at hl 0 rfl) ?_
  have hrs : rs_select d (nI kx) = _ := ((cI_f (fun z => z hms)).trans (rfl))
  exact W.iret (v := nI ge) hx hb hr (fun t9 ht9 hW => ⟨⟨nI ge, (ta8, sl8, ss8, be8, ch8, th8, M8, rq8, cq8, pv8, so8, st8, gs8, gm8, gu8, gl8, aw8), rfl, ⟨by rw [hrs]; exact hth8, by rw [hrs]; exact fun _ => ⟨by rw [hg1, nI_toIntI (by omega)], fun z1 v1 h9 => hch8 z1 v1 h9⟩, by rw [hrs]; exact fun h9 => absurd rfl h9⟩, by rw [ht9]; exact hP, va_K.moved hW.alike hK, hD⟩, hS.F ht9⟩) hS.2.2 dX7_select_40
