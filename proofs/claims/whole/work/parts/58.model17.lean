/-! PlanetaryGearboxModel: engage, release, select -/
theorem w_orb : ∀ t, t < 64 → ∀ e, e < 6 → (t.testBit e = true ↔ t ||| 2 ^ e = t) := by decide +kernel
theorem w_clb : ∀ t, t < 64 → ∀ e, e < 6 → (¬ t.testBit e = true ↔ cl1 t e = t) := by decide +kernel
theorem CHG_same {v v1 : CV} {z : Int32} (h : CHG v (v.1 8 2) z v1) : v1 = v := by
  rcases h with ⟨-, -, e⟩ | ⟨e, -⟩
  · exact e
  · exact absurd rfl e
set_option maxHeartbeats 4000000 in
set_option maxRecDepth 100000 in
theorem c_X7_engage (l : Launch) (D : va_G) (K : Nat → ClassId) (mm : Nat → Nat) (v : CV) (w0 : MS) (x : Int32) (sz : Nat) (hI : IV v) (hR : RM v w0)  : Met l yX7_engage (.code yX7_engage cX7_engage 2 (some .boolean) :: TB) ({ frames := 2, cells := 0, slots := 0, locals := 43 } : Room) (va_Pc [.ref (mm 0), .int x] (cP D K (WMu K mm w0) sz)) (va_Qi (fun (z : Int32) (u : MS) => u.2.2.2.2.2.1 = nI (rs_engage v.1 x).1 ∧ ((rs_engage v.1 x).1 = 0 → z.toInt = (rs_engage v.1 x).2 ∧ ∀ z1 v1, CHG v (nI (dn v.1 8 2 ||| 2 ^ x.toInt.toNat)) z1 v1 → RM v1 u) ∧ (¬ (rs_engage v.1 x).1 = 0 → RM v u)) (fun (u : MS) t => cB D K (va_A (WMu K mm w0) sz) (WMu K mm u) t) (va_A (WMu K mm w0) sz)) 0 0 (va_A (WMu K mm w0) sz) := by
  refine Met.ofW (cc := cX7_engage) (maxL := 2) (ret := (some .boolean)) (by decide) rfl ?_
  intro p e s m args below meth c s₁ B hml hv
  obtain ⟨rfl, hsz, hP, hK, hD0⟩ := hv
  have hx := B.exec
  have hb := B.bytes
  have hr := B.returns
  have hts := hts_tl (atoms_spec (ws := (.code yX7_engage cX7_engage 2 (some .boolean) :: TB)) B.pre)
  have hown : s.vm.findClass RX7 = some m.cls := findClass_of_methodNamed B.named
  have hlocks := B.notSynchronized
  subst hsz
  have hD := hD0.self (sz := s.heap.size)
  generalize hAe : (va_A (WMu K mm w0) s.heap.size) = A at hD ⊢
  have hA : ∀ q : Nat, s.heap.size ≤ q → A q := fun q h => by rw [← hAe]; exact Or.inr h
  have hS : va_S A s.heap s.heap [] := va_S.rf
  clear hAe hD0
  obtain ⟨d, d1, d2, f1, f2, f, s0⟩ := v
  obtain ⟨ta, sl, ss, be, ch, th, M, rq, cq, pv, so, st, gs, gm, gu, gl, aw⟩ := w0
  obtain ⟨hd, hd1, hd2, hf1, hf2, hs20, hhf⟩ := id hI
  obtain ⟨hat, hat1, hat2, hss0, hss1, hch, hbe⟩ := id hR
  dsimp only at hd hd1 hd2 hf1 hf2 hs20 hhf hat hat1 hat2 hss0 hss1 hch hbe
  obtain ⟨n, m1, ge, hn, hm, hge, h0, h1, h2, hs9, he9⟩ := id hd
  obtain ⟨ha1, ha2, ha33, ha34, ha35⟩ := id hat
  have hp6 : 2 ^ m1 ≤ 64 := Nat.pow_le_pow_right (show 0 < 2 by decide) hm
  have h33 := ha33.trans h0
  have h34 := ha34.trans h1
  have h35 := ha35.trans h2
  have hn1 : dn d 8 0 = n := dn_of h0 (by omega)
  have hm1 : dn d 8 1 = m1 := dn_of h1 (by omega)
  have hg1 : dn d 8 2 = ge := dn_of h2 (by omega)
  have hP : va_P D vwCl (WM K mm ta sl ss be ch th M rq cq pv so st gs gm gu gl aw) s.heap := hP
  have hD : va_D A (WM K mm ta sl ss be ch th M rq cq pv so st gs gm gu gl aw) := hD
  have hl := lv_entry ([.ref (mm 0), .int x]) (n := 2) (Nat.le_of_ble_eq_true rfl)
  rw [lg_entry_eq]
  generalize (lg_sl ([.ref (mm 0), .int x]) ++ List.replicate (2 - (lg_sl ([.ref (mm 0), .int x])).length) Slot.unset).toArray = ls at hl ⊢
  have hl : lv_has ls 2 [(0, .ref (mm 0)), (1, .int x)] := hl
  refine lv_aload_n hx hb dX7_engage_0 rfl (lv_at hl 0 rfl) ?_
  refine lv_aload_n hx hb dX7_engage_1 rfl (lv_at hl 0 rfl) ?_
  refine lv_iload_n hx hb dX7_engage_2 rfl (lv_at hl 1 rfl) ?_
  refine va_calli (va_runV (As := [.int x]) (rest := [.ref (mm 0)]) ⟨hx, hb, hml, hown, hts⟩ (c_X7_isElement l D K mm ta sl ss be ch th M rq cq pv so st gs gm gu gl aw m1 x s.heap.size hm h34) (cwV 1 hts (TB_V k_m_X7_61 k_im_X7_isElement k_se_X7_isElement k_in_X7 k_co_X7_isElement (fun _ h => h)) rfl rfl rfl (by decide +kernel) ⟨Nat.le_of_ble_eq_true rfl, Nat.le_of_ble_eq_true rfl⟩) ⟨cP_blind, va_recv hK hP (ci := 7) (q0 := 0) rfl rfl, cP_of hP hK hD⟩ rfl rfl hl.1 rfl (lv_room (Nat.le_of_ble_eq_true rfl)) dX7_engage_3 ⟨Nat.le_of_ble_eq_true rfl, Nat.le_of_ble_eq_true rfl⟩) hS (fun q _ h => absurd h id) (fun q h => absurd h id) (fun he u9 t9 H locs ht9 hvm hw hB hz1 hk1 hS => ?_)
  have hP := P_same hP hk1
  have hw := hw.trans (bI_iff (show _ ↔ elm d x by unfold elm; rw [hm1]))
  by_cases hel : elm d x
  rotate_left
  · refine t_i (hw.trans (bI_f hel).symm) ?_
    refine b_if_eq hx hb (nI_toIntI (by omega)) dX7_engage_6 (tgt := 13) (by decide) (fun c6 => ?_) (fun c6 => absurd c6 (by omega))
    refine lv_iconst (v := nI 1) hx hb dX7_engage_13 (by decide) ?_
    refine va_put (D := D) (ci := 7) (v := .int (nI 1)) (ty := .int) (C := RX7) (T := TX7) (N := 17) hx hb hts iX7 tyX7 tyX7_ok nmX7 hown hK hP hD hS 0 rfl rfl 5 (by decide) (hts _ k_f_X7_45) (fun _ h9 => h9) rfl (by decide +kernel) rfl rfl (Nat.le_of_ble_eq_true rfl) dX7_engage_14 (fun H locs hP hD hS => ?_)
    have hP : va_P D vwCl (WM K mm ta sl ss be ch (nI 1) M rq cq pv so st gs gm gu gl aw) H := hP
    have hD : va_D A (WM K mm ta sl ss be ch (nI 1) M rq cq pv so st gs gm gu gl aw) := hD
    refine lv_aload_n hx hb dX7_engage_17 rfl (lv_at hl 0 rfl) ?_
    refine va_get (D := D) (ci := 7) (C := RX7) (T := TX7) (N := 17) hx hb hts iX7 hown hK hP 0 rfl rfl 5 (by decide) (hts _ k_f_X7_45) (fun _ h9 => h9) rfl dX7_engage_18 ?_
    refine b_if_ne hx hb (nI_toIntI (by omega)) dX7_engage_21 (tgt := 38) (by decide) (fun c21 => ?_) (fun c21 => absurd c21 (by omega))
    refine lv_iconst (v := nI 0) hx hb dX7_engage_38 (by decide) ?_
    have hrs : rs_engage d x = _ := (cI_t (hel))
    exact W.zret (v := nI 0) hx hb hr (by decide) (fun t9 ht9 hW => ⟨⟨nI 0, (ta, sl, ss, be, ch, (nI 1), M, rq, cq, pv, so, st, gs, gm, gu, gl, aw), rfl, ⟨by rw [hrs], by rw [hrs]; exact fun h9 => absurd h9 (by decide), fun _ => hR⟩, by rw [ht9]; exact hP, va_K.moved hW.alike hK, hD⟩, hS.F ht9⟩) hS.2.2 dX7_engage_39
  refine t_i (hw.trans (bI_t hel).symm) ?_
  obtain ⟨ke, hke, rfl⟩ := id hel
  have hke2 := hke
  rw [hm1] at hke2
  have hkn : (nI ke).toInt.toNat = ke := by rw [nI_toIntI (by omega)]; omega
  refine b_if_eq hx hb (nI_toIntI (by omega)) dX7_engage_6 (tgt := 13) (by decide) (fun c6 => absurd c6 (by omega)) (fun c6 => ?_)
  refine lv_iconst (v := nI 0) hx hb dX7_engage_9 (by decide) ?_
  refine lv_goto (tgt := 14) hx hb dX7_engage_10 (by decide) ?_
  refine va_put (D := D) (ci := 7) (v := .int (nI 0)) (ty := .int) (C := RX7) (T := TX7) (N := 17) hx hb hts iX7 tyX7 tyX7_ok nmX7 hown hK hP hD hS 0 rfl rfl 5 (by decide) (hts _ k_f_X7_45) (fun _ h9 => h9) rfl (by decide +kernel) rfl rfl (Nat.le_of_ble_eq_true rfl) dX7_engage_14 (fun H locs hP hD hS => ?_)
  have hP : va_P D vwCl (WM K mm ta sl ss be ch (nI 0) M rq cq pv so st gs gm gu gl aw) H := hP
  have hD : va_D A (WM K mm ta sl ss be ch (nI 0) M rq cq pv so st gs gm gu gl aw) := hD
  refine lv_aload_n hx hb dX7_engage_17 rfl (lv_at hl 0 rfl) ?_
  refine va_get (D := D) (ci := 7) (C := RX7) (T := TX7) (N := 17) hx hb hts iX7 hown hK hP 0 rfl rfl 5 (by decide) (hts _ k_f_X7_45) (fun _ h9 => h9) rfl dX7_engage_18 ?_
  refine b_if_ne hx hb (nI_toIntI (by omega)) dX7_engage_21 (tgt := 38) (by decide) (fun c21 => absurd c21 (by omega)) (fun c21 => ?_)
  refine lv_aload_n hx hb dX7_engage_24 rfl (lv_at hl 0 rfl) ?_
  refine va_get (D := D) (ci := 7) (C := RX7) (T := TX7) (N := 17) hx hb hts iX7 hown hK hP 0 rfl rfl 0 (by decide) (hts _ k_f_X7_7) (fun _ h9 => h9) rfl dX7_engage_25 ?_
  refine lv_bipush (v := nI 35) hx hb dX7_engage_28 (by decide) ?_
  refine n_iald hx hb hK hP 1 0 rfl rfl (i := 35) (n := 36) (by omega) (by decide) dX7_engage_30 ?_
  refine t_i (show _ = nI ge from h35) ?_
  refine lv_iload_n hx hb dX7_engage_31 rfl (lv_at hl 1 rfl) ?_
  refine va_calli (va_runS (As := [.int (nI ge), .int (nI ke)]) (rest := []) ⟨hx, hb, hml, hown, hts⟩ (c_X7_has l ke ge (by omega) (by omega)) (va_cwS 2 hts (TB_S k_m_X7_73 k_st_X7_has k_in_X7 k_co_X7_has (fun _ h => h)) rfl rfl rfl (by decide +kernel) ⟨Nat.le_of_ble_eq_true rfl, Nat.le_of_ble_eq_true rfl⟩) ⟨tP_blind, tP_of⟩ rfl rfl hl.1 rfl (lv_room (Nat.le_of_ble_eq_true rfl)) dX7_engage_32 ⟨Nat.le_of_ble_eq_true rfl, Nat.le_of_ble_eq_true rfl⟩) hS (fun q _ h => absurd h id) (fun q h => absurd h id) (fun hz9 u9 t9 H locs ht9 hvm hw hB hz1 hk1 hS => ?_)
  have hP := P_same hP hk1
  by_cases hen : ge.testBit ke = true
  rotate_left
  · refine t_i (hw.trans (bI_f hen).symm) ?_
    refine b_if_eq hx hb (nI_toIntI (by omega)) dX7_engage_35 (tgt := 40) (by decide) (fun c35 => ?_) (fun c35 => absurd c35 (by omega))
    refine lv_aload_n hx hb dX7_engage_40 rfl (lv_at hl 0 rfl) ?_
    refine lv_aload_n hx hb dX7_engage_41 rfl (lv_at hl 0 rfl) ?_
    refine va_get (D := D) (ci := 7) (C := RX7) (T := TX7) (N := 17) hx hb hts iX7 hown hK hP 0 rfl rfl 0 (by decide) (hts _ k_f_X7_7) (fun _ h9 => h9) rfl dX7_engage_42 ?_
    refine lv_bipush (v := nI 35) hx hb dX7_engage_45 (by decide) ?_
    refine n_iald hx hb hK hP 1 0 rfl rfl (i := 35) (n := 36) (by omega) (by decide) dX7_engage_47 ?_
    refine t_i (show _ = nI ge from h35) ?_
    refine lv_iconst (v := nI 1) hx hb dX7_engage_48 (by decide) ?_
    refine lv_iload_n hx hb dX7_engage_49 rfl (lv_at hl 1 rfl) ?_
    refine lv_ishl hx hb dX7_engage_50 ?_
    refine lv_ior hx hb dX7_engage_51 ?_
    refine t_i (w_or ge (by omega) ke (by omega)) ?_
    have hlt : (ge ||| 2 ^ ke) < 64 := Nat.lt_of_lt_of_le (Nat.or_lt_two_pow hge (Nat.pow_lt_pow_right (by decide) hke2)) hp6
    have hPc : va_P D vwCl (WMu K mm (ta, sl, ss, be, ch, (nI 0), M, rq, cq, pv, so, st, gs, gm, gu, gl, aw)) H := hP
    have hDc : va_D A (WMu K mm (ta, sl, ss, be, ch, (nI 0), M, rq, cq, pv, so, st, gs, gm, gu, gl, aw)) := hD
    have hFc := freeAll hDc hS hA
    refine va_callv (va_runV (As := [.int (nI (ge ||| 2 ^ ke))]) (rest := []) ⟨hx, hb, hml, hown, hts⟩ (c_X7_become l D K mm (d, d1, d2, f1, f2, f, s0) (ta, sl, ss, be, ch, (nI 0), M, rq, cq, pv, so, st, gs, gm, gu, gl, aw) (ge ||| 2 ^ ke) H.size hI hR (by omega)) (cwV 1 hts (TB_V k_m_X7_77 k_im_X7_become k_se_X7_become k_in_X7 k_co_X7_become (fun _ h => h)) rfl rfl rfl (by decide +kernel) ⟨Nat.le_of_ble_eq_true rfl, Nat.le_of_ble_eq_true rfl⟩) ⟨cP_blind, va_recv hK hP (ci := 7) (q0 := 0) rfl rfl, cP_of hPc hK hDc⟩ rfl rfl hl.1 rfl (lv_room (Nat.le_of_ble_eq_true rfl)) dX7_engage_52 ⟨Nat.le_of_ble_eq_true rfl, Nat.le_of_ble_eq_true rfl⟩) hS (fun q _ h => hFc q h) hFc (fun u9 t9 H locs ht9 hvm hw hB hz1 hk1 hS => ?_)
    obtain ⟨hP, hK1, hD1⟩ := hB
    rw [ht9] at hP
    have hD := hD1.weaken (fun _ _ _ h => hFc _ h)
    obtain ⟨ta8, sl8, ss8, be8, ch8, th8, M8, rq8, cq8, pv8, so8, st8, gs8, gm8, gu8, gl8, aw8⟩ := u9
    have hP : va_P D vwCl (WM K mm ta8 sl8 ss8 be8 ch8 th8 M8 rq8 cq8 pv8 so8 st8 gs8 gm8 gu8 gl8 aw8) H := hP
    have hD : va_D A (WM K mm ta8 sl8 ss8 be8 ch8 th8 M8 rq8 cq8 pv8 so8 st8 gs8 gm8 gu8 gl8 aw8) := hD
    obtain ⟨hth8, hch8⟩ := hw
    have hth8 : th8 = nI 0 := hth8
    refine lv_iconst (v := nI 1) hx hb dX7_engage_55 (by decide) ?_
    have hrs : rs_engage d (nI ke) = _ := ((cI_f (fun z => z hel)).trans ((cI_f (by rw [hg1, hkn]; exact fun z => hen ((w_orb ge (by omega) ke (by omega)).mpr z))).trans (rfl)))
    exact W.zret (v := nI 1) hx hb hr (by decide) (fun t9 ht9 hW => ⟨⟨nI 1, (ta8, sl8, ss8, be8, ch8, th8, M8, rq8, cq8, pv8, so8, st8, gs8, gm8, gu8, gl8, aw8), rfl, ⟨by rw [hrs]; exact hth8, by rw [hrs]; exact fun _ => ⟨by decide, fun z1 v1 h9 => hch8 z1 v1 (by rw [hg1, hkn] at h9; exact h9)⟩, by rw [hrs]; exact fun h9 => absurd rfl h9⟩, by rw [ht9]; exact hP, va_K.moved hW.alike hK, hD⟩, hS.F ht9⟩) hS.2.2 dX7_engage_56
  refine t_i (hw.trans (bI_t hen).symm) ?_
  refine b_if_eq hx hb (nI_toIntI (by omega)) dX7_engage_35 (tgt := 40) (by decide) (fun c35 => absurd c35 (by omega)) (fun c35 => ?_)
  refine lv_iconst (v := nI 0) hx hb dX7_engage_38 (by decide) ?_
  have heq : (ge ||| 2 ^ ke) = ge := (w_orb ge (by omega) ke (by omega)).mp hen
  have hrs : rs_engage d (nI ke) = _ := ((cI_f (fun z => z hel)).trans (cI_t (by rw [hg1, hkn]; exact heq)))
  exact W.zret (v := nI 0) hx hb hr (by decide) (fun t9 ht9 hW => ⟨⟨nI 0, (ta, sl, ss, be, ch, (nI 0), M, rq, cq, pv, so, st, gs, gm, gu, gl, aw), rfl, ⟨by rw [hrs], by rw [hrs]; exact fun _ => ⟨by decide, fun z1 v1 h9 => by
      rw [hg1, hkn, heq, ← h2] at h9
      rw [CHG_same h9]
      exact hR⟩, by rw [hrs]; exact fun h9 => absurd rfl h9⟩, by rw [ht9]; exact hP, va_K.moved hW.alike hK, hD⟩, hS.F ht9⟩) hS.2.2 dX7_engage_39
set_option maxHeartbeats 4000000 in
set_option maxRecDepth 100000 in
theorem c_X7_release (l : Launch) (D : va_G) (K : Nat → ClassId) (mm : Nat → Nat) (v : CV) (w0 : MS) (x : Int32) (sz : Nat) (hI : IV v) (hR : RM v w0)  : Met l yX7_release (.code yX7_release cX7_release 2 (some .boolean) :: TB) ({ frames := 2, cells := 0, slots := 0, locals := 43 } : Room) (va_Pc [.ref (mm 0), .int x] (cP D K (WMu K mm w0) sz)) (va_Qi (fun (z : Int32) (u : MS) => u.2.2.2.2.2.1 = nI (rs_release v.1 x).1 ∧ ((rs_release v.1 x).1 = 0 → z.toInt = (rs_release v.1 x).2 ∧ ∀ z1 v1, CHG v (nI (cl1 (dn v.1 8 2) x.toInt.toNat)) z1 v1 → RM v1 u) ∧ (¬ (rs_release v.1 x).1 = 0 → RM v u)) (fun (u : MS) t => cB D K (va_A (WMu K mm w0) sz) (WMu K mm u) t) (va_A (WMu K mm w0) sz)) 0 0 (va_A (WMu K mm w0) sz) := by
  refine Met.ofW (cc := cX7_release) (maxL := 2) (ret := (some .boolean)) (by decide) rfl ?_
  intro p e s m args below meth c s₁ B hml hv
  obtain ⟨rfl, hsz, hP, hK, hD0⟩ := hv
  have hx := B.exec
  have hb := B.bytes
  have hr := B.returns
  have hts := hts_tl (atoms_spec (ws := (.code yX7_release cX7_release 2 (some .boolean) :: TB)) B.pre)
  have hown : s.vm.findClass RX7 = some m.cls := findClass_of_methodNamed B.named
  have hlocks := B.notSynchronized
  subst hsz
  have hD := hD0.self (sz := s.heap.size)
  generalize hAe : (va_A (WMu K mm w0) s.heap.size) = A at hD ⊢
  have hA : ∀ q : Nat, s.heap.size ≤ q → A q := fun q h => by rw [← hAe]; exact Or.inr h
  have hS : va_S A s.heap s.heap [] := va_S.rf
  clear hAe hD0
  obtain ⟨d, d1, d2, f1, f2, f, s0⟩ := v
  obtain ⟨ta, sl, ss, be, ch, th, M, rq, cq, pv, so, st, gs, gm, gu, gl, aw⟩ := w0
  obtain ⟨hd, hd1, hd2, hf1, hf2, hs20, hhf⟩ := id hI
  obtain ⟨hat, hat1, hat2, hss0, hss1, hch, hbe⟩ := id hR
  dsimp only at hd hd1 hd2 hf1 hf2 hs20 hhf hat hat1 hat2 hss0 hss1 hch hbe
  obtain ⟨n, m1, ge, hn, hm, hge, h0, h1, h2, hs9, he9⟩ := id hd
  obtain ⟨ha1, ha2, ha33, ha34, ha35⟩ := id hat
  have hp6 : 2 ^ m1 ≤ 64 := Nat.pow_le_pow_right (show 0 < 2 by decide) hm
  have h33 := ha33.trans h0
  have h34 := ha34.trans h1
  have h35 := ha35.trans h2
  have hn1 : dn d 8 0 = n := dn_of h0 (by omega)
  have hm1 : dn d 8 1 = m1 := dn_of h1 (by omega)
  have hg1 : dn d 8 2 = ge := dn_of h2 (by omega)
  have hP : va_P D vwCl (WM K mm ta sl ss be ch th M rq cq pv so st gs gm gu gl aw) s.heap := hP
  have hD : va_D A (WM K mm ta sl ss be ch th M rq cq pv so st gs gm gu gl aw) := hD
  have hl := lv_entry ([.ref (mm 0), .int x]) (n := 2) (Nat.le_of_ble_eq_true rfl)
  rw [lg_entry_eq]
  generalize (lg_sl ([.ref (mm 0), .int x]) ++ List.replicate (2 - (lg_sl ([.ref (mm 0), .int x])).length) Slot.unset).toArray = ls at hl ⊢
  have hl : lv_has ls 2 [(0, .ref (mm 0)), (1, .int x)] := hl
  refine lv_aload_n hx hb dX7_release_0 rfl (lv_at hl 0 rfl) ?_
  refine lv_aload_n hx hb dX7_release_1 rfl (lv_at hl 0 rfl) ?_
  refine lv_iload_n hx hb dX7_release_2 rfl (lv_at hl 1 rfl) ?_
  refine va_calli (va_runV (As := [.int x]) (rest := [.ref (mm 0)]) ⟨hx, hb, hml, hown, hts⟩ (c_X7_isElement l D K mm ta sl ss be ch th M rq cq pv so st gs gm gu gl aw m1 x s.heap.size hm h34) (cwV 1 hts (TB_V k_m_X7_61 k_im_X7_isElement k_se_X7_isElement k_in_X7 k_co_X7_isElement (fun _ h => h)) rfl rfl rfl (by decide +kernel) ⟨Nat.le_of_ble_eq_true rfl, Nat.le_of_ble_eq_true rfl⟩) ⟨cP_blind, va_recv hK hP (ci := 7) (q0 := 0) rfl rfl, cP_of hP hK hD⟩ rfl rfl hl.1 rfl (lv_room (Nat.le_of_ble_eq_true rfl)) dX7_release_3 ⟨Nat.le_of_ble_eq_true rfl, Nat.le_of_ble_eq_true rfl⟩) hS (fun q _ h => absurd h id) (fun q h => absurd h id) (fun he u9 t9 H locs ht9 hvm hw hB hz1 hk1 hS => ?_)
  have hP := P_same hP hk1
  have hw := hw.trans (bI_iff (show _ ↔ elm d x by unfold elm; rw [hm1]))
  by_cases hel : elm d x
  rotate_left
  · refine t_i (hw.trans (bI_f hel).symm) ?_
    refine b_if_eq hx hb (nI_toIntI (by omega)) dX7_release_6 (tgt := 13) (by decide) (fun c6 => ?_) (fun c6 => absurd c6 (by omega))
    refine lv_iconst (v := nI 1) hx hb dX7_release_13 (by decide) ?_
    refine va_put (D := D) (ci := 7) (v := .int (nI 1)) (ty := .int) (C := RX7) (T := TX7) (N := 17) hx hb hts iX7 tyX7 tyX7_ok nmX7 hown hK hP hD hS 0 rfl rfl 5 (by decide) (hts _ k_f_X7_45) (fun _ h9 => h9) rfl (by decide +kernel) rfl rfl (Nat.le_of_ble_eq_true rfl) dX7_release_14 (fun H locs hP hD hS => ?_)
    have hP : va_P D vwCl (WM K mm ta sl ss be ch (nI 1) M rq cq pv so st gs gm gu gl aw) H := hP
    have hD : va_D A (WM K mm ta sl ss be ch (nI 1) M rq cq pv so st gs gm gu gl aw) := hD
    refine lv_aload_n hx hb dX7_release_17 rfl (lv_at hl 0 rfl) ?_
    refine va_get (D := D) (ci := 7) (C := RX7) (T := TX7) (N := 17) hx hb hts iX7 hown hK hP 0 rfl rfl 5 (by decide) (hts _ k_f_X7_45) (fun _ h9 => h9) rfl dX7_release_18 ?_
    refine b_if_ne hx hb (nI_toIntI (by omega)) dX7_release_21 (tgt := 38) (by decide) (fun c21 => ?_) (fun c21 => absurd c21 (by omega))
    refine lv_iconst (v := nI 0) hx hb dX7_release_38 (by decide) ?_
    have hrs : rs_release d x = _ := (cI_t (hel))
    exact W.zret (v := nI 0) hx hb hr (by decide) (fun t9 ht9 hW => ⟨⟨nI 0, (ta, sl, ss, be, ch, (nI 1), M, rq, cq, pv, so, st, gs, gm, gu, gl, aw), rfl, ⟨by rw [hrs], by rw [hrs]; exact fun h9 => absurd h9 (by decide), fun _ => hR⟩, by rw [ht9]; exact hP, va_K.moved hW.alike hK, hD⟩, hS.F ht9⟩) hS.2.2 dX7_release_39
  refine t_i (hw.trans (bI_t hel).symm) ?_
  obtain ⟨ke, hke, rfl⟩ := id hel
  have hke2 := hke
  rw [hm1] at hke2
  have hkn : (nI ke).toInt.toNat = ke := by rw [nI_toIntI (by omega)]; omega
  refine b_if_eq hx hb (nI_toIntI (by omega)) dX7_release_6 (tgt := 13) (by decide) (fun c6 => absurd c6 (by omega)) (fun c6 => ?_)
  refine lv_iconst (v := nI 0) hx hb dX7_release_9 (by decide) ?_
  refine lv_goto (tgt := 14) hx hb dX7_release_10 (by decide) ?_
  refine va_put (D := D) (ci := 7) (v := .int (nI 0)) (ty := .int) (C := RX7) (T := TX7) (N := 17) hx hb hts iX7 tyX7 tyX7_ok nmX7 hown hK hP hD hS 0 rfl rfl 5 (by decide) (hts _ k_f_X7_45) (fun _ h9 => h9) rfl (by decide +kernel) rfl rfl (Nat.le_of_ble_eq_true rfl) dX7_release_14 (fun H locs hP hD hS => ?_)
  have hP : va_P D vwCl (WM K mm ta sl ss be ch (nI 0) M rq cq pv so st gs gm gu gl aw) H := hP
  have hD : va_D A (WM K mm ta sl ss be ch (nI 0) M rq cq pv so st gs gm gu gl aw) := hD
  refine lv_aload_n hx hb dX7_release_17 rfl (lv_at hl 0 rfl) ?_
  refine va_get (D := D) (ci := 7) (C := RX7) (T := TX7) (N := 17) hx hb hts iX7 hown hK hP 0 rfl rfl 5 (by decide) (hts _ k_f_X7_45) (fun _ h9 => h9) rfl dX7_release_18 ?_
  refine b_if_ne hx hb (nI_toIntI (by omega)) dX7_release_21 (tgt := 38) (by decide) (fun c21 => absurd c21 (by omega)) (fun c21 => ?_)
  refine lv_aload_n hx hb dX7_release_24 rfl (lv_at hl 0 rfl) ?_
  refine va_get (D := D) (ci := 7) (C := RX7) (T := TX7) (N := 17) hx hb hts iX7 hown hK hP 0 rfl rfl 0 (by decide) (hts _ k_f_X7_7) (fun _ h9 => h9) rfl dX7_release_25 ?_
  refine lv_bipush (v := nI 35) hx hb dX7_release_28 (by decide) ?_
  refine n_iald hx hb hK hP 1 0 rfl rfl (i := 35) (n := 36) (by omega) (by decide) dX7_release_30 ?_
  refine t_i (show _ = nI ge from h35) ?_
  refine lv_iload_n hx hb dX7_release_31 rfl (lv_at hl 1 rfl) ?_
  refine va_calli (va_runS (As := [.int (nI ge), .int (nI ke)]) (rest := []) ⟨hx, hb, hml, hown, hts⟩ (c_X7_has l ke ge (by omega) (by omega)) (va_cwS 2 hts (TB_S k_m_X7_73 k_st_X7_has k_in_X7 k_co_X7_has (fun _ h => h)) rfl rfl rfl (by decide +kernel) ⟨Nat.le_of_ble_eq_true rfl, Nat.le_of_ble_eq_true rfl⟩) ⟨tP_blind, tP_of⟩ rfl rfl hl.1 rfl (lv_room (Nat.le_of_ble_eq_true rfl)) dX7_release_32 ⟨Nat.le_of_ble_eq_true rfl, Nat.le_of_ble_eq_true rfl⟩) hS (fun q _ h => absurd h id) (fun q h => absurd h id) (fun hz9 u9 t9 H locs ht9 hvm hw hB hz1 hk1 hS => ?_)
  have hP := P_same hP hk1
  by_cases hen : ge.testBit ke = true
  rotate_left
  · refine t_i (hw.trans (bI_f hen).symm) ?_
    refine b_if_ne hx hb (nI_toIntI (by omega)) dX7_release_35 (tgt := 40) (by decide) (fun c35 => absurd c35 (by omega)) (fun c35 => ?_)
    refine lv_iconst (v := nI 0) hx hb dX7_release_38 (by decide) ?_
    have heq : (cl1 ge ke) = ge := (w_clb ge (by omega) ke (by omega)).mp hen
    have hrs : rs_release d (nI ke) = _ := ((cI_f (fun z => z hel)).trans (cI_t (by rw [hg1, hkn]; exact heq)))
    exact W.zret (v := nI 0) hx hb hr (by decide) (fun t9 ht9 hW => ⟨⟨nI 0, (ta, sl, ss, be, ch, (nI 0), M, rq, cq, pv, so, st, gs, gm, gu, gl, aw), rfl, ⟨by rw [hrs], by rw [hrs]; exact fun _ => ⟨by decide, fun z1 v1 h9 => by
      rw [hg1, hkn, heq, ← h2] at h9
      rw [CHG_same h9]
      exact hR⟩, by rw [hrs]; exact fun h9 => absurd rfl h9⟩, by rw [ht9]; exact hP, va_K.moved hW.alike hK, hD⟩, hS.F ht9⟩) hS.2.2 dX7_release_39
  refine t_i (hw.trans (bI_t hen).symm) ?_
  refine b_if_ne hx hb (nI_toIntI (by omega)) dX7_release_35 (tgt := 40) (by decide) (fun c35 => ?_) (fun c35 => absurd c35 (by omega))
  refine lv_aload_n hx hb dX7_release_40 rfl (lv_at hl 0 rfl) ?_
  refine lv_aload_n hx hb dX7_release_41 rfl (lv_at hl 0 rfl) ?_
  refine va_get (D := D) (ci := 7) (C := RX7) (T := TX7) (N := 17) hx hb hts iX7 hown hK hP 0 rfl rfl 0 (by decide) (hts _ k_f_X7_7) (fun _ h9 => h9) rfl dX7_release_42 ?_
  refine lv_bipush (v := nI 35) hx hb dX7_release_45 (by decide) ?_
  refine n_iald hx hb hK hP 1 0 rfl rfl (i := 35) (n := 36) (by omega) (by decide) dX7_release_47 ?_
  refine t_i (show _ = nI ge from h35) ?_
  refine lv_iconst (v := nI 1) hx hb dX7_release_48 (by decide) ?_
  refine lv_iload_n hx hb dX7_release_49 rfl (lv_at hl 1 rfl) ?_
  refine lv_ishl hx hb dX7_release_50 ?_
  refine lv_iconst (v := (-1)) hx hb dX7_release_51 (by decide) ?_
  refine lv_ixor hx hb dX7_release_52 ?_
  refine lv_iand hx hb dX7_release_53 ?_
  refine t_i (w_clr ge (by omega) ke (by omega)) ?_
  have hlt : (cl1 ge ke) < 64 := Nat.lt_of_le_of_lt (cl1_le ge ke) (by omega)
  have hPc : va_P D vwCl (WMu K mm (ta, sl, ss, be, ch, (nI 0), M, rq, cq, pv, so, st, gs, gm, gu, gl, aw)) H := hP
  have hDc : va_D A (WMu K mm (ta, sl, ss, be, ch, (nI 0), M, rq, cq, pv, so, st, gs, gm, gu, gl, aw)) := hD
  have hFc := freeAll hDc hS hA
  refine va_callv (va_runV (As := [.int (nI (cl1 ge ke))]) (rest := []) ⟨hx, hb, hml, hown, hts⟩ (c_X7_become l D K mm (d, d1, d2, f1, f2, f, s0) (ta, sl, ss, be, ch, (nI 0), M, rq, cq, pv, so, st, gs, gm, gu, gl, aw) (cl1 ge ke) H.size hI hR (by omega)) (cwV 1 hts (TB_V k_m_X7_77 k_im_X7_become k_se_X7_become k_in_X7 k_co_X7_become (fun _ h => h)) rfl rfl rfl (by decide +kernel) ⟨Nat.le_of_ble_eq_true rfl, Nat.le_of_ble_eq_true rfl⟩) ⟨cP_blind, va_recv hK hP (ci := 7) (q0 := 0) rfl rfl, cP_of hPc hK hDc⟩ rfl rfl hl.1 rfl (lv_room (Nat.le_of_ble_eq_true rfl)) dX7_release_54 ⟨Nat.le_of_ble_eq_true rfl, Nat.le_of_ble_eq_true rfl⟩) hS (fun q _ h => hFc q h) hFc (fun u9 t9 H locs ht9 hvm hw hB hz1 hk1 hS => ?_)
  obtain ⟨hP, hK1, hD1⟩ := hB
  rw [ht9] at hP
  have hD := hD1.weaken (fun _ _ _ h => hFc _ h)
  obtain ⟨ta8, sl8, ss8, be8, ch8, th8, M8, rq8, cq8, pv8, so8, st8, gs8, gm8, gu8, gl8, aw8⟩ := u9
  have hP : va_P D vwCl (WM K mm ta8 sl8 ss8 be8 ch8 th8 M8 rq8 cq8 pv8 so8 st8 gs8 gm8 gu8 gl8 aw8) H := hP
  have hD : va_D A (WM K mm ta8 sl8 ss8 be8 ch8 th8 M8 rq8 cq8 pv8 so8 st8 gs8 gm8 gu8 gl8 aw8) := hD
  obtain ⟨hth8, hch8⟩ := hw
  have hth8 : th8 = nI 0 := hth8
  refine lv_iconst (v := nI 1) hx hb dX7_release_57 (by decide) ?_
  have hrs : rs_release d (nI ke) = _ := ((cI_f (fun z => z hel)).trans ((cI_f (by rw [hg1, hkn]; exact fun z => absurd hen ((w_clb ge (by omega) ke (by omega)).mpr z))).trans (rfl)))
  exact W.zret (v := nI 1) hx hb hr (by decide) (fun t9 ht9 hW => ⟨⟨nI 1, (ta8, sl8, ss8, be8, ch8, th8, M8, rq8, cq8, pv8, so8, st8, gs8, gm8, gu8, gl8, aw8), rfl, ⟨by rw [hrs]; exact hth8, by rw [hrs]; exact fun _ => ⟨by decide, fun z1 v1 h9 => hch8 z1 v1 (by rw [hg1, hkn] at h9; exact h9)⟩, by rw [hrs]; exact fun h9 => absurd rfl h9⟩, by rw [ht9]; exact hP, va_K.moved hW.alike hK, hD⟩, hS.F ht9⟩) hS.2.2 dX7_release_58
