/-! PlanetaryGearboxModel: save, restore -/
theorem AtD_cp {ta ta' : Nat → Int32} {d d' : Nat → Nat → Int32} (h : AtD ta d) (he : EqD d' d) (ht : ∀ j, j < 36 → ta' j = ta j) : AtD ta' d' := by
  obtain ⟨h1, h2, h3, h4, h5⟩ := h
  obtain ⟨e1, e2, e3, e4, e5⟩ := he
  refine ⟨fun k j hk hj => ?_, fun e hx => ?_, ?_, ?_, ?_⟩
  · rw [ht _ (by omega), e1 j k hj hk]; exact h1 k j hk hj
  · obtain ⟨g1, g2, g3⟩ := h2 e hx
    rw [ht _ (by omega), ht _ (by omega), ht _ (by omega), e2 5 e (by omega) (by omega) hx, e2 6 e (by omega) (by omega) hx, e2 7 e (by omega) (by omega) hx]
    exact ⟨g1, g2, g3⟩
  · rw [ht _ (by omega), e3]; exact h3
  · rw [ht _ (by omega), e4]; exact h4
  · rw [ht _ (by omega), e5]; exact h5
theorem EqD_rf (d : Nat → Nat → Int32) : EqD d d := ⟨fun _ _ _ _ => rfl, fun _ _ _ _ _ => rfl, rfl, rfl, rfl⟩
set_option maxHeartbeats 4000000 in
set_option maxRecDepth 100000 in
theorem c_X7_save (l : Launch) (D : va_G) (K : Nat → ClassId) (mm : Nat → Nat) (v : CV) (w0 : MS) (x : Int32) (sz : Nat) (hI : IV v) (hR : RM v w0)  : Met l yX7_save (.code yX7_save cX7_save 3 none :: TB) ({ frames := 1, cells := 0, slots := 0, locals := 22 } : Room) (va_Pc [.ref (mm 0), .int x] (cP D K (WMu K mm w0) sz)) (va_Qv (fun (u : MS) => u.2.2.2.2.2.1 = nI (rs_save x).1 ∧ ((rs_save x).1 = 0 → ∀ v1, SAV v x v1 → RM v1 u) ∧ (¬ (rs_save x).1 = 0 → RM v u)) (fun (u : MS) t => cB D K (va_A (WMu K mm w0) sz) (WMu K mm u) t) (va_A (WMu K mm w0) sz)) 0 0 (va_A (WMu K mm w0) sz) := by
  refine Met.ofW (cc := cX7_save) (maxL := 3) (ret := none) (by decide) rfl ?_
  intro p e s m args below meth c s₁ B hml hv
  obtain ⟨rfl, hsz, hP, hK, hD0⟩ := hv
  have hx := B.exec
  have hb := B.bytes
  have hr := B.returns
  have hts := hts_tl (atoms_spec (ws := (.code yX7_save cX7_save 3 none :: TB)) B.pre)
  have hown : s.vm.findClass RX7 = some m.cls := findClass_of_methodNamed B.named
  have hlocks := B.notSynchronized
  subst hsz
  have hD := hD0.self (sz := s.heap.size)
  generalize hAe : (va_A (WMu K mm w0) s.heap.size) = A at hD ⊢
  have hA : ∀ q : Nat, s.heap.size ≤ q → A q := fun q h => by rw [← hAe]; exact Or.inr h
  have hS : va_S A s.heap s.heap [] := va_S.rf
  clear hAe hD0
  obtain ⟨d, d1, d2, f1, f2, f, s0⟩ := v
  obtain ⟨ta, sl, ss, be, ch, th, M, rq, cq, pv, so, st, gs, gm, gu, gl, aw⟩ := w0
  obtain ⟨hd, hd1, hd2, hf1, hf2, hs20, hhf⟩ := id hI
  obtain ⟨hat, hat1, hat2, hss0, hss1, hch, hbe⟩ := id hR
  dsimp only at hd hd1 hd2 hf1 hf2 hs20 hhf hat hat1 hat2 hss0 hss1 hch hbe
  obtain ⟨n, m1, ge, hn, hm, hge, h0, h1, h2, hs9, he9⟩ := id hd
  obtain ⟨ha1, ha2, ha33, ha34, ha35⟩ := id hat
  have hp6 : 2 ^ m1 ≤ 64 := Nat.pow_le_pow_right (show 0 < 2 by decide) hm
  have h33 := ha33.trans h0
  have h34 := ha34.trans h1
  have h35 := ha35.trans h2
  have hn1 : dn d 8 0 = n := dn_of h0 (by omega)
  have hm1 : dn d 8 1 = m1 := dn_of h1 (by omega)
  have hg1 : dn d 8 2 = ge := dn_of h2 (by omega)
  have hP : va_P D vwCl (WM K mm ta sl ss be ch th M rq cq pv so st gs gm gu gl aw) s.heap := hP
  have hD : va_D A (WM K mm ta sl ss be ch th M rq cq pv so st gs gm gu gl aw) := hD
  have hl := lv_entry ([.ref (mm 0), .int x]) (n := 3) (Nat.le_of_ble_eq_true rfl)
  rw [lg_entry_eq]
  generalize (lg_sl ([.ref (mm 0), .int x]) ++ List.replicate (3 - (lg_sl ([.ref (mm 0), .int x])).length) Slot.unset).toArray = ls at hl ⊢
  have hl : lv_has ls 3 [(0, .ref (mm 0)), (1, .int x)] := hl
  refine lv_aload_n hx hb dX7_save_0 rfl (lv_at hl 0 rfl) ?_
  refine lv_iload_n hx hb dX7_save_1 rfl (lv_at hl 1 rfl) ?_
  refine lv_iconst (v := nI 0) hx hb dX7_save_2 (by decide) ?_
  refine lv_iconst (v := nI 1) hx hb dX7_save_3 (by decide) ?_
  refine va_calli (va_runS (As := [.int x, .int (nI 0), .int (nI 1)]) (rest := [.ref (mm 0)]) ⟨hx, hb, hml, hown, hts⟩ (c_X7_in l x (nI 0) (nI 1) ) (va_cwS 3 hts (TB_S k_m_X7_49 k_st_X7_in k_in_X7 k_co_X7_in (fun _ h => h)) rfl rfl rfl (by decide +kernel) ⟨Nat.le_of_ble_eq_true rfl, Nat.le_of_ble_eq_true rfl⟩) ⟨tP_blind, tP_of⟩ rfl rfl hl.1 rfl (lv_room (Nat.le_of_ble_eq_true rfl)) dX7_save_4 ⟨Nat.le_of_ble_eq_true rfl, Nat.le_of_ble_eq_true rfl⟩) hS (fun q _ h => absurd h id) (fun q h => absurd h id) (fun zi u9 t9 H locs ht9 hvm hw hB hz1 hk1 hS => ?_)
  have hP := P_same hP hk1
  have hw := hw.trans (bI_iff (show _ ↔ prt x by rw [prt_iff, nI_toIntI (by omega), nI_toIntI (by omega)]; omega))
  by_cases hprt : prt x
  rotate_left
  · refine t_i (hw.trans (bI_f hprt).symm) ?_
    refine b_if_eq hx hb (nI_toIntI (by omega)) dX7_save_7 (tgt := 14) (by decide) (fun c7 => ?_) (fun c7 => absurd c7 (by omega))
    refine lv_iconst (v := nI 1) hx hb dX7_save_14 (by decide) ?_
    refine va_put (D := D) (ci := 7) (v := .int (nI 1)) (ty := .int) (C := RX7) (T := TX7) (N := 17) hx hb hts iX7 tyX7 tyX7_ok nmX7 hown hK hP hD hS 0 rfl rfl 5 (by decide) (hts _ k_f_X7_45) (fun _ h9 => h9) rfl (by decide +kernel) rfl rfl (Nat.le_of_ble_eq_true rfl) dX7_save_15 (fun H locs hP hD hS => ?_)
    have hP : va_P D vwCl (WM K mm ta sl ss be ch (nI 1) M rq cq pv so st gs gm gu gl aw) H := hP
    have hD : va_D A (WM K mm ta sl ss be ch (nI 1) M rq cq pv so st gs gm gu gl aw) := hD
    refine lv_aload_n hx hb dX7_save_18 rfl (lv_at hl 0 rfl) ?_
    refine va_get (D := D) (ci := 7) (C := RX7) (T := TX7) (N := 17) hx hb hts iX7 hown hK hP 0 rfl rfl 5 (by decide) (hts _ k_f_X7_45) (fun _ h9 => h9) rfl dX7_save_19 ?_
    refine b_if_ne hx hb (nI_toIntI (by omega)) dX7_save_22 (tgt := 63) (by decide) (fun c22 => ?_) (fun c22 => absurd c22 (by omega))
    have hrs : rs_save x = _ := (cI_t (hprt))
    exact W.vret hx hb hr (fun t9 ht9 hW => ⟨⟨(ta, sl, ss, be, ch, (nI 1), M, rq, cq, pv, so, st, gs, gm, gu, gl, aw), rfl, ⟨by rw [hrs], by rw [hrs]; exact fun h9 => absurd h9 (by decide), fun _ => hR⟩, by rw [ht9]; exact hP, va_K.moved hW.alike hK, hD⟩, hS.F ht9⟩) hS.2.2 dX7_save_63
  refine t_i (hw.trans (bI_t hprt).symm) ?_
  obtain ⟨kx, hkx, rfl⟩ := id hprt
  have hkxn : (nI kx).toInt = kx := nI_toIntI (by omega)
  refine b_if_eq hx hb (nI_toIntI (by omega)) dX7_save_7 (tgt := 14) (by decide) (fun c7 => absurd c7 (by omega)) (fun c7 => ?_)
  refine lv_iconst (v := nI 0) hx hb dX7_save_10 (by decide) ?_
  refine lv_goto (tgt := 15) hx hb dX7_save_11 (by decide) ?_
  refine va_put (D := D) (ci := 7) (v := .int (nI 0)) (ty := .int) (C := RX7) (T := TX7) (N := 17) hx hb hts iX7 tyX7 tyX7_ok nmX7 hown hK hP hD hS 0 rfl rfl 5 (by decide) (hts _ k_f_X7_45) (fun _ h9 => h9) rfl (by decide +kernel) rfl rfl (Nat.le_of_ble_eq_true rfl) dX7_save_15 (fun H locs hP hD hS => ?_)
  have hP : va_P D vwCl (WM K mm ta sl ss be ch (nI 0) M rq cq pv so st gs gm gu gl aw) H := hP
  have hD : va_D A (WM K mm ta sl ss be ch (nI 0) M rq cq pv so st gs gm gu gl aw) := hD
  refine lv_aload_n hx hb dX7_save_18 rfl (lv_at hl 0 rfl) ?_
  refine va_get (D := D) (ci := 7) (C := RX7) (T := TX7) (N := 17) hx hb hts iX7 hown hK hP 0 rfl rfl 5 (by decide) (hts _ k_f_X7_45) (fun _ h9 => h9) rfl dX7_save_19 ?_
  refine b_if_ne hx hb (nI_toIntI (by omega)) dX7_save_22 (tgt := 63) (by decide) (fun c22 => absurd c22 (by omega)) (fun c22 => ?_)
  refine lv_iconst (v := nI 0) hx hb dX7_save_25 (by decide) ?_
  refine lv_istore_n (lv' := [(2, .int (nI 0)), (0, .ref (mm 0)), (1, .int (nI kx))]) hx hb dX7_save_26 rfl hl (by decide) rfl (fun ls hl => ?_)
  have L27 : ∀ (fuel : Nat) (k : Nat) (sl2 : Nat → Int32) (H : Heap) (locs : List Loc) (ls : Array Slot), 36 - k < fuel → (k ≤ 36) → (∀ j, sl2 j = if 36 * kx ≤ j ∧ j < 36 * kx + k then ta (j - 36 * kx) else sl j) → va_P D vwCl (WM K mm ta sl2 ss be ch (nI 0) M rq cq pv so st gs gm gu gl aw) H → va_D A (WM K mm ta sl2 ss be ch (nI 0) M rq cq pv so st gs gm gu gl aw) → va_S A s.heap H locs → lv_has ls 3 [(2, .int (nI k)), (0, .ref (mm 0)), (1, .int (nI kx))] → W p l e ({ frames := 1, cells := 0, slots := 0, locals := 22 } : Room) s m [.ref (mm 0), .int (nI kx)].toArray below meth c H locs 0 0 (MQ below (va_Qv (fun (u : MS) => u.2.2.2.2.2.1 = nI (rs_save (nI kx)).1 ∧ ((rs_save (nI kx)).1 = 0 → ∀ v1, SAV (d, d1, d2, f1, f2, f, s0) (nI kx) v1 → RM v1 u) ∧ (¬ (rs_save (nI kx)).1 = 0 → RM (d, d1, d2, f1, f2, f, s0) u)) (fun (u : MS) t => cB D K A (WMu K mm u) t) A) [.ref (mm 0), .int (nI kx)].toArray s 0 0 A) (F0 m 27 ls []) := by
    intro fuel
    induction fuel with
    | zero =>
      intro k sl2 H locs ls hfu
      exact absurd hfu (Nat.not_lt_zero _)
    | succ fuel ih27 =>
      intro k sl2 H locs ls hfu hk hz hP hD hS hl
      refine lv_iload_n hx hb dX7_save_27 rfl (lv_at hl 0 rfl) ?_
      refine lv_bipush (v := nI 36) hx hb dX7_save_28 (by decide) ?_
      refine b_icmp_ge hx hb (nI_toIntI (by omega)) (nI_toIntI (by omega)) dX7_save_30 (tgt := 56) (by decide) (fun c30 => ?_) (fun c30 => ?_)
      · refine lv_aload_n hx hb dX7_save_56 rfl (lv_at hl 1 rfl) ?_
        refine va_get (D := D) (ci := 7) (C := RX7) (T := TX7) (N := 17) hx hb hts iX7 hown hK hP 0 rfl rfl 2 (by decide) (hts _ k_f_X7_16) (fun _ h9 => h9) rfl dX7_save_57 ?_
        refine lv_iload_n hx hb dX7_save_60 rfl (lv_at hl 2 rfl) ?_
        refine lv_iconst (v := nI 1) hx hb dX7_save_61 (by decide) ?_
        refine n_zast hx hb hK hP hD hS 3 2 rfl rfl (i := kx) (n := 2) (y := nI 1) (by decide) (by omega) (by decide) dX7_save_62 (fun H locs hP hD hS => ?_)
        have hP : va_P D vwCl (WM K mm ta sl2 (upd ss kx (nI 1)) be ch (nI 0) M rq cq pv so st gs gm gu gl aw) H := hP
        have hD : va_D A (WM K mm ta sl2 (upd ss kx (nI 1)) be ch (nI 0) M rq cq pv so st gs gm gu gl aw) := hD
        have hrs : rs_save (nI kx) = _ := ((cI_f (fun z => z hprt)).trans (rfl))
        exact W.vret hx hb hr (fun t9 ht9 hW => ⟨⟨(ta, sl2, upd ss kx (nI 1), be, ch, (nI 0), M, rq, cq, pv, so, st, gs, gm, gu, gl, aw), rfl, ⟨by rw [hrs], fun _ v1 hv1 => by
      obtain ⟨d9, d19, d29, f19, f29, f9, s09⟩ := v1
      obtain ⟨e1, e2, e3⟩ := hv1
      rw [hkxn] at e3
      dsimp only at e1 e2 e3
      subst e1
      injection e2 with e21 e22
      subst e21 e22
      rcases e3 with ⟨z, q1, q2, q3, q4⟩ | ⟨z, q1, q2, q3, q4⟩
      · have z : kx = 0 := by omega
        subst z q2 q3 q4
        exact ⟨hat, AtD_cp hat q1 (fun j hj => by show sl2 j = ta j; rw [hz j, if_pos (by omega)]; rfl), AtD_cp hat2 (EqD_rf _) (fun j hj => by show sl2 (36 + j) = sl (36 + j); rw [hz _, if_neg (by omega)]), (show upd ss 0 (nI 1) 0 = nI 1 from updSame), (show upd ss 0 (nI 1) 1 = _ from (updOther (by decide)).trans hss1), hch, hbe⟩
      · have z : kx = 1 := by omega
        subst z q1 q3 q4
        exact ⟨hat, AtD_cp hat1 (EqD_rf _) (fun j hj => by show sl2 j = sl j; rw [hz _, if_neg (by omega)]), AtD_cp hat q2 (fun j hj => by show sl2 (36 + j) = ta j; rw [hz _, if_pos (by omega), show 36 + j - 36 * 1 = j by omega]), (show upd ss 1 (nI 1) 0 = _ from (updOther (by decide)).trans hss0), (show upd ss 1 (nI 1) 1 = nI 1 from updSame), hch, hbe⟩, by rw [hrs]; exact fun h9 => absurd rfl h9⟩, by rw [ht9]; exact hP, va_K.moved hW.alike hK, hD⟩, hS.F ht9⟩) hS.2.2 dX7_save_63
      refine lv_aload_n hx hb dX7_save_33 rfl (lv_at hl 1 rfl) ?_
      refine va_get (D := D) (ci := 7) (C := RX7) (T := TX7) (N := 17) hx hb hts iX7 hown hK hP 0 rfl rfl 1 (by decide) (hts _ k_f_X7_13) (fun _ h9 => h9) rfl dX7_save_34 ?_
      refine lv_bipush (v := nI 36) hx hb dX7_save_37 (by decide) ?_
      refine lv_iload_n hx hb dX7_save_39 rfl (lv_at hl 2 rfl) ?_
      refine lv_imul hx hb dX7_save_40 ?_
      refine t_i (pk_mul _ _) ?_
      refine lv_iload_n hx hb dX7_save_41 rfl (lv_at hl 0 rfl) ?_
      refine lv_iadd hx hb dX7_save_42 ?_
      refine t_i (nI_add _ _) ?_
      refine lv_aload_n hx hb dX7_save_43 rfl (lv_at hl 1 rfl) ?_
      refine va_get (D := D) (ci := 7) (C := RX7) (T := TX7) (N := 17) hx hb hts iX7 hown hK hP 0 rfl rfl 0 (by decide) (hts _ k_f_X7_7) (fun _ h9 => h9) rfl dX7_save_44 ?_
      refine lv_iload_n hx hb dX7_save_47 rfl (lv_at hl 0 rfl) ?_
      refine n_iald hx hb hK hP 1 0 rfl rfl (i := k) (n := 36) (by omega) (by decide) dX7_save_48 ?_
      refine n_iast hx hb hK hP hD hS 2 0 rfl rfl (i := 36 * kx + k) (n := 72) (by omega) (by decide) dX7_save_49 (fun H locs hP hD hS => ?_)
      have hP : va_P D vwCl (WM K mm ta (upd sl2 (36 * kx + k) (ta k)) ss be ch (nI 0) M rq cq pv so st gs gm gu gl aw) H := hP
      have hD : va_D A (WM K mm ta (upd sl2 (36 * kx + k) (ta k)) ss be ch (nI 0) M rq cq pv so st gs gm gu gl aw) := hD
      refine lv_iinc (v := nI (k + 1)) (lv' := [(2, .int (nI (k + 1))), (0, .ref (mm 0)), (1, .int (nI kx))]) hx hb dX7_save_50 hl (k := 0) rfl (nI_add k 1) (by decide) rfl (fun ls hl => ?_)
      refine lv_goto (tgt := 27) hx hb dX7_save_53 (by decide) ?_
      exact ih27 (k + 1) (upd sl2 (36 * kx + k) (ta k)) _ _ _ (by omega) (by omega) (fun j => by
      by_cases q : j = 36 * kx + k
      · subst q; rw [updSame, if_pos (by omega), show 36 * kx + k - 36 * kx = k by omega]
      · rw [updOther q, hz j]
        by_cases q2 : 36 * kx ≤ j ∧ j < 36 * kx + k
        · rw [if_pos q2, if_pos (by omega)]
        · rw [if_neg q2, if_neg (by omega)]) hP hD hS (lv_sub hl [0, 1, 2] rfl)
  exact L27 _ 0 sl _ _ _ (Nat.lt_succ_self _) (by omega) (fun j => (if_neg (by omega)).symm) hP hD hS (lv_sub hl [0, 1, 2] rfl)
set_option maxHeartbeats 4000000 in
set_option maxRecDepth 100000 in
theorem c_X7_restore (l : Launch) (D : va_G) (K : Nat → ClassId) (mm : Nat → Nat) (v : CV) (w0 : MS) (x : Int32) (sz : Nat) (hI : IV v) (hR : RM v w0)  : Met l yX7_restore (.code yX7_restore cX7_restore 3 none :: TB) ({ frames := 1, cells := 0, slots := 0, locals := 22 } : Room) (va_Pc [.ref (mm 0), .int x] (cP D K (WMu K mm w0) sz)) (va_Qv (fun (u : MS) => u.2.2.2.2.2.1 = nI (rs_restore v x).1 ∧ ((rs_restore v x).1 = 0 → ∀ v1, RES v x v1 → RM v1 u) ∧ (¬ (rs_restore v x).1 = 0 → RM v u)) (fun (u : MS) t => cB D K (va_A (WMu K mm w0) sz) (WMu K mm u) t) (va_A (WMu K mm w0) sz)) 0 0 (va_A (WMu K mm w0) sz) := by
  refine Met.ofW (cc := cX7_restore) (maxL := 3) (ret := none) (by decide) rfl ?_
  intro p e s m args below meth c s₁ B hml hv
  obtain ⟨rfl, hsz, hP, hK, hD0⟩ := hv
  have hx := B.exec
  have hb := B.bytes
  have hr := B.returns
  have hts := hts_tl (atoms_spec (ws := (.code yX7_restore cX7_restore 3 none :: TB)) B.pre)
  have hown : s.vm.findClass RX7 = some m.cls := findClass_of_methodNamed B.named
  have hlocks := B.notSynchronized
  subst hsz
  have hD := hD0.self (sz := s.heap.size)
  generalize hAe : (va_A (WMu K mm w0) s.heap.size) = A at hD ⊢
  have hA : ∀ q : Nat, s.heap.size ≤ q → A q := fun q h => by rw [← hAe]; exact Or.inr h
  have hS : va_S A s.heap s.heap [] := va_S.rf
  clear hAe hD0
  obtain ⟨d, d1, d2, f1, f2, f, s0⟩ := v
  obtain ⟨ta, sl, ss, be, ch, th, M, rq, cq, pv, so, st, gs, gm, gu, gl, aw⟩ := w0
  obtain ⟨hd, hd1, hd2, hf1, hf2, hs20, hhf⟩ := id hI
  obtain ⟨hat, hat1, hat2, hss0, hss1, hch, hbe⟩ := id hR
  dsimp only at hd hd1 hd2 hf1 hf2 hs20 hhf hat hat1 hat2 hss0 hss1 hch hbe
  obtain ⟨n, m1, ge, hn, hm, hge, h0, h1, h2, hs9, he9⟩ := id hd
  obtain ⟨ha1, ha2, ha33, ha34, ha35⟩ := id hat
  have hp6 : 2 ^ m1 ≤ 64 := Nat.pow_le_pow_right (show 0 < 2 by decide) hm
  have h33 := ha33.trans h0
  have h34 := ha34.trans h1
  have h35 := ha35.trans h2
  have hn1 : dn d 8 0 = n := dn_of h0 (by omega)
  have hm1 : dn d 8 1 = m1 := dn_of h1 (by omega)
  have hg1 : dn d 8 2 = ge := dn_of h2 (by omega)
  have hP : va_P D vwCl (WM K mm ta sl ss be ch th M rq cq pv so st gs gm gu gl aw) s.heap := hP
  have hD : va_D A (WM K mm ta sl ss be ch th M rq cq pv so st gs gm gu gl aw) := hD
  have hl := lv_entry ([.ref (mm 0), .int x]) (n := 3) (Nat.le_of_ble_eq_true rfl)
  rw [lg_entry_eq]
  generalize (lg_sl ([.ref (mm 0), .int x]) ++ List.replicate (3 - (lg_sl ([.ref (mm 0), .int x])).length) Slot.unset).toArray = ls at hl ⊢
  have hl : lv_has ls 3 [(0, .ref (mm 0)), (1, .int x)] := hl
  refine lv_aload_n hx hb dX7_restore_0 rfl (lv_at hl 0 rfl) ?_
  refine lv_iload_n hx hb dX7_restore_1 rfl (lv_at hl 1 rfl) ?_
  refine lv_iconst (v := nI 0) hx hb dX7_restore_2 (by decide) ?_
  refine lv_iconst (v := nI 1) hx hb dX7_restore_3 (by decide) ?_
  refine va_calli (va_runS (As := [.int x, .int (nI 0), .int (nI 1)]) (rest := [.ref (mm 0)]) ⟨hx, hb, hml, hown, hts⟩ (c_X7_in l x (nI 0) (nI 1) ) (va_cwS 3 hts (TB_S k_m_X7_49 k_st_X7_in k_in_X7 k_co_X7_in (fun _ h => h)) rfl rfl rfl (by decide +kernel) ⟨Nat.le_of_ble_eq_true rfl, Nat.le_of_ble_eq_true rfl⟩) ⟨tP_blind, tP_of⟩ rfl rfl hl.1 rfl (lv_room (Nat.le_of_ble_eq_true rfl)) dX7_restore_4 ⟨Nat.le_of_ble_eq_true rfl, Nat.le_of_ble_eq_true rfl⟩) hS (fun q _ h => absurd h id) (fun q h => absurd h id) (fun zi u9 t9 H locs ht9 hvm hw hB hz1 hk1 hS => ?_)
  have hP := P_same hP hk1
  have hw := hw.trans (bI_iff (show _ ↔ prt x by rw [prt_iff, nI_toIntI (by omega), nI_toIntI (by omega)]; omega))
  by_cases hprt : prt x
  rotate_left
  · refine t_i (hw.trans (bI_f hprt).symm) ?_
    refine b_if_ne hx hb (nI_toIntI (by omega)) dX7_restore_7 (tgt := 14) (by decide) (fun c7 => absurd c7 (by omega)) (fun c7 => ?_)
    refine lv_iconst (v := nI 1) hx hb dX7_restore_10 (by decide) ?_
    refine lv_goto (tgt := 28) hx hb dX7_restore_11 (by decide) ?_
    refine va_put (D := D) (ci := 7) (v := .int (nI 1)) (ty := .int) (C := RX7) (T := TX7) (N := 17) hx hb hts iX7 tyX7 tyX7_ok nmX7 hown hK hP hD hS 0 rfl rfl 5 (by decide) (hts _ k_f_X7_45) (fun _ h9 => h9) rfl (by decide +kernel) rfl rfl (Nat.le_of_ble_eq_true rfl) dX7_restore_28 (fun H locs hP hD hS => ?_)
    have hP : va_P D vwCl (WM K mm ta sl ss be ch (nI 1) M rq cq pv so st gs gm gu gl aw) H := hP
    have hD : va_D A (WM K mm ta sl ss be ch (nI 1) M rq cq pv so st gs gm gu gl aw) := hD
    refine lv_aload_n hx hb dX7_restore_31 rfl (lv_at hl 0 rfl) ?_
    refine va_get (D := D) (ci := 7) (C := RX7) (T := TX7) (N := 17) hx hb hts iX7 hown hK hP 0 rfl rfl 5 (by decide) (hts _ k_f_X7_45) (fun _ h9 => h9) rfl dX7_restore_32 ?_
    refine b_if_ne hx hb (nI_toIntI (by omega)) dX7_restore_35 (tgt := 74) (by decide) (fun c35 => ?_) (fun c35 => absurd c35 (by omega))
    have hrs : rs_restore (d, d1, d2, f1, f2, f, s0) x = _ := (cI_t (hprt))
    exact W.vret hx hb hr (fun t9 ht9 hW => ⟨⟨(ta, sl, ss, be, ch, (nI 1), M, rq, cq, pv, so, st, gs, gm, gu, gl, aw), rfl, ⟨by rw [hrs], by rw [hrs]; exact fun h9 => absurd h9 (by decide), fun _ => hR⟩, by rw [ht9]; exact hP, va_K.moved hW.alike hK, hD⟩, hS.F ht9⟩) hS.2.2 dX7_restore_74
  refine t_i (hw.trans (bI_t hprt).symm) ?_
  obtain ⟨kx, hkx, rfl⟩ := id hprt
  have hkxn : (nI kx).toInt = kx := nI_toIntI (by omega)
  refine b_if_ne hx hb (nI_toIntI (by omega)) dX7_restore_7 (tgt := 14) (by decide) (fun c7 => ?_) (fun c7 => absurd c7 (by omega))
  refine lv_aload_n hx hb dX7_restore_14 rfl (lv_at hl 0 rfl) ?_
  refine va_get (D := D) (ci := 7) (C := RX7) (T := TX7) (N := 17) hx hb hts iX7 hown hK hP 0 rfl rfl 2 (by decide) (hts _ k_f_X7_16) (fun _ h9 => h9) rfl dX7_restore_15 ?_
  refine lv_iload_n hx hb dX7_restore_18 rfl (lv_at hl 1 rfl) ?_
  refine n_zald hx hb hK hP 3 2 rfl rfl (i := kx) (n := 2) (by omega) (by decide) dX7_restore_19 ?_
  refine b_if_ne hx hb rfl dX7_restore_20 (tgt := 27) (by decide) (fun c20 => ?_) (fun c20 => ?_)
  · refine lv_iconst (v := nI 0) hx hb dX7_restore_27 (by decide) ?_
    refine va_put (D := D) (ci := 7) (v := .int (nI 0)) (ty := .int) (C := RX7) (T := TX7) (N := 17) hx hb hts iX7 tyX7 tyX7_ok nmX7 hown hK hP hD hS 0 rfl rfl 5 (by decide) (hts _ k_f_X7_45) (fun _ h9 => h9) rfl (by decide +kernel) rfl rfl (Nat.le_of_ble_eq_true rfl) dX7_restore_28 (fun H locs hP hD hS => ?_)
    have hP : va_P D vwCl (WM K mm ta sl ss be ch (nI 0) M rq cq pv so st gs gm gu gl aw) H := hP
    have hD : va_D A (WM K mm ta sl ss be ch (nI 0) M rq cq pv so st gs gm gu gl aw) := hD
    refine lv_aload_n hx hb dX7_restore_31 rfl (lv_at hl 0 rfl) ?_
    refine va_get (D := D) (ci := 7) (C := RX7) (T := TX7) (N := 17) hx hb hts iX7 hown hK hP 0 rfl rfl 5 (by decide) (hts _ k_f_X7_45) (fun _ h9 => h9) rfl dX7_restore_32 ?_
    refine b_if_ne hx hb (nI_toIntI (by omega)) dX7_restore_35 (tgt := 74) (by decide) (fun c35 => absurd c35 (by omega)) (fun c35 => ?_)
    refine lv_iconst (v := nI 0) hx hb dX7_restore_38 (by decide) ?_
    refine lv_istore_n (lv' := [(2, .int (nI 0)), (0, .ref (mm 0)), (1, .int (nI kx))]) hx hb dX7_restore_39 rfl hl (by decide) rfl (fun ls hl => ?_)
    have L40 : ∀ (fuel : Nat) (k : Nat) (ta2 : Nat → Int32) (H : Heap) (locs : List Loc) (ls : Array Slot), 36 - k < fuel → (k ≤ 36) → (∀ j, ta2 j = if j < k then sl (36 * kx + j) else ta j) → va_P D vwCl (WM K mm ta2 sl ss be ch (nI 0) M rq cq pv so st gs gm gu gl aw) H → va_D A (WM K mm ta2 sl ss be ch (nI 0) M rq cq pv so st gs gm gu gl aw) → va_S A s.heap H locs → lv_has ls 3 [(2, .int (nI k)), (0, .ref (mm 0)), (1, .int (nI kx))] → W p l e ({ frames := 1, cells := 0, slots := 0, locals := 22 } : Room) s m [.ref (mm 0), .int (nI kx)].toArray below meth c H locs 0 0 (MQ below (va_Qv (fun (u : MS) => u.2.2.2.2.2.1 = nI (rs_restore (d, d1, d2, f1, f2, f, s0) (nI kx)).1 ∧ ((rs_restore (d, d1, d2, f1, f2, f, s0) (nI kx)).1 = 0 → ∀ v1, RES (d, d1, d2, f1, f2, f, s0) (nI kx) v1 → RM v1 u) ∧ (¬ (rs_restore (d, d1, d2, f1, f2, f, s0) (nI kx)).1 = 0 → RM (d, d1, d2, f1, f2, f, s0) u)) (fun (u : MS) t => cB D K A (WMu K mm u) t) A) [.ref (mm 0), .int (nI kx)].toArray s 0 0 A) (F0 m 40 ls []) := by
      intro fuel
      induction fuel with
      | zero =>
        intro k ta2 H locs ls hfu
        exact absurd hfu (Nat.not_lt_zero _)
      | succ fuel ih40 =>
        intro k ta2 H locs ls hfu hk hz hP hD hS hl
        refine lv_iload_n hx hb dX7_restore_40 rfl (lv_at hl 0 rfl) ?_
        refine lv_bipush (v := nI 36) hx hb dX7_restore_41 (by decide) ?_
        refine b_icmp_ge hx hb (nI_toIntI (by omega)) (nI_toIntI (by omega)) dX7_restore_43 (tgt := 69) (by decide) (fun c43 => ?_) (fun c43 => ?_)
        · refine lv_aload_n hx hb dX7_restore_69 rfl (lv_at hl 1 rfl) ?_
          refine lv_iconst (v := nI 0) hx hb dX7_restore_70 (by decide) ?_
          refine va_put (D := D) (ci := 7) (v := .int (nI 0)) (ty := .int) (C := RX7) (T := TX7) (N := 17) hx hb hts iX7 tyX7 tyX7_ok nmX7 hown hK hP hD hS 0 rfl rfl 4 (by decide) (hts _ k_f_X7_70) (fun _ h9 => h9) rfl (by decide +kernel) rfl rfl (Nat.le_of_ble_eq_true rfl) dX7_restore_71 (fun H locs hP hD hS => ?_)
          have hP : va_P D vwCl (WM K mm ta2 sl ss be (nI 0) (nI 0) M rq cq pv so st gs gm gu gl aw) H := hP
          have hD : va_D A (WM K mm ta2 sl ss be (nI 0) (nI 0) M rq cq pv so st gs gm gu gl aw) := hD
          have hrs : rs_restore (d, d1, d2, f1, f2, f, s0) (nI kx) = _ := ((cI_f (fun z => z hprt)).trans ((cI_f (by
      rw [hkxn]
      dsimp only
      have hc : kx = 0 ∨ kx = 1 := by omega
      rcases hc with rfl | rfl
      · rw [hss0] at c20
        exact fun z => by rcases z with ⟨z1, z2⟩ | ⟨z1, z2⟩ <;> first | omega | exact absurd (f0_iff.mp z2) (by omega)
      · rw [hss1] at c20
        exact fun z => by rcases z with ⟨z1, z2⟩ | ⟨z1, z2⟩ <;> first | omega | exact absurd (f0_iff.mp z2) (by omega))).trans (rfl)))
          exact W.vret hx hb hr (fun t9 ht9 hW => ⟨⟨(ta2, sl, ss, be, (nI 0), (nI 0), M, rq, cq, pv, so, st, gs, gm, gu, gl, aw), rfl, ⟨by rw [hrs], fun _ v1 hv1 => by
      obtain ⟨d9, d19, d29, f19, f29, f9, s09⟩ := v1
      obtain ⟨e1, e2, e3, e4, e5, e6⟩ := hv1
      rw [hkxn] at e6
      dsimp only at e1 e2 e3 e4 e5 e6
      subst e1 e2 e3 e4 e5
      rcases e6 with ⟨z, q⟩ | ⟨z, q⟩
      · have z : kx = 0 := by omega
        subst z
        exact ⟨AtD_cp hat1 q (fun j hj => by show ta2 j = sl j; rw [hz j, if_pos (by omega), show 36 * 0 + j = j by omega]), hat1, hat2, hss0, hss1, rfl, fun j hj => absurd hj (Nat.not_lt_zero j)⟩
      · have z : kx = 1 := by omega
        subst z
        exact ⟨AtD_cp hat2 q (fun j hj => by show ta2 j = sl (36 + j); rw [hz j, if_pos (by omega)]), hat1, hat2, hss0, hss1, rfl, fun j hj => absurd hj (Nat.not_lt_zero j)⟩, by rw [hrs]; exact fun h9 => absurd rfl h9⟩, by rw [ht9]; exact hP, va_K.moved hW.alike hK, hD⟩, hS.F ht9⟩) hS.2.2 dX7_restore_74
        refine lv_aload_n hx hb dX7_restore_46 rfl (lv_at hl 1 rfl) ?_
        refine va_get (D := D) (ci := 7) (C := RX7) (T := TX7) (N := 17) hx hb hts iX7 hown hK hP 0 rfl rfl 0 (by decide) (hts _ k_f_X7_7) (fun _ h9 => h9) rfl dX7_restore_47 ?_
        refine lv_iload_n hx hb dX7_restore_50 rfl (lv_at hl 0 rfl) ?_
        refine lv_aload_n hx hb dX7_restore_51 rfl (lv_at hl 1 rfl) ?_
        refine va_get (D := D) (ci := 7) (C := RX7) (T := TX7) (N := 17) hx hb hts iX7 hown hK hP 0 rfl rfl 1 (by decide) (hts _ k_f_X7_13) (fun _ h9 => h9) rfl dX7_restore_52 ?_
        refine lv_bipush (v := nI 36) hx hb dX7_restore_55 (by decide) ?_
        refine lv_iload_n hx hb dX7_restore_57 rfl (lv_at hl 2 rfl) ?_
        refine lv_imul hx hb dX7_restore_58 ?_
        refine t_i (pk_mul _ _) ?_
        refine lv_iload_n hx hb dX7_restore_59 rfl (lv_at hl 0 rfl) ?_
        refine lv_iadd hx hb dX7_restore_60 ?_
        refine t_i (nI_add _ _) ?_
        refine n_iald hx hb hK hP 2 0 rfl rfl (i := 36 * kx + k) (n := 72) (by omega) (by decide) dX7_restore_61 ?_
        refine n_iast hx hb hK hP hD hS 1 0 rfl rfl (i := k) (n := 36) (by omega) (by decide) dX7_restore_62 (fun H locs hP hD hS => ?_)
        have hP : va_P D vwCl (WM K mm (upd ta2 k (sl (36 * kx + k))) sl ss be ch (nI 0) M rq cq pv so st gs gm gu gl aw) H := hP
        have hD : va_D A (WM K mm (upd ta2 k (sl (36 * kx + k))) sl ss be ch (nI 0) M rq cq pv so st gs gm gu gl aw) := hD
        refine lv_iinc (v := nI (k + 1)) (lv' := [(2, .int (nI (k + 1))), (0, .ref (mm 0)), (1, .int (nI kx))]) hx hb dX7_restore_63 hl (k := 0) rfl (nI_add k 1) (by decide) rfl (fun ls hl => ?_)
        refine lv_goto (tgt := 40) hx hb dX7_restore_66 (by decide) ?_
        exact ih40 (k + 1) (upd ta2 k (sl (36 * kx + k))) _ _ _ (by omega) (by omega) (fun j => by
      by_cases q : j = k
      · subst q; rw [updSame, if_pos (by omega)]
      · rw [updOther q, hz j]
        by_cases q2 : j < k
        · rw [if_pos q2, if_pos (by omega)]
        · rw [if_neg q2, if_neg (by omega)]) hP hD hS (lv_sub hl [0, 1, 2] rfl)
    exact L40 _ 0 ta _ _ _ (Nat.lt_succ_self _) (by omega) (fun j => (if_neg (by omega)).symm) hP hD hS (lv_sub hl [0, 1, 2] rfl)
  refine lv_iconst (v := nI 2) hx hb dX7_restore_23 (by decide) ?_
  refine lv_goto (tgt := 28) hx hb dX7_restore_24 (by decide) ?_
  refine va_put (D := D) (ci := 7) (v := .int (nI 2)) (ty := .int) (C := RX7) (T := TX7) (N := 17) hx hb hts iX7 tyX7 tyX7_ok nmX7 hown hK hP hD hS 0 rfl rfl 5 (by decide) (hts _ k_f_X7_45) (fun _ h9 => h9) rfl (by decide +kernel) rfl rfl (Nat.le_of_ble_eq_true rfl) dX7_restore_28 (fun H locs hP hD hS => ?_)
  have hP : va_P D vwCl (WM K mm ta sl ss be ch (nI 2) M rq cq pv so st gs gm gu gl aw) H := hP
  have hD : va_D A (WM K mm ta sl ss be ch (nI 2) M rq cq pv so st gs gm gu gl aw) := hD
  refine lv_aload_n hx hb dX7_restore_31 rfl (lv_at hl 0 rfl) ?_
  refine va_get (D := D) (ci := 7) (C := RX7) (T := TX7) (N := 17) hx hb hts iX7 hown hK hP 0 rfl rfl 5 (by decide) (hts _ k_f_X7_45) (fun _ h9 => h9) rfl dX7_restore_32 ?_
  refine b_if_ne hx hb (nI_toIntI (by omega)) dX7_restore_35 (tgt := 74) (by decide) (fun c35 => ?_) (fun c35 => absurd c35 (by omega))
  have hrs : rs_restore (d, d1, d2, f1, f2, f, s0) (nI kx) = _ := ((cI_f (fun z => z hprt)).trans (cI_t (by
      rw [hkxn]
      dsimp only
      have hc : kx = 0 ∨ kx = 1 := by omega
      rcases hc with rfl | rfl
      · rw [hss0] at c20
        exact Or.inl ⟨by omega, f0_iff.mpr (by omega)⟩
      · rw [hss1] at c20
        exact Or.inr ⟨by omega, f0_iff.mpr (by omega)⟩)))
  exact W.vret hx hb hr (fun t9 ht9 hW => ⟨⟨(ta, sl, ss, be, ch, (nI 2), M, rq, cq, pv, so, st, gs, gm, gu, gl, aw), rfl, ⟨by rw [hrs], by rw [hrs]; exact fun h9 => absurd h9 (by decide), fun _ => hR⟩, by rw [ht9]; exact hP, va_K.moved hW.alike hK, hD⟩, hS.F ht9⟩) hS.2.2 dX7_restore_74
