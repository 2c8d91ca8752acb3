/-! PlanetaryGearboxModel: elements -/
theorem AtD_dE {ta : Nat → Int32} {d : Nat → Nat → Int32} {m : Nat} {a b : Int32} (h : AtD ta d) (hm : m < 6) : AtD (upd (upd (upd (upd ta (15 + m) a) (21 + m) b) (27 + m) (nI 1000)) 34 (nI (m + 1))) (dE d m a b) := by
  obtain ⟨h1, h2, h3, h4, h5⟩ := h
  refine ⟨fun k j hk hj => ?_, fun e he => ?_, ?_, updSame, ?_⟩
  · rw [updOther (by omega), updOther (by omega), updOther (by omega), updOther (by omega), h1 k j hk hj]
    have : j = 0 ∨ j = 1 ∨ j = 2 ∨ j = 3 ∨ j = 4 := by omega
    rcases this with rfl | rfl | rfl | rfl | rfl <;> rfl
  · obtain ⟨g1, g2, g3⟩ := h2 e he
    by_cases q : e = m
    · subst q
      refine ⟨?_, ?_, ?_⟩
      · rw [updOther (by omega), updOther (by omega), updOther (by omega), updSame]; exact updSame.symm
      · rw [updOther (by omega), updOther (by omega), updSame]; exact updSame.symm
      · rw [updOther (by omega), updSame]; exact updSame.symm
    · refine ⟨?_, ?_, ?_⟩
      · rw [updOther (by omega), updOther (by omega), updOther (by omega), updOther (by omega), g1]; exact (updOther q).symm
      · rw [updOther (by omega), updOther (by omega), updOther (by omega), updOther (by omega), g2]; exact (updOther q).symm
      · rw [updOther (by omega), updOther (by omega), updOther (by omega), updOther (by omega), g3]; exact (updOther q).symm
  · rw [updOther (by omega), updOther (by omega), updOther (by omega), updOther (by omega)]; exact h3
  · rw [updOther (by omega), updOther (by omega), updOther (by omega), updOther (by omega)]; exact h5
set_option maxHeartbeats 4000000 in
set_option maxRecDepth 100000 in
theorem c_X7_addElement (l : Launch) (D : va_G) (K : Nat → ClassId) (mm : Nat → Nat) (ta : Nat → Int32) (sl : Nat → Int32) (ss : Nat → Int32) (be : Nat → Int32) (ch : Int32) (th : Int32) (M : Nat → Nat → Int64) (rq : Int32) (cq : Int32) (pv : Nat → Int32) (so : Int32) (st : Nat → Int32) (gs : Int32) (gm : Nat → Int32) (gu : Nat → Int64) (gl : Nat → Int64) (aw : Nat → Int32) (m1 : Nat) (xa xb : Int32) (sz : Nat) (hm : m1 < 6) (h34 : ta 34 = nI m1) : Met l yX7_addElement (.code yX7_addElement cX7_addElement 4 (some .int) :: TB) ({ frames := 0, cells := 0, slots := 0, locals := 0 } : Room) (va_Pc [.ref (mm 0), .int xa, .int xb] (cP D K (WM K mm ta sl ss be ch th M rq cq pv so st gs gm gu gl aw) sz)) (va_Qi (fun (z : Int32) (_ : Unit) => z = nI m1) (fun (u : Unit) t => cB D K (va_A (WM K mm ta sl ss be ch th M rq cq pv so st gs gm gu gl aw) sz) (WM K mm (upd (upd (upd (upd ta (15 + m1) xa) (21 + m1) xb) (27 + m1) (nI 1000)) 34 (nI (m1 + 1))) sl ss be ch th M rq cq pv so st gs gm gu gl aw) t) (va_A (WM K mm ta sl ss be ch th M rq cq pv so st gs gm gu gl aw) sz)) 0 0 (va_A (WM K mm ta sl ss be ch th M rq cq pv so st gs gm gu gl aw) sz) := by
  refine Met.ofW (cc := cX7_addElement) (maxL := 4) (ret := (some .int)) (by decide) rfl ?_
  intro p e s m args below meth c s₁ B hml hv
  obtain ⟨rfl, hsz, hP, hK, hD0⟩ := hv
  have hx := B.exec
  have hb := B.bytes
  have hr := B.returns
  have hts := hts_tl (atoms_spec (ws := (.code yX7_addElement cX7_addElement 4 (some .int) :: TB)) B.pre)
  have hown : s.vm.findClass RX7 = some m.cls := findClass_of_methodNamed B.named
  have hlocks := B.notSynchronized
  subst hsz
  have hD := hD0.self (sz := s.heap.size)
  generalize hAe : (va_A (WM K mm ta sl ss be ch th M rq cq pv so st gs gm gu gl aw) s.heap.size) = A at hD ⊢
  have hA : ∀ q : Nat, s.heap.size ≤ q → A q := fun q h => by rw [← hAe]; exact Or.inr h
  have hS : va_S A s.heap s.heap [] := va_S.rf
  have hl := lv_entry ([.ref (mm 0), .int xa, .int xb]) (n := 4) (Nat.le_of_ble_eq_true rfl)
  rw [lg_entry_eq]
  generalize (lg_sl ([.ref (mm 0), .int xa, .int xb]) ++ List.replicate (4 - (lg_sl ([.ref (mm 0), .int xa, .int xb])).length) Slot.unset).toArray = ls at hl ⊢
  have hl : lv_has ls 4 [(0, .ref (mm 0)), (1, .int xa), (2, .int xb)] := hl
  refine lv_aload_n hx hb dX7_addElement_0 rfl (lv_at hl 0 rfl) ?_
  refine va_get (D := D) (ci := 7) (C := RX7) (T := TX7) (N := 17) hx hb hts iX7 hown hK hP 0 rfl rfl 0 (by decide) (hts _ k_f_X7_7) (fun _ h9 => h9) rfl dX7_addElement_1 ?_
  refine lv_bipush (v := nI 34) hx hb dX7_addElement_4 (by decide) ?_
  refine n_iald hx hb hK hP 1 0 rfl rfl (i := 34) (n := 36) (by omega) (by decide) dX7_addElement_6 ?_
  refine t_i (show _ = nI m1 from h34) ?_
  refine lv_istore_n (lv' := [(3, .int (nI m1)), (0, .ref (mm 0)), (1, .int xa), (2, .int xb)]) hx hb dX7_addElement_7 rfl hl (by decide) rfl (fun ls hl => ?_)
  refine lv_aload_n hx hb dX7_addElement_8 rfl (lv_at hl 1 rfl) ?_
  refine va_get (D := D) (ci := 7) (C := RX7) (T := TX7) (N := 17) hx hb hts iX7 hown hK hP 0 rfl rfl 0 (by decide) (hts _ k_f_X7_7) (fun _ h9 => h9) rfl dX7_addElement_9 ?_
  refine lv_bipush (v := nI 15) hx hb dX7_addElement_12 (by decide) ?_
  refine lv_iload_n hx hb dX7_addElement_14 rfl (lv_at hl 0 rfl) ?_
  refine lv_iadd hx hb dX7_addElement_15 ?_
  refine t_i (nI_add _ _) ?_
  refine lv_iload_n hx hb dX7_addElement_16 rfl (lv_at hl 2 rfl) ?_
  refine n_iast hx hb hK hP hD hS 1 0 rfl rfl (i := 15 + m1) (n := 36) (by omega) (by decide) dX7_addElement_17 (fun H locs hP hD hS => ?_)
  have hP : va_P D vwCl (WM K mm (upd ta (15 + m1) xa) sl ss be ch th M rq cq pv so st gs gm gu gl aw) H := hP
  have hD : va_D A (WM K mm (upd ta (15 + m1) xa) sl ss be ch th M rq cq pv so st gs gm gu gl aw) := hD
  refine lv_aload_n hx hb dX7_addElement_18 rfl (lv_at hl 1 rfl) ?_
  refine va_get (D := D) (ci := 7) (C := RX7) (T := TX7) (N := 17) hx hb hts iX7 hown hK hP 0 rfl rfl 0 (by decide) (hts _ k_f_X7_7) (fun _ h9 => h9) rfl dX7_addElement_19 ?_
  refine lv_bipush (v := nI 21) hx hb dX7_addElement_22 (by decide) ?_
  refine lv_iload_n hx hb dX7_addElement_24 rfl (lv_at hl 0 rfl) ?_
  refine lv_iadd hx hb dX7_addElement_25 ?_
  refine t_i (nI_add _ _) ?_
  refine lv_iload_n hx hb dX7_addElement_26 rfl (lv_at hl 3 rfl) ?_
  refine n_iast hx hb hK hP hD hS 1 0 rfl rfl (i := 21 + m1) (n := 36) (by omega) (by decide) dX7_addElement_27 (fun H locs hP hD hS => ?_)
  have hP : va_P D vwCl (WM K mm (upd (upd ta (15 + m1) xa) (21 + m1) xb) sl ss be ch th M rq cq pv so st gs gm gu gl aw) H := hP
  have hD : va_D A (WM K mm (upd (upd ta (15 + m1) xa) (21 + m1) xb) sl ss be ch th M rq cq pv so st gs gm gu gl aw) := hD
  refine lv_aload_n hx hb dX7_addElement_28 rfl (lv_at hl 1 rfl) ?_
  refine va_get (D := D) (ci := 7) (C := RX7) (T := TX7) (N := 17) hx hb hts iX7 hown hK hP 0 rfl rfl 0 (by decide) (hts _ k_f_X7_7) (fun _ h9 => h9) rfl dX7_addElement_29 ?_
  refine lv_bipush (v := nI 27) hx hb dX7_addElement_32 (by decide) ?_
  refine lv_iload_n hx hb dX7_addElement_34 rfl (lv_at hl 0 rfl) ?_
  refine lv_iadd hx hb dX7_addElement_35 ?_
  refine t_i (nI_add _ _) ?_
  refine lv_sipush (v := nI 1000) hx hb dX7_addElement_36 (by decide) ?_
  refine n_iast hx hb hK hP hD hS 1 0 rfl rfl (i := 27 + m1) (n := 36) (by omega) (by decide) dX7_addElement_39 (fun H locs hP hD hS => ?_)
  have hP : va_P D vwCl (WM K mm (upd (upd (upd ta (15 + m1) xa) (21 + m1) xb) (27 + m1) (nI 1000)) sl ss be ch th M rq cq pv so st gs gm gu gl aw) H := hP
  have hD : va_D A (WM K mm (upd (upd (upd ta (15 + m1) xa) (21 + m1) xb) (27 + m1) (nI 1000)) sl ss be ch th M rq cq pv so st gs gm gu gl aw) := hD
  refine lv_aload_n hx hb dX7_addElement_40 rfl (lv_at hl 1 rfl) ?_
  refine va_get (D := D) (ci := 7) (C := RX7) (T := TX7) (N := 17) hx hb hts iX7 hown hK hP 0 rfl rfl 0 (by decide) (hts _ k_f_X7_7) (fun _ h9 => h9) rfl dX7_addElement_41 ?_
  refine lv_bipush (v := nI 34) hx hb dX7_addElement_44 (by decide) ?_
  refine lv_dup2_11 hx hb dX7_addElement_46 rfl rfl ?_
  refine n_iald hx hb hK hP 1 0 rfl rfl (i := 34) (n := 36) (by omega) (by decide) dX7_addElement_47 ?_
  refine t_i (show _ = nI m1 from (by rw [updOther (by omega), updOther (by omega), updOther (by omega)]; exact h34)) ?_
  refine lv_iconst (v := nI 1) hx hb dX7_addElement_48 (by decide) ?_
  refine lv_iadd hx hb dX7_addElement_49 ?_
  refine t_i (nI_add _ _) ?_
  refine n_iast hx hb hK hP hD hS 1 0 rfl rfl (i := 34) (n := 36) (by omega) (by decide) dX7_addElement_50 (fun H locs hP hD hS => ?_)
  have hP : va_P D vwCl (WM K mm (upd (upd (upd (upd ta (15 + m1) xa) (21 + m1) xb) (27 + m1) (nI 1000)) 34 (nI (m1 + 1))) sl ss be ch th M rq cq pv so st gs gm gu gl aw) H := hP
  have hD : va_D A (WM K mm (upd (upd (upd (upd ta (15 + m1) xa) (21 + m1) xb) (27 + m1) (nI 1000)) 34 (nI (m1 + 1))) sl ss be ch th M rq cq pv so st gs gm gu gl aw) := hD
  refine lv_iload_n hx hb dX7_addElement_51 rfl (lv_at hl 0 rfl) ?_
  exact W.iret (v := nI m1) hx hb hr (fun t9 ht9 hW => ⟨⟨nI m1, (), rfl, rfl, by rw [ht9]; exact hP, va_K.moved hW.alike hK, hD⟩, hS.F ht9⟩) hS.2.2 dX7_addElement_52
set_option maxHeartbeats 4000000 in
set_option maxRecDepth 100000 in
theorem c_X7_addBrake (l : Launch) (D : va_G) (K : Nat → ClassId) (mm : Nat → Nat) (v : CV) (w0 : MS) (xa : Int32) (sz : Nat) (hI : IV v) (hR : RM v w0)  : Met l yX7_addBrake (.code yX7_addBrake cX7_addBrake 2 (some .int) :: TB) ({ frames := 2, cells := 0, slots := 0, locals := 42 } : Room) (va_Pc [.ref (mm 0), .int xa] (cP D K (WMu K mm w0) sz)) (va_Qi (fun (z : Int32) (u : MS) => u.2.2.2.2.2.1 = nI (rs_addBrake v.1 xa).1 ∧ ((rs_addBrake v.1 xa).1 = 0 → z.toInt = (rs_addBrake v.1 xa).2 ∧ RM (dE v.1 (dn v.1 8 1) xa (-1), v.2) u) ∧ (¬ (rs_addBrake v.1 xa).1 = 0 → RM v u)) (fun (u : MS) t => cB D K (va_A (WMu K mm w0) sz) (WMu K mm u) t) (va_A (WMu K mm w0) sz)) 0 0 (va_A (WMu K mm w0) sz) := by
  refine Met.ofW (cc := cX7_addBrake) (maxL := 2) (ret := (some .int)) (by decide) rfl ?_
  intro p e s m args below meth c s₁ B hml hv
  obtain ⟨rfl, hsz, hP, hK, hD0⟩ := hv
  have hx := B.exec
  have hb := B.bytes
  have hr := B.returns
  have hts := hts_tl (atoms_spec (ws := (.code yX7_addBrake cX7_addBrake 2 (some .int) :: TB)) B.pre)
  have hown : s.vm.findClass RX7 = some m.cls := findClass_of_methodNamed B.named
  have hlocks := B.notSynchronized
  subst hsz
  have hD := hD0.self (sz := s.heap.size)
  generalize hAe : (va_A (WMu K mm w0) s.heap.size) = A at hD ⊢
  have hA : ∀ q : Nat, s.heap.size ≤ q → A q := fun q h => by rw [← hAe]; exact Or.inr h
  have hS : va_S A s.heap s.heap [] := va_S.rf
  clear hAe hD0
  obtain ⟨d, d1, d2, f1, f2, f, s0⟩ := v
  obtain ⟨ta, sl, ss, be, ch, th, M, rq, cq, pv, so, st, gs, gm, gu, gl, aw⟩ := w0
  obtain ⟨hd, hd1, hd2, hf1, hf2, hs20, hhf⟩ := id hI
  obtain ⟨hat, hat1, hat2, hss0, hss1, hch, hbe⟩ := id hR
  dsimp only at hd hd1 hd2 hf1 hf2 hs20 hhf hat hat1 hat2 hss0 hss1 hch hbe
  obtain ⟨n, m1, ge, hn, hm, hge, h0, h1, h2, hs9, he9⟩ := id hd
  obtain ⟨ha1, ha2, ha33, ha34, ha35⟩ := id hat
  have hp6 : 2 ^ m1 ≤ 64 := Nat.pow_le_pow_right (show 0 < 2 by decide) hm
  have h33 := ha33.trans h0
  have h34 := ha34.trans h1
  have h35 := ha35.trans h2
  have hn1 : dn d 8 0 = n := dn_of h0 (by omega)
  have hm1 : dn d 8 1 = m1 := dn_of h1 (by omega)
  have hg1 : dn d 8 2 = ge := dn_of h2 (by omega)
  have hP : va_P D vwCl (WM K mm ta sl ss be ch th M rq cq pv so st gs gm gu gl aw) s.heap := hP
  have hD : va_D A (WM K mm ta sl ss be ch th M rq cq pv so st gs gm gu gl aw) := hD
  have hl := lv_entry ([.ref (mm 0), .int xa]) (n := 2) (Nat.le_of_ble_eq_true rfl)
  rw [lg_entry_eq]
  generalize (lg_sl ([.ref (mm 0), .int xa]) ++ List.replicate (2 - (lg_sl ([.ref (mm 0), .int xa])).length) Slot.unset).toArray = ls at hl ⊢
  have hl : lv_has ls 2 [(0, .ref (mm 0)), (1, .int xa)] := hl
  refine lv_aload_n hx hb dX7_addBrake_0 rfl (lv_at hl 0 rfl) ?_
  refine lv_iload_n hx hb dX7_addBrake_1 rfl (lv_at hl 1 rfl) ?_
  refine va_calli (va_runS (As := [.int xa]) (rest := [.ref (mm 0)]) ⟨hx, hb, hml, hown, hts⟩ (c_X7_isShaft l xa ) (va_cwS 1 hts (TB_S k_m_X7_53 k_st_X7_isShaft k_in_X7 k_co_X7_isShaft (fun _ h => h)) rfl rfl rfl (by decide +kernel) ⟨Nat.le_of_ble_eq_true rfl, Nat.le_of_ble_eq_true rfl⟩) ⟨tP_blind, tP_of⟩ rfl rfl hl.1 rfl (lv_room (Nat.le_of_ble_eq_true rfl)) dX7_addBrake_2 ⟨Nat.le_of_ble_eq_true rfl, Nat.le_of_ble_eq_true rfl⟩) hS (fun q _ h => absurd h id) (fun q h => absurd h id) (fun rs u9 t9 H locs ht9 hvm hw hB hz1 hk1 hS => ?_)
  have hP := P_same hP hk1
  by_cases hs_xa : shf xa
  rotate_left
  · refine t_i (hw.trans (bI_f hs_xa).symm) ?_
    refine b_if_ne hx hb (nI_toIntI (by omega)) dX7_addBrake_5 (tgt := 12) (by decide) (fun c5 => absurd c5 (by omega)) (fun c5 => ?_)
    refine lv_iconst (v := nI 1) hx hb dX7_addBrake_8 (by decide) ?_
    refine lv_goto (tgt := 29) hx hb dX7_addBrake_9 (by decide) ?_
    refine va_put (D := D) (ci := 7) (v := .int (nI 1)) (ty := .int) (C := RX7) (T := TX7) (N := 17) hx hb hts iX7 tyX7 tyX7_ok nmX7 hown hK hP hD hS 0 rfl rfl 5 (by decide) (hts _ k_f_X7_45) (fun _ h9 => h9) rfl (by decide +kernel) rfl rfl (Nat.le_of_ble_eq_true rfl) dX7_addBrake_29 (fun H locs hP hD hS => ?_)
    have hP : va_P D vwCl (WM K mm ta sl ss be ch (nI 1) M rq cq pv so st gs gm gu gl aw) H := hP
    have hD : va_D A (WM K mm ta sl ss be ch (nI 1) M rq cq pv so st gs gm gu gl aw) := hD
    refine lv_aload_n hx hb dX7_addBrake_32 rfl (lv_at hl 0 rfl) ?_
    refine va_get (D := D) (ci := 7) (C := RX7) (T := TX7) (N := 17) hx hb hts iX7 hown hK hP 0 rfl rfl 5 (by decide) (hts _ k_f_X7_45) (fun _ h9 => h9) rfl dX7_addBrake_33 ?_
    refine b_if_eq hx hb (nI_toIntI (by omega)) dX7_addBrake_36 (tgt := 43) (by decide) (fun c36 => absurd c36 (by omega)) (fun c36 => ?_)
    refine lv_iconst (v := nI 0) hx hb dX7_addBrake_39 (by decide) ?_
    refine lv_goto (tgt := 49) hx hb dX7_addBrake_40 (by decide) ?_
    have hrs : rs_addBrake d xa = _ := (cI_t (hs_xa))
    exact W.iret (v := nI 0) hx hb hr (fun t9 ht9 hW => ⟨⟨nI 0, (ta, sl, ss, be, ch, (nI 1), M, rq, cq, pv, so, st, gs, gm, gu, gl, aw), rfl, ⟨by rw [hrs], by rw [hrs]; exact fun h9 => absurd h9 (by decide), fun _ => hR⟩, by rw [ht9]; exact hP, va_K.moved hW.alike hK, hD⟩, hS.F ht9⟩) hS.2.2 dX7_addBrake_49
  refine t_i (hw.trans (bI_t hs_xa).symm) ?_
  refine b_if_ne hx hb (nI_toIntI (by omega)) dX7_addBrake_5 (tgt := 12) (by decide) (fun c5 => ?_) (fun c5 => absurd c5 (by omega))
  refine lv_aload_n hx hb dX7_addBrake_12 rfl (lv_at hl 0 rfl) ?_
  refine va_get (D := D) (ci := 7) (C := RX7) (T := TX7) (N := 17) hx hb hts iX7 hown hK hP 0 rfl rfl 0 (by decide) (hts _ k_f_X7_7) (fun _ h9 => h9) rfl dX7_addBrake_13 ?_
  refine lv_bipush (v := nI 34) hx hb dX7_addBrake_16 (by decide) ?_
  refine n_iald hx hb hK hP 1 0 rfl rfl (i := 34) (n := 36) (by omega) (by decide) dX7_addBrake_18 ?_
  refine t_i (show _ = nI m1 from h34) ?_
  refine lv_bipush (v := nI 6) hx hb dX7_addBrake_19 (by decide) ?_
  refine b_icmp_ne hx hb (nI_toIntI (by omega)) (nI_toIntI (by omega)) dX7_addBrake_21 (tgt := 28) (by decide) (fun c21 => ?_) (fun c21 => ?_)
  · refine lv_iconst (v := nI 0) hx hb dX7_addBrake_28 (by decide) ?_
    refine va_put (D := D) (ci := 7) (v := .int (nI 0)) (ty := .int) (C := RX7) (T := TX7) (N := 17) hx hb hts iX7 tyX7 tyX7_ok nmX7 hown hK hP hD hS 0 rfl rfl 5 (by decide) (hts _ k_f_X7_45) (fun _ h9 => h9) rfl (by decide +kernel) rfl rfl (Nat.le_of_ble_eq_true rfl) dX7_addBrake_29 (fun H locs hP hD hS => ?_)
    have hP : va_P D vwCl (WM K mm ta sl ss be ch (nI 0) M rq cq pv so st gs gm gu gl aw) H := hP
    have hD : va_D A (WM K mm ta sl ss be ch (nI 0) M rq cq pv so st gs gm gu gl aw) := hD
    refine lv_aload_n hx hb dX7_addBrake_32 rfl (lv_at hl 0 rfl) ?_
    refine va_get (D := D) (ci := 7) (C := RX7) (T := TX7) (N := 17) hx hb hts iX7 hown hK hP 0 rfl rfl 5 (by decide) (hts _ k_f_X7_45) (fun _ h9 => h9) rfl dX7_addBrake_33 ?_
    refine b_if_eq hx hb (nI_toIntI (by omega)) dX7_addBrake_36 (tgt := 43) (by decide) (fun c36 => ?_) (fun c36 => absurd c36 (by omega))
    refine lv_aload_n hx hb dX7_addBrake_43 rfl (lv_at hl 0 rfl) ?_
    refine lv_iload_n hx hb dX7_addBrake_44 rfl (lv_at hl 1 rfl) ?_
    refine lv_iconst (v := (-1)) hx hb dX7_addBrake_45 (by decide) ?_
    have hFc := freeAll hD hS hA
    refine va_calli (va_runV (As := [.int xa, .int (-1)]) (rest := []) ⟨hx, hb, hml, hown, hts⟩ (c_X7_addElement l D K mm ta sl ss be ch (nI 0) M rq cq pv so st gs gm gu gl aw m1 xa (-1) H.size (by omega) h34) (cwV 2 hts (TB_V k_m_X7_57 k_im_X7_addElement k_se_X7_addElement k_in_X7 k_co_X7_addElement (fun _ h => h)) rfl rfl rfl (by decide +kernel) ⟨Nat.le_of_ble_eq_true rfl, Nat.le_of_ble_eq_true rfl⟩) ⟨cP_blind, va_recv hK hP (ci := 7) (q0 := 0) rfl rfl, cP_of hP hK hD⟩ rfl rfl hl.1 rfl (lv_room (Nat.le_of_ble_eq_true rfl)) dX7_addBrake_46 ⟨Nat.le_of_ble_eq_true rfl, Nat.le_of_ble_eq_true rfl⟩) hS (fun q _ h => hFc q h) hFc (fun re u t9 H locs ht9 hvm hw hB hz1 hk1 hS => ?_)
    obtain ⟨hP, hK1, hD1⟩ := hB
    rw [ht9] at hP
    have hD := hD1.weaken (fun _ _ _ h => hFc _ h)
    have hP : va_P D vwCl (WM K mm (upd (upd (upd (upd ta (15 + m1) xa) (21 + m1) (-1)) (27 + m1) (nI 1000)) 34 (nI (m1 + 1))) sl ss be ch (nI 0) M rq cq pv so st gs gm gu gl aw) H := hP
    have hD : va_D A (WM K mm (upd (upd (upd (upd ta (15 + m1) xa) (21 + m1) (-1)) (27 + m1) (nI 1000)) 34 (nI (m1 + 1))) sl ss be ch (nI 0) M rq cq pv so st gs gm gu gl aw) := hD
    refine t_i hw ?_
    have hrs : rs_addBrake d xa = _ := ((cI_f (fun z => z hs_xa)).trans ((cI_f (by rw [hm1]; omega)).trans (rfl)))
    exact W.iret (v := nI m1) hx hb hr (fun t9 ht9 hW => ⟨⟨nI m1, ((upd (upd (upd (upd ta (15 + m1) xa) (21 + m1) (-1)) (27 + m1) (nI 1000)) 34 (nI (m1 + 1))), sl, ss, be, ch, (nI 0), M, rq, cq, pv, so, st, gs, gm, gu, gl, aw), rfl, ⟨by rw [hrs], by rw [hrs]; exact fun _ => ⟨by rw [hm1, nI_toIntI (by omega)], by rw [hm1]; exact ⟨AtD_dE hat (by omega), hat1, hat2, hss0, hss1, hch, hbe⟩⟩, by rw [hrs]; exact fun h9 => absurd rfl h9⟩, by rw [ht9]; exact hP, va_K.moved hW.alike hK, hD⟩, hS.F ht9⟩) hS.2.2 dX7_addBrake_49
  refine lv_iconst (v := nI 2) hx hb dX7_addBrake_24 (by decide) ?_
  refine lv_goto (tgt := 29) hx hb dX7_addBrake_25 (by decide) ?_
  refine va_put (D := D) (ci := 7) (v := .int (nI 2)) (ty := .int) (C := RX7) (T := TX7) (N := 17) hx hb hts iX7 tyX7 tyX7_ok nmX7 hown hK hP hD hS 0 rfl rfl 5 (by decide) (hts _ k_f_X7_45) (fun _ h9 => h9) rfl (by decide +kernel) rfl rfl (Nat.le_of_ble_eq_true rfl) dX7_addBrake_29 (fun H locs hP hD hS => ?_)
  have hP : va_P D vwCl (WM K mm ta sl ss be ch (nI 2) M rq cq pv so st gs gm gu gl aw) H := hP
  have hD : va_D A (WM K mm ta sl ss be ch (nI 2) M rq cq pv so st gs gm gu gl aw) := hD
  refine lv_aload_n hx hb dX7_addBrake_32 rfl (lv_at hl 0 rfl) ?_
  refine va_get (D := D) (ci := 7) (C := RX7) (T := TX7) (N := 17) hx hb hts iX7 hown hK hP 0 rfl rfl 5 (by decide) (hts _ k_f_X7_45) (fun _ h9 => h9) rfl dX7_addBrake_33 ?_
  refine b_if_eq hx hb (nI_toIntI (by omega)) dX7_addBrake_36 (tgt := 43) (by decide) (fun c36 => absurd c36 (by omega)) (fun c36 => ?_)
  refine lv_iconst (v := nI 0) hx hb dX7_addBrake_39 (by decide) ?_
  refine lv_goto (tgt := 49) hx hb dX7_addBrake_40 (by decide) ?_
  have hrs : rs_addBrake d xa = _ := ((cI_f (fun z => z hs_xa)).trans (cI_t (by rw [hm1]; omega)))
  exact W.iret (v := nI 0) hx hb hr (fun t9 ht9 hW => ⟨⟨nI 0, (ta, sl, ss, be, ch, (nI 2), M, rq, cq, pv, so, st, gs, gm, gu, gl, aw), rfl, ⟨by rw [hrs], by rw [hrs]; exact fun h9 => absurd h9 (by decide), fun _ => hR⟩, by rw [ht9]; exact hP, va_K.moved hW.alike hK, hD⟩, hS.F ht9⟩) hS.2.2 dX7_addBrake_49
set_option maxHeartbeats 4000000 in
set_option maxRecDepth 100000 in
theorem c_X7_addClutch (l : Launch) (D : va_G) (K : Nat → ClassId) (mm : Nat → Nat) (v : CV) (w0 : MS) (xa xb : Int32) (sz : Nat) (hI : IV v) (hR : RM v w0)  : Met l yX7_addClutch (.code yX7_addClutch cX7_addClutch 3 (some .int) :: TB) ({ frames := 2, cells := 0, slots := 0, locals := 42 } : Room) (va_Pc [.ref (mm 0), .int xa, .int xb] (cP D K (WMu K mm w0) sz)) (va_Qi (fun (z : Int32) (u : MS) => u.2.2.2.2.2.1 = nI (rs_addClutch v.1 xa xb).1 ∧ ((rs_addClutch v.1 xa xb).1 = 0 → z.toInt = (rs_addClutch v.1 xa xb).2 ∧ RM (dE v.1 (dn v.1 8 1) xa xb, v.2) u) ∧ (¬ (rs_addClutch v.1 xa xb).1 = 0 → RM v u)) (fun (u : MS) t => cB D K (va_A (WMu K mm w0) sz) (WMu K mm u) t) (va_A (WMu K mm w0) sz)) 0 0 (va_A (WMu K mm w0) sz) := by
  refine Met.ofW (cc := cX7_addClutch) (maxL := 3) (ret := (some .int)) (by decide) rfl ?_
  intro p e s m args below meth c s₁ B hml hv
  obtain ⟨rfl, hsz, hP, hK, hD0⟩ := hv
  have hx := B.exec
  have hb := B.bytes
  have hr := B.returns
  have hts := hts_tl (atoms_spec (ws := (.code yX7_addClutch cX7_addClutch 3 (some .int) :: TB)) B.pre)
  have hown : s.vm.findClass RX7 = some m.cls := findClass_of_methodNamed B.named
  have hlocks := B.notSynchronized
  subst hsz
  have hD := hD0.self (sz := s.heap.size)
  generalize hAe : (va_A (WMu K mm w0) s.heap.size) = A at hD ⊢
  have hA : ∀ q : Nat, s.heap.size ≤ q → A q := fun q h => by rw [← hAe]; exact Or.inr h
  have hS : va_S A s.heap s.heap [] := va_S.rf
  clear hAe hD0
  obtain ⟨d, d1, d2, f1, f2, f, s0⟩ := v
  obtain ⟨ta, sl, ss, be, ch, th, M, rq, cq, pv, so, st, gs, gm, gu, gl, aw⟩ := w0
  obtain ⟨hd, hd1, hd2, hf1, hf2, hs20, hhf⟩ := id hI
  obtain ⟨hat, hat1, hat2, hss0, hss1, hch, hbe⟩ := id hR
  dsimp only at hd hd1 hd2 hf1 hf2 hs20 hhf hat hat1 hat2 hss0 hss1 hch hbe
  obtain ⟨n, m1, ge, hn, hm, hge, h0, h1, h2, hs9, he9⟩ := id hd
  obtain ⟨ha1, ha2, ha33, ha34, ha35⟩ := id hat
  have hp6 : 2 ^ m1 ≤ 64 := Nat.pow_le_pow_right (show 0 < 2 by decide) hm
  have h33 := ha33.trans h0
  have h34 := ha34.trans h1
  have h35 := ha35.trans h2
  have hn1 : dn d 8 0 = n := dn_of h0 (by omega)
  have hm1 : dn d 8 1 = m1 := dn_of h1 (by omega)
  have hg1 : dn d 8 2 = ge := dn_of h2 (by omega)
  have hP : va_P D vwCl (WM K mm ta sl ss be ch th M rq cq pv so st gs gm gu gl aw) s.heap := hP
  have hD : va_D A (WM K mm ta sl ss be ch th M rq cq pv so st gs gm gu gl aw) := hD
  have hl := lv_entry ([.ref (mm 0), .int xa, .int xb]) (n := 3) (Nat.le_of_ble_eq_true rfl)
  rw [lg_entry_eq]
  generalize (lg_sl ([.ref (mm 0), .int xa, .int xb]) ++ List.replicate (3 - (lg_sl ([.ref (mm 0), .int xa, .int xb])).length) Slot.unset).toArray = ls at hl ⊢
  have hl : lv_has ls 3 [(0, .ref (mm 0)), (1, .int xa), (2, .int xb)] := hl
  refine lv_aload_n hx hb dX7_addClutch_0 rfl (lv_at hl 0 rfl) ?_
  refine lv_iload_n hx hb dX7_addClutch_1 rfl (lv_at hl 1 rfl) ?_
  refine va_calli (va_runS (As := [.int xa]) (rest := [.ref (mm 0)]) ⟨hx, hb, hml, hown, hts⟩ (c_X7_isShaft l xa ) (va_cwS 1 hts (TB_S k_m_X7_53 k_st_X7_isShaft k_in_X7 k_co_X7_isShaft (fun _ h => h)) rfl rfl rfl (by decide +kernel) ⟨Nat.le_of_ble_eq_true rfl, Nat.le_of_ble_eq_true rfl⟩) ⟨tP_blind, tP_of⟩ rfl rfl hl.1 rfl (lv_room (Nat.le_of_ble_eq_true rfl)) dX7_addClutch_2 ⟨Nat.le_of_ble_eq_true rfl, Nat.le_of_ble_eq_true rfl⟩) hS (fun q _ h => absurd h id) (fun q h => absurd h id) (fun rs u9 t9 H locs ht9 hvm hw hB hz1 hk1 hS => ?_)
  have hP := P_same hP hk1
  by_cases hs_xa : shf xa
  rotate_left
  · refine t_i (hw.trans (bI_f hs_xa).symm) ?_
    refine b_if_eq hx hb (nI_toIntI (by omega)) dX7_addClutch_5 (tgt := 15) (by decide) (fun c5 => ?_) (fun c5 => absurd c5 (by omega))
    refine lv_iconst (v := nI 1) hx hb dX7_addClutch_15 (by decide) ?_
    refine lv_goto (tgt := 45) hx hb dX7_addClutch_16 (by decide) ?_
    refine va_put (D := D) (ci := 7) (v := .int (nI 1)) (ty := .int) (C := RX7) (T := TX7) (N := 17) hx hb hts iX7 tyX7 tyX7_ok nmX7 hown hK hP hD hS 0 rfl rfl 5 (by decide) (hts _ k_f_X7_45) (fun _ h9 => h9) rfl (by decide +kernel) rfl rfl (Nat.le_of_ble_eq_true rfl) dX7_addClutch_45 (fun H locs hP hD hS => ?_)
    have hP : va_P D vwCl (WM K mm ta sl ss be ch (nI 1) M rq cq pv so st gs gm gu gl aw) H := hP
    have hD : va_D A (WM K mm ta sl ss be ch (nI 1) M rq cq pv so st gs gm gu gl aw) := hD
    refine lv_aload_n hx hb dX7_addClutch_48 rfl (lv_at hl 0 rfl) ?_
    refine va_get (D := D) (ci := 7) (C := RX7) (T := TX7) (N := 17) hx hb hts iX7 hown hK hP 0 rfl rfl 5 (by decide) (hts _ k_f_X7_45) (fun _ h9 => h9) rfl dX7_addClutch_49 ?_
    refine b_if_eq hx hb (nI_toIntI (by omega)) dX7_addClutch_52 (tgt := 59) (by decide) (fun c52 => absurd c52 (by omega)) (fun c52 => ?_)
    refine lv_iconst (v := nI 0) hx hb dX7_addClutch_55 (by decide) ?_
    refine lv_goto (tgt := 65) hx hb dX7_addClutch_56 (by decide) ?_
    have hrs : rs_addClutch d xa xb = _ := (cI_t (fun z => by first | exact hs_xa z.1 | exact hs_xb z.2))
    exact W.iret (v := nI 0) hx hb hr (fun t9 ht9 hW => ⟨⟨nI 0, (ta, sl, ss, be, ch, (nI 1), M, rq, cq, pv, so, st, gs, gm, gu, gl, aw), rfl, ⟨by rw [hrs], by rw [hrs]; exact fun h9 => absurd h9 (by decide), fun _ => hR⟩, by rw [ht9]; exact hP, va_K.moved hW.alike hK, hD⟩, hS.F ht9⟩) hS.2.2 dX7_addClutch_65
  refine t_i (hw.trans (bI_t hs_xa).symm) ?_
  refine b_if_eq hx hb (nI_toIntI (by omega)) dX7_addClutch_5 (tgt := 15) (by decide) (fun c5 => absurd c5 (by omega)) (fun c5 => ?_)
  refine lv_iload_n hx hb dX7_addClutch_8 rfl (lv_at hl 2 rfl) ?_
  refine va_calli (va_runS (As := [.int xb]) (rest := [.ref (mm 0)]) ⟨hx, hb, hml, hown, hts⟩ (c_X7_isShaft l xb ) (va_cwS 1 hts (TB_S k_m_X7_53 k_st_X7_isShaft k_in_X7 k_co_X7_isShaft (fun _ h => h)) rfl rfl rfl (by decide +kernel) ⟨Nat.le_of_ble_eq_true rfl, Nat.le_of_ble_eq_true rfl⟩) ⟨tP_blind, tP_of⟩ rfl rfl hl.1 rfl (lv_room (Nat.le_of_ble_eq_true rfl)) dX7_addClutch_9 ⟨Nat.le_of_ble_eq_true rfl, Nat.le_of_ble_eq_true rfl⟩) hS (fun q _ h => absurd h id) (fun q h => absurd h id) (fun rs u9 t9 H locs ht9 hvm hw hB hz1 hk1 hS => ?_)
  have hP := P_same hP hk1
  by_cases hs_xb : shf xb
  rotate_left
  · refine t_i (hw.trans (bI_f hs_xb).symm) ?_
    refine b_if_ne hx hb (nI_toIntI (by omega)) dX7_addClutch_12 (tgt := 19) (by decide) (fun c12 => absurd c12 (by omega)) (fun c12 => ?_)
    refine lv_iconst (v := nI 1) hx hb dX7_addClutch_15 (by decide) ?_
    refine lv_goto (tgt := 45) hx hb dX7_addClutch_16 (by decide) ?_
    refine va_put (D := D) (ci := 7) (v := .int (nI 1)) (ty := .int) (C := RX7) (T := TX7) (N := 17) hx hb hts iX7 tyX7 tyX7_ok nmX7 hown hK hP hD hS 0 rfl rfl 5 (by decide) (hts _ k_f_X7_45) (fun _ h9 => h9) rfl (by decide +kernel) rfl rfl (Nat.le_of_ble_eq_true rfl) dX7_addClutch_45 (fun H locs hP hD hS => ?_)
    have hP : va_P D vwCl (WM K mm ta sl ss be ch (nI 1) M rq cq pv so st gs gm gu gl aw) H := hP
    have hD : va_D A (WM K mm ta sl ss be ch (nI 1) M rq cq pv so st gs gm gu gl aw) := hD
    refine lv_aload_n hx hb dX7_addClutch_48 rfl (lv_at hl 0 rfl) ?_
    refine va_get (D := D) (ci := 7) (C := RX7) (T := TX7) (N := 17) hx hb hts iX7 hown hK hP 0 rfl rfl 5 (by decide) (hts _ k_f_X7_45) (fun _ h9 => h9) rfl dX7_addClutch_49 ?_
    refine b_if_eq hx hb (nI_toIntI (by omega)) dX7_addClutch_52 (tgt := 59) (by decide) (fun c52 => absurd c52 (by omega)) (fun c52 => ?_)
    refine lv_iconst (v := nI 0) hx hb dX7_addClutch_55 (by decide) ?_
    refine lv_goto (tgt := 65) hx hb dX7_addClutch_56 (by decide) ?_
    have hrs : rs_addClutch d xa xb = _ := (cI_t (fun z => by first | exact hs_xa z.1 | exact hs_xb z.2))
    exact W.iret (v := nI 0) hx hb hr (fun t9 ht9 hW => ⟨⟨nI 0, (ta, sl, ss, be, ch, (nI 1), M, rq, cq, pv, so, st, gs, gm, gu, gl, aw), rfl, ⟨by rw [hrs], by rw [hrs]; exact fun h9 => absurd h9 (by decide), fun _ => hR⟩, by rw [ht9]; exact hP, va_K.moved hW.alike hK, hD⟩, hS.F ht9⟩) hS.2.2 dX7_addClutch_65
  refine t_i (hw.trans (bI_t hs_xb).symm) ?_
  refine b_if_ne hx hb (nI_toIntI (by omega)) dX7_addClutch_12 (tgt := 19) (by decide) (fun c12 => ?_) (fun c12 => absurd c12 (by omega))
  refine lv_iload_n hx hb dX7_addClutch_19 rfl (lv_at hl 1 rfl) ?_
  refine lv_iload_n hx hb dX7_addClutch_20 rfl (lv_at hl 2 rfl) ?_
  refine b_icmp_ne hx hb rfl rfl dX7_addClutch_21 (tgt := 28) (by decide) (fun c21 => ?_) (fun c21 => ?_)
  · refine lv_aload_n hx hb dX7_addClutch_28 rfl (lv_at hl 0 rfl) ?_
    refine va_get (D := D) (ci := 7) (C := RX7) (T := TX7) (N := 17) hx hb hts iX7 hown hK hP 0 rfl rfl 0 (by decide) (hts _ k_f_X7_7) (fun _ h9 => h9) rfl dX7_addClutch_29 ?_
    refine lv_bipush (v := nI 34) hx hb dX7_addClutch_32 (by decide) ?_
    refine n_iald hx hb hK hP 1 0 rfl rfl (i := 34) (n := 36) (by omega) (by decide) dX7_addClutch_34 ?_
    refine t_i (show _ = nI m1 from h34) ?_
    refine lv_bipush (v := nI 6) hx hb dX7_addClutch_35 (by decide) ?_
    refine b_icmp_ne hx hb (nI_toIntI (by omega)) (nI_toIntI (by omega)) dX7_addClutch_37 (tgt := 44) (by decide) (fun c37 => ?_) (fun c37 => ?_)
    · refine lv_iconst (v := nI 0) hx hb dX7_addClutch_44 (by decide) ?_
      refine va_put (D := D) (ci := 7) (v := .int (nI 0)) (ty := .int) (C := RX7) (T := TX7) (N := 17) hx hb hts iX7 tyX7 tyX7_ok nmX7 hown hK hP hD hS 0 rfl rfl 5 (by decide) (hts _ k_f_X7_45) (fun _ h9 => h9) rfl (by decide +kernel) rfl rfl (Nat.le_of_ble_eq_true rfl) dX7_addClutch_45 (fun H locs hP hD hS => ?_)
      have hP : va_P D vwCl (WM K mm ta sl ss be ch (nI 0) M rq cq pv so st gs gm gu gl aw) H := hP
      have hD : va_D A (WM K mm ta sl ss be ch (nI 0) M rq cq pv so st gs gm gu gl aw) := hD
      refine lv_aload_n hx hb dX7_addClutch_48 rfl (lv_at hl 0 rfl) ?_
      refine va_get (D := D) (ci := 7) (C := RX7) (T := TX7) (N := 17) hx hb hts iX7 hown hK hP 0 rfl rfl 5 (by decide) (hts _ k_f_X7_45) (fun _ h9 => h9) rfl dX7_addClutch_49 ?_
      refine b_if_eq hx hb (nI_toIntI (by omega)) dX7_addClutch_52 (tgt := 59) (by decide) (fun c52 => ?_) (fun c52 => absurd c52 (by omega))
      refine lv_aload_n hx hb dX7_addClutch_59 rfl (lv_at hl 0 rfl) ?_
      refine lv_iload_n hx hb dX7_addClutch_60 rfl (lv_at hl 1 rfl) ?_
      refine lv_iload_n hx hb dX7_addClutch_61 rfl (lv_at hl 2 rfl) ?_
      have hFc := freeAll hD hS hA
      refine va_calli (va_runV (As := [.int xa, .int xb]) (rest := []) ⟨hx, hb, hml, hown, hts⟩ (c_X7_addElement l D K mm ta sl ss be ch (nI 0) M rq cq pv so st gs gm gu gl aw m1 xa xb H.size (by omega) h34) (cwV 2 hts (TB_V k_m_X7_57 k_im_X7_addElement k_se_X7_addElement k_in_X7 k_co_X7_addElement (fun _ h => h)) rfl rfl rfl (by decide +kernel) ⟨Nat.le_of_ble_eq_true rfl, Nat.le_of_ble_eq_true rfl⟩) ⟨cP_blind, va_recv hK hP (ci := 7) (q0 := 0) rfl rfl, cP_of hP hK hD⟩ rfl rfl hl.1 rfl (lv_room (Nat.le_of_ble_eq_true rfl)) dX7_addClutch_62 ⟨Nat.le_of_ble_eq_true rfl, Nat.le_of_ble_eq_true rfl⟩) hS (fun q _ h => hFc q h) hFc (fun re u t9 H locs ht9 hvm hw hB hz1 hk1 hS => ?_)
      obtain ⟨hP, hK1, hD1⟩ := hB
      rw [ht9] at hP
      have hD := hD1.weaken (fun _ _ _ h => hFc _ h)
      have hP : va_P D vwCl (WM K mm (upd (upd (upd (upd ta (15 + m1) xa) (21 + m1) xb) (27 + m1) (nI 1000)) 34 (nI (m1 + 1))) sl ss be ch (nI 0) M rq cq pv so st gs gm gu gl aw) H := hP
      have hD : va_D A (WM K mm (upd (upd (upd (upd ta (15 + m1) xa) (21 + m1) xb) (27 + m1) (nI 1000)) 34 (nI (m1 + 1))) sl ss be ch (nI 0) M rq cq pv so st gs gm gu gl aw) := hD
      refine t_i hw ?_
      have hrs : rs_addClutch d xa xb = _ := ((cI_f (fun z => z ⟨hs_xa, hs_xb⟩)).trans ((cI_f (fun z => by simp only [i32_eq] at z; omega)).trans ((cI_f (by rw [hm1]; omega)).trans (rfl))))
      exact W.iret (v := nI m1) hx hb hr (fun t9 ht9 hW => ⟨⟨nI m1, ((upd (upd (upd (upd ta (15 + m1) xa) (21 + m1) xb) (27 + m1) (nI 1000)) 34 (nI (m1 + 1))), sl, ss, be, ch, (nI 0), M, rq, cq, pv, so, st, gs, gm, gu, gl, aw), rfl, ⟨by rw [hrs], by rw [hrs]; exact fun _ => ⟨by rw [hm1, nI_toIntI (by omega)], by rw [hm1]; exact ⟨AtD_dE hat (by omega), hat1, hat2, hss0, hss1, hch, hbe⟩⟩, by rw [hrs]; exact fun h9 => absurd rfl h9⟩, by rw [ht9]; exact hP, va_K.moved hW.alike hK, hD⟩, hS.F ht9⟩) hS.2.2 dX7_addClutch_65
    refine lv_iconst (v := nI 3) hx hb dX7_addClutch_40 (by decide) ?_
    refine lv_goto (tgt := 45) hx hb dX7_addClutch_41 (by decide) ?_
    refine va_put (D := D) (ci := 7) (v := .int (nI 3)) (ty := .int) (C := RX7) (T := TX7) (N := 17) hx hb hts iX7 tyX7 tyX7_ok nmX7 hown hK hP hD hS 0 rfl rfl 5 (by decide) (hts _ k_f_X7_45) (fun _ h9 => h9) rfl (by decide +kernel) rfl rfl (Nat.le_of_ble_eq_true rfl) dX7_addClutch_45 (fun H locs hP hD hS => ?_)
    have hP : va_P D vwCl (WM K mm ta sl ss be ch (nI 3) M rq cq pv so st gs gm gu gl aw) H := hP
    have hD : va_D A (WM K mm ta sl ss be ch (nI 3) M rq cq pv so st gs gm gu gl aw) := hD
    refine lv_aload_n hx hb dX7_addClutch_48 rfl (lv_at hl 0 rfl) ?_
    refine va_get (D := D) (ci := 7) (C := RX7) (T := TX7) (N := 17) hx hb hts iX7 hown hK hP 0 rfl rfl 5 (by decide) (hts _ k_f_X7_45) (fun _ h9 => h9) rfl dX7_addClutch_49 ?_
    refine b_if_eq hx hb (nI_toIntI (by omega)) dX7_addClutch_52 (tgt := 59) (by decide) (fun c52 => absurd c52 (by omega)) (fun c52 => ?_)
    refine lv_iconst (v := nI 0) hx hb dX7_addClutch_55 (by decide) ?_
    refine lv_goto (tgt := 65) hx hb dX7_addClutch_56 (by decide) ?_
    have hrs : rs_addClutch d xa xb = _ := ((cI_f (fun z => z ⟨hs_xa, hs_xb⟩)).trans ((cI_f (fun z => by simp only [i32_eq] at z; omega)).trans (cI_t (by rw [hm1]; omega))))
    exact W.iret (v := nI 0) hx hb hr (fun t9 ht9 hW => ⟨⟨nI 0, (ta, sl, ss, be, ch, (nI 3), M, rq, cq, pv, so, st, gs, gm, gu, gl, aw), rfl, ⟨by rw [hrs], by rw [hrs]; exact fun h9 => absurd h9 (by decide), fun _ => hR⟩, by rw [ht9]; exact hP, va_K.moved hW.alike hK, hD⟩, hS.F ht9⟩) hS.2.2 dX7_addClutch_65
  refine lv_iconst (v := nI 2) hx hb dX7_addClutch_24 (by decide) ?_
  refine lv_goto (tgt := 45) hx hb dX7_addClutch_25 (by decide) ?_
  refine va_put (D := D) (ci := 7) (v := .int (nI 2)) (ty := .int) (C := RX7) (T := TX7) (N := 17) hx hb hts iX7 tyX7 tyX7_ok nmX7 hown hK hP hD hS 0 rfl rfl 5 (by decide) (hts _ k_f_X7_45) (fun _ h9 => h9) rfl (by decide +kernel) rfl rfl (Nat.le_of_ble_eq_true rfl) dX7_addClutch_45 (fun H locs hP hD hS => ?_)
  have hP : va_P D vwCl (WM K mm ta sl ss be ch (nI 2) M rq cq pv so st gs gm gu gl aw) H := hP
  have hD : va_D A (WM K mm ta sl ss be ch (nI 2) M rq cq pv so st gs gm gu gl aw) := hD
  refine lv_aload_n hx hb dX7_addClutch_48 rfl (lv_at hl 0 rfl) ?_
  refine va_get (D := D) (ci := 7) (C := RX7) (T := TX7) (N := 17) hx hb hts iX7 hown hK hP 0 rfl rfl 5 (by decide) (hts _ k_f_X7_45) (fun _ h9 => h9) rfl dX7_addClutch_49 ?_
  refine b_if_eq hx hb (nI_toIntI (by omega)) dX7_addClutch_52 (tgt := 59) (by decide) (fun c52 => absurd c52 (by omega)) (fun c52 => ?_)
  refine lv_iconst (v := nI 0) hx hb dX7_addClutch_55 (by decide) ?_
  refine lv_goto (tgt := 65) hx hb dX7_addClutch_56 (by decide) ?_
  have hrs : rs_addClutch d xa xb = _ := ((cI_f (fun z => z ⟨hs_xa, hs_xb⟩)).trans (cI_t (by simp only [i32_eq]; omega)))
  exact W.iret (v := nI 0) hx hb hr (fun t9 ht9 hW => ⟨⟨nI 0, (ta, sl, ss, be, ch, (nI 2), M, rq, cq, pv, so, st, gs, gm, gu, gl, aw), rfl, ⟨by rw [hrs], by rw [hrs]; exact fun h9 => absurd h9 (by decide), fun _ => hR⟩, by rw [ht9]; exact hP, va_K.moved hW.alike hK, hD⟩, hS.F ht9⟩) hS.2.2 dX7_addClutch_65
