/-! PlanetaryGearboxModel: addSet -/
theorem I_add1 {x : Int32} (h1 : 10 ≤ x.toInt ∧ x.toInt ≤ 40) : (x + nI 1).toInt = x.toInt + 1 := by
  rw [Int32.toInt_add, nI_toIntI (by omega)]
  exact Int.bmod_eq_of_le (by omega) (by omega)
theorem dSe (d : Nat → Nat → Int32) (n : Nat) (a b c s r : Int32) : (∀ j, dS d n a b c s r 0 j = upd (d 0) n a j) ∧ (∀ j, dS d n a b c s r 1 j = upd (d 1) n b j) ∧ (∀ j, dS d n a b c s r 2 j = upd (d 2) n c j) ∧ (∀ j, dS d n a b c s r 3 j = upd (d 3) n s j) ∧ (∀ j, dS d n a b c s r 4 j = upd (d 4) n r j) ∧ dS d n a b c s r 5 = d 5 ∧ dS d n a b c s r 6 = d 6 ∧ dS d n a b c s r 7 = d 7 ∧ dS d n a b c s r 8 = upd (d 8) 0 (nI (n + 1)) := ⟨fun _ => rfl, fun _ => rfl, fun _ => rfl, fun _ => rfl, fun _ => rfl, rfl, rfl, rfl, rfl⟩
theorem AtD_dS {ta : Nat → Int32} {d : Nat → Nat → Int32} {n : Nat} {a b c s r : Int32} (h : AtD ta d) (hn : n < 3) : AtD (upd (upd (upd (upd (upd (upd ta (0 + 5 * n) a) (0 + 5 * n + 1) b) (0 + 5 * n + 2) c) (0 + 5 * n + 3) s) (0 + 5 * n + 4) r) 33 (nI (n + 1))) (dS d n a b c s r) := by
  obtain ⟨h1, h2, h3, h4, h5⟩ := h
  obtain ⟨z0, z1, z2, z3, z4, z5, z6, z7, z8⟩ := dSe d n a b c s r
  refine ⟨fun k j hk hj => ?_, fun e he => ?_, updSame, ?_, ?_⟩
  · rw [updOther (by omega)]
    by_cases q : k = n
    · subst q
      have : j = 0 ∨ j = 1 ∨ j = 2 ∨ j = 3 ∨ j = 4 := by omega
      rcases this with rfl | rfl | rfl | rfl | rfl
      · rw [z0, updSame, updOther (by omega), updOther (by omega), updOther (by omega), updOther (by omega), show 5 * k + 0 = 0 + 5 * k by omega, updSame]
      · rw [z1, updSame, updOther (by omega), updOther (by omega), updOther (by omega), show 5 * k + 1 = 0 + 5 * k + 1 by omega, updSame]
      · rw [z2, updSame, updOther (by omega), updOther (by omega), show 5 * k + 2 = 0 + 5 * k + 2 by omega, updSame]
      · rw [z3, updSame, updOther (by omega), show 5 * k + 3 = 0 + 5 * k + 3 by omega, updSame]
      · rw [z4, updSame, show 5 * k + 4 = 0 + 5 * k + 4 by omega, updSame]
    · rw [updOther (by omega), updOther (by omega), updOther (by omega), updOther (by omega), updOther (by omega), h1 k j hk hj]
      have : j = 0 ∨ j = 1 ∨ j = 2 ∨ j = 3 ∨ j = 4 := by omega
      rcases this with rfl | rfl | rfl | rfl | rfl
      · rw [z0, updOther q]
      · rw [z1, updOther q]
      · rw [z2, updOther q]
      · rw [z3, updOther q]
      · rw [z4, updOther q]
  · obtain ⟨g1, g2, g3⟩ := h2 e he
    rw [z5, z6, z7]
    refine ⟨?_, ?_, ?_⟩
    · rw [updOther (by omega), updOther (by omega), updOther (by omega), updOther (by omega), updOther (by omega), updOther (by omega)]; exact g1
    · rw [updOther (by omega), updOther (by omega), updOther (by omega), updOther (by omega), updOther (by omega), updOther (by omega)]; exact g2
    · rw [updOther (by omega), updOther (by omega), updOther (by omega), updOther (by omega), updOther (by omega), updOther (by omega)]; exact g3
  · rw [z8, updOther (show (1 : Nat) ≠ 0 by decide), updOther (by omega), updOther (by omega), updOther (by omega), updOther (by omega), updOther (by omega), updOther (by omega)]; exact h4
  · rw [z8, updOther (show (2 : Nat) ≠ 0 by decide), updOther (by omega), updOther (by omega), updOther (by omega), updOther (by omega), updOther (by omega), updOther (by omega)]; exact h5
set_option maxHeartbeats 4000000 in
set_option maxRecDepth 100000 in
theorem c_X7_addSet (l : Launch) (D : va_G) (K : Nat → ClassId) (mm : Nat → Nat) (v : CV) (w0 : MS) (xa xb xc xs xr : Int32) (sz : Nat) (hI : IV v) (hR : RM v w0)  : Met l yX7_addSet (.code yX7_addSet cX7_addSet 8 (some .int) :: TB) ({ frames := 2, cells := 0, slots := 0, locals := 42 } : Room) (va_Pc [.ref (mm 0), .int xa, .int xb, .int xc, .int xs, .int xr] (cP D K (WMu K mm w0) sz)) (va_Qi (fun (z : Int32) (u : MS) => u.2.2.2.2.2.1 = nI (rs_addSet v.1 xa xb xc xs xr).1 ∧ ((rs_addSet v.1 xa xb xc xs xr).1 = 0 → z.toInt = (rs_addSet v.1 xa xb xc xs xr).2 ∧ RM (dS v.1 (dn v.1 8 0) xa xb xc xs xr, v.2) u) ∧ (¬ (rs_addSet v.1 xa xb xc xs xr).1 = 0 → RM v u)) (fun (u : MS) t => cB D K (va_A (WMu K mm w0) sz) (WMu K mm u) t) (va_A (WMu K mm w0) sz)) 0 0 (va_A (WMu K mm w0) sz) := by
  refine Met.ofW (cc := cX7_addSet) (maxL := 8) (ret := (some .int)) (by decide) rfl ?_
  intro p e s m args below meth c s₁ B hml hv
  obtain ⟨rfl, hsz, hP, hK, hD0⟩ := hv
  have hx := B.exec
  have hb := B.bytes
  have hr := B.returns
  have hts := hts_tl (atoms_spec (ws := (.code yX7_addSet cX7_addSet 8 (some .int) :: TB)) B.pre)
  have hown : s.vm.findClass RX7 = some m.cls := findClass_of_methodNamed B.named
  have hlocks := B.notSynchronized
  subst hsz
  have hD := hD0.self (sz := s.heap.size)
  generalize hAe : (va_A (WMu K mm w0) s.heap.size) = A at hD ⊢
  have hA : ∀ q : Nat, s.heap.size ≤ q → A q := fun q h => by rw [← hAe]; exact Or.inr h
  have hS : va_S A s.heap s.heap [] := va_S.rf
  clear hAe hD0
  obtain ⟨d, d1, d2, f1, f2, f, s0⟩ := v
  obtain ⟨ta, sl, ss, be, ch, th, M, rq, cq, pv, so, st, gs, gm, gu, gl, aw⟩ := w0
  obtain ⟨hd, hd1, hd2, hf1, hf2, hs20, hhf⟩ := id hI
  obtain ⟨hat, hat1, hat2, hss0, hss1, hch, hbe⟩ := id hR
  dsimp only at hd hd1 hd2 hf1 hf2 hs20 hhf hat hat1 hat2 hss0 hss1 hch hbe
  obtain ⟨n, m1, ge, hn, hm, hge, h0, h1, h2, hs9, he9⟩ := id hd
  obtain ⟨ha1, ha2, ha33, ha34, ha35⟩ := id hat
  have hp6 : 2 ^ m1 ≤ 64 := Nat.pow_le_pow_right (show 0 < 2 by decide) hm
  have h33 := ha33.trans h0
  have h34 := ha34.trans h1
  have h35 := ha35.trans h2
  have hn1 : dn d 8 0 = n := dn_of h0 (by omega)
  have hm1 : dn d 8 1 = m1 := dn_of h1 (by omega)
  have hg1 : dn d 8 2 = ge := dn_of h2 (by omega)
  have hP : va_P D vwCl (WM K mm ta sl ss be ch th M rq cq pv so st gs gm gu gl aw) s.heap := hP
  have hD : va_D A (WM K mm ta sl ss be ch th M rq cq pv so st gs gm gu gl aw) := hD
  have hl := lv_entry ([.ref (mm 0), .int xa, .int xb, .int xc, .int xs, .int xr]) (n := 8) (Nat.le_of_ble_eq_true rfl)
  rw [lg_entry_eq]
  generalize (lg_sl ([.ref (mm 0), .int xa, .int xb, .int xc, .int xs, .int xr]) ++ List.replicate (8 - (lg_sl ([.ref (mm 0), .int xa, .int xb, .int xc, .int xs, .int xr])).length) Slot.unset).toArray = ls at hl ⊢
  have hl : lv_has ls 8 [(0, .ref (mm 0)), (1, .int xa), (2, .int xb), (3, .int xc), (4, .int xs), (5, .int xr)] := hl
  refine lv_iload_n hx hb dX7_addSet_0 rfl (lv_at hl 1 rfl) ?_
  refine lv_iload_n hx hb dX7_addSet_1 rfl (lv_at hl 2 rfl) ?_
  refine b_icmp_eq hx hb rfl rfl dX7_addSet_2 (tgt := 45) (by decide) (fun c2 => ?_) (fun c2 => ?_)
  · refine lv_iconst (v := nI 0) hx hb dX7_addSet_45 (by decide) ?_
    refine lv_istore (lv' := [(6, .int (nI 0)), (0, .ref (mm 0)), (1, .int xa), (2, .int xb), (3, .int xc), (4, .int xs), (5, .int xr)]) hx hb dX7_addSet_46 hl (by decide) rfl (fun ls hl => ?_)
    refine lv_aload_n hx hb dX7_addSet_48 rfl (lv_at hl 1 rfl) ?_
    refine lv_iload_n hx hb dX7_addSet_49 rfl (lv_at hl 2 rfl) ?_
    refine va_calli (va_runS (As := [.int xa]) (rest := [.ref (mm 0)]) ⟨hx, hb, hml, hown, hts⟩ (c_X7_isShaft l xa ) (va_cwS 1 hts (TB_S k_m_X7_53 k_st_X7_isShaft k_in_X7 k_co_X7_isShaft (fun _ h => h)) rfl rfl rfl (by decide +kernel) ⟨Nat.le_of_ble_eq_true rfl, Nat.le_of_ble_eq_true rfl⟩) ⟨tP_blind, tP_of⟩ rfl rfl hl.1 rfl (lv_room (Nat.le_of_ble_eq_true rfl)) dX7_addSet_50 ⟨Nat.le_of_ble_eq_true rfl, Nat.le_of_ble_eq_true rfl⟩) hS (fun q _ h => absurd h id) (fun q h => absurd h id) (fun rs u9 t9 H locs ht9 hvm hw hB hz1 hk1 hS => ?_)
    have hP := P_same hP hk1
    by_cases hs_xa : shf xa
    rotate_left
    · refine t_i (hw.trans (bI_f hs_xa).symm) ?_
      refine b_if_eq hx hb (nI_toIntI (by omega)) dX7_addSet_53 (tgt := 70) (by decide) (fun c53 => ?_) (fun c53 => absurd c53 (by omega))
      refine lv_iconst (v := nI 1) hx hb dX7_addSet_70 (by decide) ?_
      refine lv_goto (tgt := 99) hx hb dX7_addSet_71 (by decide) ?_
      refine va_put (D := D) (ci := 7) (v := .int (nI 1)) (ty := .int) (C := RX7) (T := TX7) (N := 17) hx hb hts iX7 tyX7 tyX7_ok nmX7 hown hK hP hD hS 0 rfl rfl 5 (by decide) (hts _ k_f_X7_45) (fun _ h9 => h9) rfl (by decide +kernel) rfl rfl (Nat.le_of_ble_eq_true rfl) dX7_addSet_99 (fun H locs hP hD hS => ?_)
      have hP : va_P D vwCl (WM K mm ta sl ss be ch (nI 1) M rq cq pv so st gs gm gu gl aw) H := hP
      have hD : va_D A (WM K mm ta sl ss be ch (nI 1) M rq cq pv so st gs gm gu gl aw) := hD
      refine lv_aload_n hx hb dX7_addSet_102 rfl (lv_at hl 1 rfl) ?_
      refine va_get (D := D) (ci := 7) (C := RX7) (T := TX7) (N := 17) hx hb hts iX7 hown hK hP 0 rfl rfl 5 (by decide) (hts _ k_f_X7_45) (fun _ h9 => h9) rfl dX7_addSet_103 ?_
      refine b_if_eq hx hb (nI_toIntI (by omega)) dX7_addSet_106 (tgt := 111) (by decide) (fun c106 => absurd c106 (by omega)) (fun c106 => ?_)
      refine lv_iconst (v := nI 0) hx hb dX7_addSet_109 (by decide) ?_
      have hrs : rs_addSet d xa xb xc xs xr = _ := (cI_t (fun z => by first | exact hs_xa z.1 | exact hs_xb z.2.1 | exact hs_xc z.2.2))
      exact W.iret (v := nI 0) hx hb hr (fun t9 ht9 hW => ⟨⟨nI 0, (ta, sl, ss, be, ch, (nI 1), M, rq, cq, pv, so, st, gs, gm, gu, gl, aw), rfl, ⟨by rw [hrs], by rw [hrs]; exact fun h9 => absurd h9 (by decide), fun _ => hR⟩, by rw [ht9]; exact hP, va_K.moved hW.alike hK, hD⟩, hS.F ht9⟩) hS.2.2 dX7_addSet_110
    refine t_i (hw.trans (bI_t hs_xa).symm) ?_
    refine b_if_eq hx hb (nI_toIntI (by omega)) dX7_addSet_53 (tgt := 70) (by decide) (fun c53 => absurd c53 (by omega)) (fun c53 => ?_)
    refine lv_iload_n hx hb dX7_addSet_56 rfl (lv_at hl 3 rfl) ?_
    refine va_calli (va_runS (As := [.int xb]) (rest := [.ref (mm 0)]) ⟨hx, hb, hml, hown, hts⟩ (c_X7_isShaft l xb ) (va_cwS 1 hts (TB_S k_m_X7_53 k_st_X7_isShaft k_in_X7 k_co_X7_isShaft (fun _ h => h)) rfl rfl rfl (by decide +kernel) ⟨Nat.le_of_ble_eq_true rfl, Nat.le_of_ble_eq_true rfl⟩) ⟨tP_blind, tP_of⟩ rfl rfl hl.1 rfl (lv_room (Nat.le_of_ble_eq_true rfl)) dX7_addSet_57 ⟨Nat.le_of_ble_eq_true rfl, Nat.le_of_ble_eq_true rfl⟩) hS (fun q _ h => absurd h id) (fun q h => absurd h id) (fun rs u9 t9 H locs ht9 hvm hw hB hz1 hk1 hS => ?_)
    have hP := P_same hP hk1
    by_cases hs_xb : shf xb
    rotate_left
    · refine t_i (hw.trans (bI_f hs_xb).symm) ?_
      refine b_if_eq hx hb (nI_toIntI (by omega)) dX7_addSet_60 (tgt := 70) (by decide) (fun c60 => ?_) (fun c60 => absurd c60 (by omega))
      refine lv_iconst (v := nI 1) hx hb dX7_addSet_70 (by decide) ?_
      refine lv_goto (tgt := 99) hx hb dX7_addSet_71 (by decide) ?_
      refine va_put (D := D) (ci := 7) (v := .int (nI 1)) (ty := .int) (C := RX7) (T := TX7) (N := 17) hx hb hts iX7 tyX7 tyX7_ok nmX7 hown hK hP hD hS 0 rfl rfl 5 (by decide) (hts _ k_f_X7_45) (fun _ h9 => h9) rfl (by decide +kernel) rfl rfl (Nat.le_of_ble_eq_true rfl) dX7_addSet_99 (fun H locs hP hD hS => ?_)
      have hP : va_P D vwCl (WM K mm ta sl ss be ch (nI 1) M rq cq pv so st gs gm gu gl aw) H := hP
      have hD : va_D A (WM K mm ta sl ss be ch (nI 1) M rq cq pv so st gs gm gu gl aw) := hD
      refine lv_aload_n hx hb dX7_addSet_102 rfl (lv_at hl 1 rfl) ?_
      refine va_get (D := D) (ci := 7) (C := RX7) (T := TX7) (N := 17) hx hb hts iX7 hown hK hP 0 rfl rfl 5 (by decide) (hts _ k_f_X7_45) (fun _ h9 => h9) rfl dX7_addSet_103 ?_
      refine b_if_eq hx hb (nI_toIntI (by omega)) dX7_addSet_106 (tgt := 111) (by decide) (fun c106 => absurd c106 (by omega)) (fun c106 => ?_)
      refine lv_iconst (v := nI 0) hx hb dX7_addSet_109 (by decide) ?_
      have hrs : rs_addSet d xa xb xc xs xr = _ := (cI_t (fun z => by first | exact hs_xa z.1 | exact hs_xb z.2.1 | exact hs_xc z.2.2))
      exact W.iret (v := nI 0) hx hb hr (fun t9 ht9 hW => ⟨⟨nI 0, (ta, sl, ss, be, ch, (nI 1), M, rq, cq, pv, so, st, gs, gm, gu, gl, aw), rfl, ⟨by rw [hrs], by rw [hrs]; exact fun h9 => absurd h9 (by decide), fun _ => hR⟩, by rw [ht9]; exact hP, va_K.moved hW.alike hK, hD⟩, hS.F ht9⟩) hS.2.2 dX7_addSet_110
    refine t_i (hw.trans (bI_t hs_xb).symm) ?_
    refine b_if_eq hx hb (nI_toIntI (by omega)) dX7_addSet_60 (tgt := 70) (by decide) (fun c60 => absurd c60 (by omega)) (fun c60 => ?_)
    refine lv_iload_n hx hb dX7_addSet_63 rfl (lv_at hl 4 rfl) ?_
    refine va_calli (va_runS (As := [.int xc]) (rest := [.ref (mm 0)]) ⟨hx, hb, hml, hown, hts⟩ (c_X7_isShaft l xc ) (va_cwS 1 hts (TB_S k_m_X7_53 k_st_X7_isShaft k_in_X7 k_co_X7_isShaft (fun _ h => h)) rfl rfl rfl (by decide +kernel) ⟨Nat.le_of_ble_eq_true rfl, Nat.le_of_ble_eq_true rfl⟩) ⟨tP_blind, tP_of⟩ rfl rfl hl.1 rfl (lv_room (Nat.le_of_ble_eq_true rfl)) dX7_addSet_64 ⟨Nat.le_of_ble_eq_true rfl, Nat.le_of_ble_eq_true rfl⟩) hS (fun q _ h => absurd h id) (fun q h => absurd h id) (fun rs u9 t9 H locs ht9 hvm hw hB hz1 hk1 hS => ?_)
    have hP := P_same hP hk1
    by_cases hs_xc : shf xc
    rotate_left
    · refine t_i (hw.trans (bI_f hs_xc).symm) ?_
      refine b_if_ne hx hb (nI_toIntI (by omega)) dX7_addSet_67 (tgt := 74) (by decide) (fun c67 => absurd c67 (by omega)) (fun c67 => ?_)
      refine lv_iconst (v := nI 1) hx hb dX7_addSet_70 (by decide) ?_
      refine lv_goto (tgt := 99) hx hb dX7_addSet_71 (by decide) ?_
      refine va_put (D := D) (ci := 7) (v := .int (nI 1)) (ty := .int) (C := RX7) (T := TX7) (N := 17) hx hb hts iX7 tyX7 tyX7_ok nmX7 hown hK hP hD hS 0 rfl rfl 5 (by decide) (hts _ k_f_X7_45) (fun _ h9 => h9) rfl (by decide +kernel) rfl rfl (Nat.le_of_ble_eq_true rfl) dX7_addSet_99 (fun H locs hP hD hS => ?_)
      have hP : va_P D vwCl (WM K mm ta sl ss be ch (nI 1) M rq cq pv so st gs gm gu gl aw) H := hP
      have hD : va_D A (WM K mm ta sl ss be ch (nI 1) M rq cq pv so st gs gm gu gl aw) := hD
      refine lv_aload_n hx hb dX7_addSet_102 rfl (lv_at hl 1 rfl) ?_
      refine va_get (D := D) (ci := 7) (C := RX7) (T := TX7) (N := 17) hx hb hts iX7 hown hK hP 0 rfl rfl 5 (by decide) (hts _ k_f_X7_45) (fun _ h9 => h9) rfl dX7_addSet_103 ?_
      refine b_if_eq hx hb (nI_toIntI (by omega)) dX7_addSet_106 (tgt := 111) (by decide) (fun c106 => absurd c106 (by omega)) (fun c106 => ?_)
      refine lv_iconst (v := nI 0) hx hb dX7_addSet_109 (by decide) ?_
      have hrs : rs_addSet d xa xb xc xs xr = _ := (cI_t (fun z => by first | exact hs_xa z.1 | exact hs_xb z.2.1 | exact hs_xc z.2.2))
      exact W.iret (v := nI 0) hx hb hr (fun t9 ht9 hW => ⟨⟨nI 0, (ta, sl, ss, be, ch, (nI 1), M, rq, cq, pv, so, st, gs, gm, gu, gl, aw), rfl, ⟨by rw [hrs], by rw [hrs]; exact fun h9 => absurd h9 (by decide), fun _ => hR⟩, by rw [ht9]; exact hP, va_K.moved hW.alike hK, hD⟩, hS.F ht9⟩) hS.2.2 dX7_addSet_110
    refine t_i (hw.trans (bI_t hs_xc).symm) ?_
    refine b_if_ne hx hb (nI_toIntI (by omega)) dX7_addSet_67 (tgt := 74) (by decide) (fun c67 => ?_) (fun c67 => absurd c67 (by omega))
    refine lv_iload hx hb dX7_addSet_74 (lv_at hl 0 rfl) ?_
    refine b_if_ne hx hb (nI_toIntI (by omega)) dX7_addSet_76 (tgt := 83) (by decide) (fun c76 => absurd c76 (by omega)) (fun c76 => ?_)
    refine lv_iconst (v := nI 2) hx hb dX7_addSet_79 (by decide) ?_
    refine lv_goto (tgt := 99) hx hb dX7_addSet_80 (by decide) ?_
    refine va_put (D := D) (ci := 7) (v := .int (nI 2)) (ty := .int) (C := RX7) (T := TX7) (N := 17) hx hb hts iX7 tyX7 tyX7_ok nmX7 hown hK hP hD hS 0 rfl rfl 5 (by decide) (hts _ k_f_X7_45) (fun _ h9 => h9) rfl (by decide +kernel) rfl rfl (Nat.le_of_ble_eq_true rfl) dX7_addSet_99 (fun H locs hP hD hS => ?_)
    have hP : va_P D vwCl (WM K mm ta sl ss be ch (nI 2) M rq cq pv so st gs gm gu gl aw) H := hP
    have hD : va_D A (WM K mm ta sl ss be ch (nI 2) M rq cq pv so st gs gm gu gl aw) := hD
    refine lv_aload_n hx hb dX7_addSet_102 rfl (lv_at hl 1 rfl) ?_
    refine va_get (D := D) (ci := 7) (C := RX7) (T := TX7) (N := 17) hx hb hts iX7 hown hK hP 0 rfl rfl 5 (by decide) (hts _ k_f_X7_45) (fun _ h9 => h9) rfl dX7_addSet_103 ?_
    refine b_if_eq hx hb (nI_toIntI (by omega)) dX7_addSet_106 (tgt := 111) (by decide) (fun c106 => absurd c106 (by omega)) (fun c106 => ?_)
    refine lv_iconst (v := nI 0) hx hb dX7_addSet_109 (by decide) ?_
    have hrs : rs_addSet d xa xb xc xs xr = (2, 0) := (cI_f (fun z => z ⟨hs_xa, hs_xb, hs_xc⟩)).trans (by
      by_cases q1 : xa = xb ∨ xa = xc ∨ xb = xc
      · exact cI_t q1
      · refine (cI_f q1).trans ?_
        by_cases q2 : xs.toInt < 10 ∨ 40 < xs.toInt
        · exact cI_t q2
        · refine (cI_f q2).trans ?_
          simp only [i32_eq] at q1
          exact cI_t (by omega))
    exact W.iret (v := nI 0) hx hb hr (fun t9 ht9 hW => ⟨⟨nI 0, (ta, sl, ss, be, ch, (nI 2), M, rq, cq, pv, so, st, gs, gm, gu, gl, aw), rfl, ⟨by rw [hrs], by rw [hrs]; exact fun h9 => absurd h9 (by decide), fun _ => hR⟩, by rw [ht9]; exact hP, va_K.moved hW.alike hK, hD⟩, hS.F ht9⟩) hS.2.2 dX7_addSet_110
  refine lv_iload_n hx hb dX7_addSet_5 rfl (lv_at hl 2 rfl) ?_
  refine lv_iload_n hx hb dX7_addSet_6 rfl (lv_at hl 3 rfl) ?_
  refine b_icmp_eq hx hb rfl rfl dX7_addSet_7 (tgt := 45) (by decide) (fun c7 => ?_) (fun c7 => ?_)
  · refine lv_iconst (v := nI 0) hx hb dX7_addSet_45 (by decide) ?_
    refine lv_istore (lv' := [(6, .int (nI 0)), (0, .ref (mm 0)), (1, .int xa), (2, .int xb), (3, .int xc), (4, .int xs), (5, .int xr)]) hx hb dX7_addSet_46 hl (by decide) rfl (fun ls hl => ?_)
    refine lv_aload_n hx hb dX7_addSet_48 rfl (lv_at hl 1 rfl) ?_
    refine lv_iload_n hx hb dX7_addSet_49 rfl (lv_at hl 2 rfl) ?_
    refine va_calli (va_runS (As := [.int xa]) (rest := [.ref (mm 0)]) ⟨hx, hb, hml, hown, hts⟩ (c_X7_isShaft l xa ) (va_cwS 1 hts (TB_S k_m_X7_53 k_st_X7_isShaft k_in_X7 k_co_X7_isShaft (fun _ h => h)) rfl rfl rfl (by decide +kernel) ⟨Nat.le_of_ble_eq_true rfl, Nat.le_of_ble_eq_true rfl⟩) ⟨tP_blind, tP_of⟩ rfl rfl hl.1 rfl (lv_room (Nat.le_of_ble_eq_true rfl)) dX7_addSet_50 ⟨Nat.le_of_ble_eq_true rfl, Nat.le_of_ble_eq_true rfl⟩) hS (fun q _ h => absurd h id) (fun q h => absurd h id) (fun rs u9 t9 H locs ht9 hvm hw hB hz1 hk1 hS => ?_)
    have hP := P_same hP hk1
    by_cases hs_xa : shf xa
    rotate_left
    · refine t_i (hw.trans (bI_f hs_xa).symm) ?_
      refine b_if_eq hx hb (nI_toIntI (by omega)) dX7_addSet_53 (tgt := 70) (by decide) (fun c53 => ?_) (fun c53 => absurd c53 (by omega))
      refine lv_iconst (v := nI 1) hx hb dX7_addSet_70 (by decide) ?_
      refine lv_goto (tgt := 99) hx hb dX7_addSet_71 (by decide) ?_
      refine va_put (D := D) (ci := 7) (v := .int (nI 1)) (ty := .int) (C := RX7) (T := TX7) (N := 17) hx hb hts iX7 tyX7 tyX7_ok nmX7 hown hK hP hD hS 0 rfl rfl 5 (by decide) (hts _ k_f_X7_45) (fun _ h9 => h9) rfl (by decide +kernel) rfl rfl (Nat.le_of_ble_eq_true rfl) dX7_addSet_99 (fun H locs hP hD hS => ?_)
      have hP : va_P D vwCl (WM K mm ta sl ss be ch (nI 1) M rq cq pv so st gs gm gu gl aw) H := hP
      have hD : va_D A (WM K mm ta sl ss be ch (nI 1) M rq cq pv so st gs gm gu gl aw) := hD
      refine lv_aload_n hx hb dX7_addSet_102 rfl (lv_at hl 1 rfl) ?_
      refine va_get (D := D) (ci := 7) (C := RX7) (T := TX7) (N := 17) hx hb hts iX7 hown hK hP 0 rfl rfl 5 (by decide) (hts _ k_f_X7_45) (fun _ h9 => h9) rfl dX7_addSet_103 ?_
      refine b_if_eq hx hb (nI_toIntI (by omega)) dX7_addSet_106 (tgt := 111) (by decide) (fun c106 => absurd c106 (by omega)) (fun c106 => ?_)
      refine lv_iconst (v := nI 0) hx hb dX7_addSet_109 (by decide) ?_
      have hrs : rs_addSet d xa xb xc xs xr = _ := (cI_t (fun z => by first | exact hs_xa z.1 | exact hs_xb z.2.1 | exact hs_xc z.2.2))
      exact W.iret (v := nI 0) hx hb hr (fun t9 ht9 hW => ⟨⟨nI 0, (ta, sl, ss, be, ch, (nI 1), M, rq, cq, pv, so, st, gs, gm, gu, gl, aw), rfl, ⟨by rw [hrs], by rw [hrs]; exact fun h9 => absurd h9 (by decide), fun _ => hR⟩, by rw [ht9]; exact hP, va_K.moved hW.alike hK, hD⟩, hS.F ht9⟩) hS.2.2 dX7_addSet_110
    refine t_i (hw.trans (bI_t hs_xa).symm) ?_
    refine b_if_eq hx hb (nI_toIntI (by omega)) dX7_addSet_53 (tgt := 70) (by decide) (fun c53 => absurd c53 (by omega)) (fun c53 => ?_)
    refine lv_iload_n hx hb dX7_addSet_56 rfl (lv_at hl 3 rfl) ?_
    refine va_calli (va_runS (As := [.int xb]) (rest := [.ref (mm 0)]) ⟨hx, hb, hml, hown, hts⟩ (c_X7_isShaft l xb ) (va_cwS 1 hts (TB_S k_m_X7_53 k_st_X7_isShaft k_in_X7 k_co_X7_isShaft (fun _ h => h)) rfl rfl rfl (by decide +kernel) ⟨Nat.le_of_ble_eq_true rfl, Nat.le_of_ble_eq_true rfl⟩) ⟨tP_blind, tP_of⟩ rfl rfl hl.1 rfl (lv_room (Nat.le_of_ble_eq_true rfl)) dX7_addSet_57 ⟨Nat.le_of_ble_eq_true rfl, Nat.le_of_ble_eq_true rfl⟩) hS (fun q _ h => absurd h id) (fun q h => absurd h id) (fun rs u9 t9 H locs ht9 hvm hw hB hz1 hk1 hS => ?_)
    have hP := P_same hP hk1
    by_cases hs_xb : shf xb
    rotate_left
    · refine t_i (hw.trans (bI_f hs_xb).symm) ?_
      refine b_if_eq hx hb (nI_toIntI (by omega)) dX7_addSet_60 (tgt := 70) (by decide) (fun c60 => ?_) (fun c60 => absurd c60 (by omega))
      refine lv_iconst (v := nI 1) hx hb dX7_addSet_70 (by decide) ?_
      refine lv_goto (tgt := 99) hx hb dX7_addSet_71 (by decide) ?_
      refine va_put (D := D) (ci := 7) (v := .int (nI 1)) (ty := .int) (C := RX7) (T := TX7) (N := 17) hx hb hts iX7 tyX7 tyX7_ok nmX7 hown hK hP hD hS 0 rfl rfl 5 (by decide) (hts _ k_f_X7_45) (fun _ h9 => h9) rfl (by decide +kernel) rfl rfl (Nat.le_of_ble_eq_true rfl) dX7_addSet_99 (fun H locs hP hD hS => ?_)
      have hP : va_P D vwCl (WM K mm ta sl ss be ch (nI 1) M rq cq pv so st gs gm gu gl aw) H := hP
      have hD : va_D A (WM K mm ta sl ss be ch (nI 1) M rq cq pv so st gs gm gu gl aw) := hD
      refine lv_aload_n hx hb dX7_addSet_102 rfl (lv_at hl 1 rfl) ?_
      refine va_get (D := D) (ci := 7) (C := RX7) (T := TX7) (N := 17) hx hb hts iX7 hown hK hP 0 rfl rfl 5 (by decide) (hts _ k_f_X7_45) (fun _ h9 => h9) rfl dX7_addSet_103 ?_
      refine b_if_eq hx hb (nI_toIntI (by omega)) dX7_addSet_106 (tgt := 111) (by decide) (fun c106 => absurd c106 (by omega)) (fun c106 => ?_)
      refine lv_iconst (v := nI 0) hx hb dX7_addSet_109 (by decide) ?_
      have hrs : rs_addSet d xa xb xc xs xr = _ := (cI_t (fun z => by first | exact hs_xa z.1 | exact hs_xb z.2.1 | exact hs_xc z.2.2))
      exact W.iret (v := nI 0) hx hb hr (fun t9 ht9 hW => ⟨⟨nI 0, (ta, sl, ss, be, ch, (nI 1), M, rq, cq, pv, so, st, gs, gm, gu, gl, aw), rfl, ⟨by rw [hrs], by rw [hrs]; exact fun h9 => absurd h9 (by decide), fun _ => hR⟩, by rw [ht9]; exact hP, va_K.moved hW.alike hK, hD⟩, hS.F ht9⟩) hS.2.2 dX7_addSet_110
    refine t_i (hw.trans (bI_t hs_xb).symm) ?_
    refine b_if_eq hx hb (nI_toIntI (by omega)) dX7_addSet_60 (tgt := 70) (by decide) (fun c60 => absurd c60 (by omega)) (fun c60 => ?_)
    refine lv_iload_n hx hb dX7_addSet_63 rfl (lv_at hl 4 rfl) ?_
    refine va_calli (va_runS (As := [.int xc]) (rest := [.ref (mm 0)]) ⟨hx, hb, hml, hown, hts⟩ (c_X7_isShaft l xc ) (va_cwS 1 hts (TB_S k_m_X7_53 k_st_X7_isShaft k_in_X7 k_co_X7_isShaft (fun _ h => h)) rfl rfl rfl (by decide +kernel) ⟨Nat.le_of_ble_eq_true rfl, Nat.le_of_ble_eq_true rfl⟩) ⟨tP_blind, tP_of⟩ rfl rfl hl.1 rfl (lv_room (Nat.le_of_ble_eq_true rfl)) dX7_addSet_64 ⟨Nat.le_of_ble_eq_true rfl, Nat.le_of_ble_eq_true rfl⟩) hS (fun q _ h => absurd h id) (fun q h => absurd h id) (fun rs u9 t9 H locs ht9 hvm hw hB hz1 hk1 hS => ?_)
    have hP := P_same hP hk1
    by_cases hs_xc : shf xc
    rotate_left
    · refine t_i (hw.trans (bI_f hs_xc).symm) ?_
      refine b_if_ne hx hb (nI_toIntI (by omega)) dX7_addSet_67 (tgt := 74) (by decide) (fun c67 => absurd c67 (by omega)) (fun c67 => ?_)
      refine lv_iconst (v := nI 1) hx hb dX7_addSet_70 (by decide) ?_
      refine lv_goto (tgt := 99) hx hb dX7_addSet_71 (by decide) ?_
      refine va_put (D := D) (ci := 7) (v := .int (nI 1)) (ty := .int) (C := RX7) (T := TX7) (N := 17) hx hb hts iX7 tyX7 tyX7_ok nmX7 hown hK hP hD hS 0 rfl rfl 5 (by decide) (hts _ k_f_X7_45) (fun _ h9 => h9) rfl (by decide +kernel) rfl rfl (Nat.le_of_ble_eq_true rfl) dX7_addSet_99 (fun H locs hP hD hS => ?_)
      have hP : va_P D vwCl (WM K mm ta sl ss be ch (nI 1) M rq cq pv so st gs gm gu gl aw) H := hP
      have hD : va_D A (WM K mm ta sl ss be ch (nI 1) M rq cq pv so st gs gm gu gl aw) := hD
      refine lv_aload_n hx hb dX7_addSet_102 rfl (lv_at hl 1 rfl) ?_
      refine va_get (D := D) (ci := 7) (C := RX7) (T := TX7) (N := 17) hx hb hts iX7 hown hK hP 0 rfl rfl 5 (by decide) (hts _ k_f_X7_45) (fun _ h9 => h9) rfl dX7_addSet_103 ?_
      refine b_if_eq hx hb (nI_toIntI (by omega)) dX7_addSet_106 (tgt := 111) (by decide) (fun c106 => absurd c106 (by omega)) (fun c106 => ?_)
      refine lv_iconst (v := nI 0) hx hb dX7_addSet_109 (by decide) ?_
      have hrs : rs_addSet d xa xb xc xs xr = _ := (cI_t (fun z => by first | exact hs_xa z.1 | exact hs_xb z.2.1 | exact hs_xc z.2.2))
      exact W.iret (v := nI 0) hx hb hr (fun t9 ht9 hW => ⟨⟨nI 0, (ta, sl, ss, be, ch, (nI 1), M, rq, cq, pv, so, st, gs, gm, gu, gl, aw), rfl, ⟨by rw [hrs], by rw [hrs]; exact fun h9 => absurd h9 (by decide), fun _ => hR⟩, by rw [ht9]; exact hP, va_K.moved hW.alike hK, hD⟩, hS.F ht9⟩) hS.2.2 dX7_addSet_110
    refine t_i (hw.trans (bI_t hs_xc).symm) ?_
    refine b_if_ne hx hb (nI_toIntI (by omega)) dX7_addSet_67 (tgt := 74) (by decide) (fun c67 => ?_) (fun c67 => absurd c67 (by omega))
    refine lv_iload hx hb dX7_addSet_74 (lv_at hl 0 rfl) ?_
    refine b_if_ne hx hb (nI_toIntI (by omega)) dX7_addSet_76 (tgt := 83) (by decide) (fun c76 => absurd c76 (by omega)) (fun c76 => ?_)
    refine lv_iconst (v := nI 2) hx hb dX7_addSet_79 (by decide) ?_
    refine lv_goto (tgt := 99) hx hb dX7_addSet_80 (by decide) ?_
    refine va_put (D := D) (ci := 7) (v := .int (nI 2)) (ty := .int) (C := RX7) (T := TX7) (N := 17) hx hb hts iX7 tyX7 tyX7_ok nmX7 hown hK hP hD hS 0 rfl rfl 5 (by decide) (hts _ k_f_X7_45) (fun _ h9 => h9) rfl (by decide +kernel) rfl rfl (Nat.le_of_ble_eq_true rfl) dX7_addSet_99 (fun H locs hP hD hS => ?_)
    have hP : va_P D vwCl (WM K mm ta sl ss be ch (nI 2) M rq cq pv so st gs gm gu gl aw) H := hP
    have hD : va_D A (WM K mm ta sl ss be ch (nI 2) M rq cq pv so st gs gm gu gl aw) := hD
    refine lv_aload_n hx hb dX7_addSet_102 rfl (lv_at hl 1 rfl) ?_
    refine va_get (D := D) (ci := 7) (C := RX7) (T := TX7) (N := 17) hx hb hts iX7 hown hK hP 0 rfl rfl 5 (by decide) (hts _ k_f_X7_45) (fun _ h9 => h9) rfl dX7_addSet_103 ?_
    refine b_if_eq hx hb (nI_toIntI (by omega)) dX7_addSet_106 (tgt := 111) (by decide) (fun c106 => absurd c106 (by omega)) (fun c106 => ?_)
    refine lv_iconst (v := nI 0) hx hb dX7_addSet_109 (by decide) ?_
    have hrs : rs_addSet d xa xb xc xs xr = (2, 0) := (cI_f (fun z => z ⟨hs_xa, hs_xb, hs_xc⟩)).trans (by
      by_cases q1 : xa = xb ∨ xa = xc ∨ xb = xc
      · exact cI_t q1
      · refine (cI_f q1).trans ?_
        by_cases q2 : xs.toInt < 10 ∨ 40 < xs.toInt
        · exact cI_t q2
        · refine (cI_f q2).trans ?_
          simp only [i32_eq] at q1
          exact cI_t (by omega))
    exact W.iret (v := nI 0) hx hb hr (fun t9 ht9 hW => ⟨⟨nI 0, (ta, sl, ss, be, ch, (nI 2), M, rq, cq, pv, so, st, gs, gm, gu, gl, aw), rfl, ⟨by rw [hrs], by rw [hrs]; exact fun h9 => absurd h9 (by decide), fun _ => hR⟩, by rw [ht9]; exact hP, va_K.moved hW.alike hK, hD⟩, hS.F ht9⟩) hS.2.2 dX7_addSet_110
  refine lv_iload_n hx hb dX7_addSet_10 rfl (lv_at hl 1 rfl) ?_
  refine lv_iload_n hx hb dX7_addSet_11 rfl (lv_at hl 3 rfl) ?_
  refine b_icmp_eq hx hb rfl rfl dX7_addSet_12 (tgt := 45) (by decide) (fun c12 => ?_) (fun c12 => ?_)
  · refine lv_iconst (v := nI 0) hx hb dX7_addSet_45 (by decide) ?_
    refine lv_istore (lv' := [(6, .int (nI 0)), (0, .ref (mm 0)), (1, .int xa), (2, .int xb), (3, .int xc), (4, .int xs), (5, .int xr)]) hx hb dX7_addSet_46 hl (by decide) rfl (fun ls hl => ?_)
    refine lv_aload_n hx hb dX7_addSet_48 rfl (lv_at hl 1 rfl) ?_
    refine lv_iload_n hx hb dX7_addSet_49 rfl (lv_at hl 2 rfl) ?_
    refine va_calli (va_runS (As := [.int xa]) (rest := [.ref (mm 0)]) ⟨hx, hb, hml, hown, hts⟩ (c_X7_isShaft l xa ) (va_cwS 1 hts (TB_S k_m_X7_53 k_st_X7_isShaft k_in_X7 k_co_X7_isShaft (fun _ h => h)) rfl rfl rfl (by decide +kernel) ⟨Nat.le_of_ble_eq_true rfl, Nat.le_of_ble_eq_true rfl⟩) ⟨tP_blind, tP_of⟩ rfl rfl hl.1 rfl (lv_room (Nat.le_of_ble_eq_true rfl)) dX7_addSet_50 ⟨Nat.le_of_ble_eq_true rfl, Nat.le_of_ble_eq_true rfl⟩) hS (fun q _ h => absurd h id) (fun q h => absurd h id) (fun rs u9 t9 H locs ht9 hvm hw hB hz1 hk1 hS => ?_)
    have hP := P_same hP hk1
    by_cases hs_xa : shf xa
    rotate_left
    · refine t_i (hw.trans (bI_f hs_xa).symm) ?_
      refine b_if_eq hx hb (nI_toIntI (by omega)) dX7_addSet_53 (tgt := 70) (by decide) (fun c53 => ?_) (fun c53 => absurd c53 (by omega))
      refine lv_iconst (v := nI 1) hx hb dX7_addSet_70 (by decide) ?_
      refine lv_goto (tgt := 99) hx hb dX7_addSet_71 (by decide) ?_
      refine va_put (D := D) (ci := 7) (v := .int (nI 1)) (ty := .int) (C := RX7) (T := TX7) (N := 17) hx hb hts iX7 tyX7 tyX7_ok nmX7 hown hK hP hD hS 0 rfl rfl 5 (by decide) (hts _ k_f_X7_45) (fun _ h9 => h9) rfl (by decide +kernel) rfl rfl (Nat.le_of_ble_eq_true rfl) dX7_addSet_99 (fun H locs hP hD hS => ?_)
      have hP : va_P D vwCl (WM K mm ta sl ss be ch (nI 1) M rq cq pv so st gs gm gu gl aw) H := hP
      have hD : va_D A (WM K mm ta sl ss be ch (nI 1) M rq cq pv so st gs gm gu gl aw) := hD
      refine lv_aload_n hx hb dX7_addSet_102 rfl (lv_at hl 1 rfl) ?_
      refine va_get (D := D) (ci := 7) (C := RX7) (T := TX7) (N := 17) hx hb hts iX7 hown hK hP 0 rfl rfl 5 (by decide) (hts _ k_f_X7_45) (fun _ h9 => h9) rfl dX7_addSet_103 ?_
      refine b_if_eq hx hb (nI_toIntI (by omega)) dX7_addSet_106 (tgt := 111) (by decide) (fun c106 => absurd c106 (by omega)) (fun c106 => ?_)
      refine lv_iconst (v := nI 0) hx hb dX7_addSet_109 (by decide) ?_
      have hrs : rs_addSet d xa xb xc xs xr = _ := (cI_t (fun z => by first | exact hs_xa z.1 | exact hs_xb z.2.1 | exact hs_xc z.2.2))
      exact W.iret (v := nI 0) hx hb hr (fun t9 ht9 hW => ⟨⟨nI 0, (ta, sl, ss, be, ch, (nI 1), M, rq, cq, pv, so, st, gs, gm, gu, gl, aw), rfl, ⟨by rw [hrs], by rw [hrs]; exact fun h9 => absurd h9 (by decide), fun _ => hR⟩, by rw [ht9]; exact hP, va_K.moved hW.alike hK, hD⟩, hS.F ht9⟩) hS.2.2 dX7_addSet_110
    refine t_i (hw.trans (bI_t hs_xa).symm) ?_
    refine b_if_eq hx hb (nI_toIntI (by omega)) dX7_addSet_53 (tgt := 70) (by decide) (fun c53 => absurd c53 (by omega)) (fun c53 => ?_)
    refine lv_iload_n hx hb dX7_addSet_56 rfl (lv_at hl 3 rfl) ?_
    refine va_calli (va_runS (As := [.int xb]) (rest := [.ref (mm 0)]) ⟨hx, hb, hml, hown, hts⟩ (c_X7_isShaft l xb ) (va_cwS 1 hts (TB_S k_m_X7_53 k_st_X7_isShaft k_in_X7 k_co_X7_isShaft (fun _ h => h)) rfl rfl rfl (by decide +kernel) ⟨Nat.le_of_ble_eq_true rfl, Nat.le_of_ble_eq_true rfl⟩) ⟨tP_blind, tP_of⟩ rfl rfl hl.1 rfl (lv_room (Nat.le_of_ble_eq_true rfl)) dX7_addSet_57 ⟨Nat.le_of_ble_eq_true rfl, Nat.le_of_ble_eq_true rfl⟩) hS (fun q _ h => absurd h id) (fun q h => absurd h id) (fun rs u9 t9 H locs ht9 hvm hw hB hz1 hk1 hS => ?_)
    have hP := P_same hP hk1
    by_cases hs_xb : shf xb
    rotate_left
    · refine t_i (hw.trans (bI_f hs_xb).symm) ?_
      refine b_if_eq hx hb (nI_toIntI (by omega)) dX7_addSet_60 (tgt := 70) (by decide) (fun c60 => ?_) (fun c60 => absurd c60 (by omega))
      refine lv_iconst (v := nI 1) hx hb dX7_addSet_70 (by decide) ?_
      refine lv_goto (tgt := 99) hx hb dX7_addSet_71 (by decide) ?_
      refine va_put (D := D) (ci := 7) (v := .int (nI 1)) (ty := .int) (C := RX7) (T := TX7) (N := 17) hx hb hts iX7 tyX7 tyX7_ok nmX7 hown hK hP hD hS 0 rfl rfl 5 (by decide) (hts _ k_f_X7_45) (fun _ h9 => h9) rfl (by decide +kernel) rfl rfl (Nat.le_of_ble_eq_true rfl) dX7_addSet_99 (fun H locs hP hD hS => ?_)
      have hP : va_P D vwCl (WM K mm ta sl ss be ch (nI 1) M rq cq pv so st gs gm gu gl aw) H := hP
      have hD : va_D A (WM K mm ta sl ss be ch (nI 1) M rq cq pv so st gs gm gu gl aw) := hD
      refine lv_aload_n hx hb dX7_addSet_102 rfl (lv_at hl 1 rfl) ?_
      refine va_get (D := D) (ci := 7) (C := RX7) (T := TX7) (N := 17) hx hb hts iX7 hown hK hP 0 rfl rfl 5 (by decide) (hts _ k_f_X7_45) (fun _ h9 => h9) rfl dX7_addSet_103 ?_
      refine b_if_eq hx hb (nI_toIntI (by omega)) dX7_addSet_106 (tgt := 111) (by decide) (fun c106 => absurd c106 (by omega)) (fun c106 => ?_)
      refine lv_iconst (v := nI 0) hx hb dX7_addSet_109 (by decide) ?_
      have hrs : rs_addSet d xa xb xc xs xr = _ := (cI_t (fun z => by first | exact hs_xa z.1 | exact hs_xb z.2.1 | exact hs_xc z.2.2))
      exact W.iret (v := nI 0) hx hb hr (fun t9 ht9 hW => ⟨⟨nI 0, (ta, sl, ss, be, ch, (nI 1), M, rq, cq, pv, so, st, gs, gm, gu, gl, aw), rfl, ⟨by rw [hrs], by rw [hrs]; exact fun h9 => absurd h9 (by decide), fun _ => hR⟩, by rw [ht9]; exact hP, va_K.moved hW.alike hK, hD⟩, hS.F ht9⟩) hS.2.2 dX7_addSet_110
    refine t_i (hw.trans (bI_t hs_xb).symm) ?_
    refine b_if_eq hx hb (nI_toIntI (by omega)) dX7_addSet_60 (tgt := 70) (by decide) (fun c60 => absurd c60 (by omega)) (fun c60 => ?_)
    refine lv_iload_n hx hb dX7_addSet_63 rfl (lv_at hl 4 rfl) ?_
    refine va_calli (va_runS (As := [.int xc]) (rest := [.ref (mm 0)]) ⟨hx, hb, hml, hown, hts⟩ (c_X7_isShaft l xc ) (va_cwS 1 hts (TB_S k_m_X7_53 k_st_X7_isShaft k_in_X7 k_co_X7_isShaft (fun _ h => h)) rfl rfl rfl (by decide +kernel) ⟨Nat.le_of_ble_eq_true rfl, Nat.le_of_ble_eq_true rfl⟩) ⟨tP_blind, tP_of⟩ rfl rfl hl.1 rfl (lv_room (Nat.le_of_ble_eq_true rfl)) dX7_addSet_64 ⟨Nat.le_of_ble_eq_true rfl, Nat.le_of_ble_eq_true rfl⟩) hS (fun q _ h => absurd h id) (fun q h => absurd h id) (fun rs u9 t9 H locs ht9 hvm hw hB hz1 hk1 hS => ?_)
    have hP := P_same hP hk1
    by_cases hs_xc : shf xc
    rotate_left
    · refine t_i (hw.trans (bI_f hs_xc).symm) ?_
      refine b_if_ne hx hb (nI_toIntI (by omega)) dX7_addSet_67 (tgt := 74) (by decide) (fun c67 => absurd c67 (by omega)) (fun c67 => ?_)
      refine lv_iconst (v := nI 1) hx hb dX7_addSet_70 (by decide) ?_
      refine lv_goto (tgt := 99) hx hb dX7_addSet_71 (by decide) ?_
      refine va_put (D := D) (ci := 7) (v := .int (nI 1)) (ty := .int) (C := RX7) (T := TX7) (N := 17) hx hb hts iX7 tyX7 tyX7_ok nmX7 hown hK hP hD hS 0 rfl rfl 5 (by decide) (hts _ k_f_X7_45) (fun _ h9 => h9) rfl (by decide +kernel) rfl rfl (Nat.le_of_ble_eq_true rfl) dX7_addSet_99 (fun H locs hP hD hS => ?_)
      have hP : va_P D vwCl (WM K mm ta sl ss be ch (nI 1) M rq cq pv so st gs gm gu gl aw) H := hP
      have hD : va_D A (WM K mm ta sl ss be ch (nI 1) M rq cq pv so st gs gm gu gl aw) := hD
      refine lv_aload_n hx hb dX7_addSet_102 rfl (lv_at hl 1 rfl) ?_
      refine va_get (D := D) (ci := 7) (C := RX7) (T := TX7) (N := 17) hx hb hts iX7 hown hK hP 0 rfl rfl 5 (by decide) (hts _ k_f_X7_45) (fun _ h9 => h9) rfl dX7_addSet_103 ?_
      refine b_if_eq hx hb (nI_toIntI (by omega)) dX7_addSet_106 (tgt := 111) (by decide) (fun c106 => absurd c106 (by omega)) (fun c106 => ?_)
      refine lv_iconst (v := nI 0) hx hb dX7_addSet_109 (by decide) ?_
      have hrs : rs_addSet d xa xb xc xs xr = _ := (cI_t (fun z => by first | exact hs_xa z.1 | exact hs_xb z.2.1 | exact hs_xc z.2.2))
      exact W.iret (v := nI 0) hx hb hr (fun t9 ht9 hW => ⟨⟨nI 0, (ta, sl, ss, be, ch, (nI 1), M, rq, cq, pv, so, st, gs, gm, gu, gl, aw), rfl, ⟨by rw [hrs], by rw [hrs]; exact fun h9 => absurd h9 (by decide), fun _ => hR⟩, by rw [ht9]; exact hP, va_K.moved hW.alike hK, hD⟩, hS.F ht9⟩) hS.2.2 dX7_addSet_110
    refine t_i (hw.trans (bI_t hs_xc).symm) ?_
    refine b_if_ne hx hb (nI_toIntI (by omega)) dX7_addSet_67 (tgt := 74) (by decide) (fun c67 => ?_) (fun c67 => absurd c67 (by omega))
    refine lv_iload hx hb dX7_addSet_74 (lv_at hl 0 rfl) ?_
    refine b_if_ne hx hb (nI_toIntI (by omega)) dX7_addSet_76 (tgt := 83) (by decide) (fun c76 => absurd c76 (by omega)) (fun c76 => ?_)
    refine lv_iconst (v := nI 2) hx hb dX7_addSet_79 (by decide) ?_
    refine lv_goto (tgt := 99) hx hb dX7_addSet_80 (by decide) ?_
    refine va_put (D := D) (ci := 7) (v := .int (nI 2)) (ty := .int) (C := RX7) (T := TX7) (N := 17) hx hb hts iX7 tyX7 tyX7_ok nmX7 hown hK hP hD hS 0 rfl rfl 5 (by decide) (hts _ k_f_X7_45) (fun _ h9 => h9) rfl (by decide +kernel) rfl rfl (Nat.le_of_ble_eq_true rfl) dX7_addSet_99 (fun H locs hP hD hS => ?_)
    have hP : va_P D vwCl (WM K mm ta sl ss be ch (nI 2) M rq cq pv so st gs gm gu gl aw) H := hP
    have hD : va_D A (WM K mm ta sl ss be ch (nI 2) M rq cq pv so st gs gm gu gl aw) := hD
    refine lv_aload_n hx hb dX7_addSet_102 rfl (lv_at hl 1 rfl) ?_
    refine va_get (D := D) (ci := 7) (C := RX7) (T := TX7) (N := 17) hx hb hts iX7 hown hK hP 0 rfl rfl 5 (by decide) (hts _ k_f_X7_45) (fun _ h9 => h9) rfl dX7_addSet_103 ?_
    refine b_if_eq hx hb (nI_toIntI (by omega)) dX7_addSet_106 (tgt := 111) (by decide) (fun c106 => absurd c106 (by omega)) (fun c106 => ?_)
    refine lv_iconst (v := nI 0) hx hb dX7_addSet_109 (by decide) ?_
    have hrs : rs_addSet d xa xb xc xs xr = (2, 0) := (cI_f (fun z => z ⟨hs_xa, hs_xb, hs_xc⟩)).trans (by
      by_cases q1 : xa = xb ∨ xa = xc ∨ xb = xc
      · exact cI_t q1
      · refine (cI_f q1).trans ?_
        by_cases q2 : xs.toInt < 10 ∨ 40 < xs.toInt
        · exact cI_t q2
        · refine (cI_f q2).trans ?_
          simp only [i32_eq] at q1
          exact cI_t (by omega))
    exact W.iret (v := nI 0) hx hb hr (fun t9 ht9 hW => ⟨⟨nI 0, (ta, sl, ss, be, ch, (nI 2), M, rq, cq, pv, so, st, gs, gm, gu, gl, aw), rfl, ⟨by rw [hrs], by rw [hrs]; exact fun h9 => absurd h9 (by decide), fun _ => hR⟩, by rw [ht9]; exact hP, va_K.moved hW.alike hK, hD⟩, hS.F ht9⟩) hS.2.2 dX7_addSet_110
  refine lv_iload hx hb dX7_addSet_15 (lv_at hl 4 rfl) ?_
  refine lv_bipush (v := nI 10) hx hb dX7_addSet_17 (by decide) ?_
  refine lv_bipush (v := nI 40) hx hb dX7_addSet_19 (by decide) ?_
  refine va_calli (va_runS (As := [.int xs, .int (nI 10), .int (nI 40)]) (rest := []) ⟨hx, hb, hml, hown, hts⟩ (c_X7_in l xs (nI 10) (nI 40) ) (va_cwS 3 hts (TB_S k_m_X7_49 k_st_X7_in k_in_X7 k_co_X7_in (fun _ h => h)) rfl rfl rfl (by decide +kernel) ⟨Nat.le_of_ble_eq_true rfl, Nat.le_of_ble_eq_true rfl⟩) ⟨tP_blind, tP_of⟩ rfl rfl hl.1 rfl (lv_room (Nat.le_of_ble_eq_true rfl)) dX7_addSet_21 ⟨Nat.le_of_ble_eq_true rfl, Nat.le_of_ble_eq_true rfl⟩) hS (fun q _ h => absurd h id) (fun q h => absurd h id) (fun zi u9 t9 H locs ht9 hvm hw hB hz1 hk1 hS => ?_)
  have hP := P_same hP hk1
  have hw := hw.trans (bI_iff (show _ ↔ (10 ≤ xs.toInt ∧ xs.toInt ≤ 40) by rw [nI_toIntI (by omega), nI_toIntI (by omega)]; omega))
  by_cases hin9 : 10 ≤ xs.toInt ∧ xs.toInt ≤ 40
  rotate_left
  · refine t_i (hw.trans (bI_f hin9).symm) ?_
    refine b_if_eq hx hb (nI_toIntI (by omega)) dX7_addSet_24 (tgt := 45) (by decide) (fun c24 => ?_) (fun c24 => absurd c24 (by omega))
    refine lv_iconst (v := nI 0) hx hb dX7_addSet_45 (by decide) ?_
    refine lv_istore (lv' := [(6, .int (nI 0)), (0, .ref (mm 0)), (1, .int xa), (2, .int xb), (3, .int xc), (4, .int xs), (5, .int xr)]) hx hb dX7_addSet_46 hl (by decide) rfl (fun ls hl => ?_)
    refine lv_aload_n hx hb dX7_addSet_48 rfl (lv_at hl 1 rfl) ?_
    refine lv_iload_n hx hb dX7_addSet_49 rfl (lv_at hl 2 rfl) ?_
    refine va_calli (va_runS (As := [.int xa]) (rest := [.ref (mm 0)]) ⟨hx, hb, hml, hown, hts⟩ (c_X7_isShaft l xa ) (va_cwS 1 hts (TB_S k_m_X7_53 k_st_X7_isShaft k_in_X7 k_co_X7_isShaft (fun _ h => h)) rfl rfl rfl (by decide +kernel) ⟨Nat.le_of_ble_eq_true rfl, Nat.le_of_ble_eq_true rfl⟩) ⟨tP_blind, tP_of⟩ rfl rfl hl.1 rfl (lv_room (Nat.le_of_ble_eq_true rfl)) dX7_addSet_50 ⟨Nat.le_of_ble_eq_true rfl, Nat.le_of_ble_eq_true rfl⟩) hS (fun q _ h => absurd h id) (fun q h => absurd h id) (fun rs u9 t9 H locs ht9 hvm hw hB hz1 hk1 hS => ?_)
    have hP := P_same hP hk1
    by_cases hs_xa : shf xa
    rotate_left
    · refine t_i (hw.trans (bI_f hs_xa).symm) ?_
      refine b_if_eq hx hb (nI_toIntI (by omega)) dX7_addSet_53 (tgt := 70) (by decide) (fun c53 => ?_) (fun c53 => absurd c53 (by omega))
      refine lv_iconst (v := nI 1) hx hb dX7_addSet_70 (by decide) ?_
      refine lv_goto (tgt := 99) hx hb dX7_addSet_71 (by decide) ?_
      refine va_put (D := D) (ci := 7) (v := .int (nI 1)) (ty := .int) (C := RX7) (T := TX7) (N := 17) hx hb hts iX7 tyX7 tyX7_ok nmX7 hown hK hP hD hS 0 rfl rfl 5 (by decide) (hts _ k_f_X7_45) (fun _ h9 => h9) rfl (by decide +kernel) rfl rfl (Nat.le_of_ble_eq_true rfl) dX7_addSet_99 (fun H locs hP hD hS => ?_)
      have hP : va_P D vwCl (WM K mm ta sl ss be ch (nI 1) M rq cq pv so st gs gm gu gl aw) H := hP
      have hD : va_D A (WM K mm ta sl ss be ch (nI 1) M rq cq pv so st gs gm gu gl aw) := hD
      refine lv_aload_n hx hb dX7_addSet_102 rfl (lv_at hl 1 rfl) ?_
      refine va_get (D := D) (ci := 7) (C := RX7) (T := TX7) (N := 17) hx hb hts iX7 hown hK hP 0 rfl rfl 5 (by decide) (hts _ k_f_X7_45) (fun _ h9 => h9) rfl dX7_addSet_103 ?_
      refine b_if_eq hx hb (nI_toIntI (by omega)) dX7_addSet_106 (tgt := 111) (by decide) (fun c106 => absurd c106 (by omega)) (fun c106 => ?_)
      refine lv_iconst (v := nI 0) hx hb dX7_addSet_109 (by decide) ?_
      have hrs : rs_addSet d xa xb xc xs xr = _ := (cI_t (fun z => by first | exact hs_xa z.1 | exact hs_xb z.2.1 | exact hs_xc z.2.2))
      exact W.iret (v := nI 0) hx hb hr (fun t9 ht9 hW => ⟨⟨nI 0, (ta, sl, ss, be, ch, (nI 1), M, rq, cq, pv, so, st, gs, gm, gu, gl, aw), rfl, ⟨by rw [hrs], by rw [hrs]; exact fun h9 => absurd h9 (by decide), fun _ => hR⟩, by rw [ht9]; exact hP, va_K.moved hW.alike hK, hD⟩, hS.F ht9⟩) hS.2.2 dX7_addSet_110
    refine t_i (hw.trans (bI_t hs_xa).symm) ?_
    refine b_if_eq hx hb (nI_toIntI (by omega)) dX7_addSet_53 (tgt := 70) (by decide) (fun c53 => absurd c53 (by omega)) (fun c53 => ?_)
    refine lv_iload_n hx hb dX7_addSet_56 rfl (lv_at hl 3 rfl) ?_
    refine va_calli (va_runS (As := [.int xb]) (rest := [.ref (mm 0)]) ⟨hx, hb, hml, hown, hts⟩ (c_X7_isShaft l xb ) (va_cwS 1 hts (TB_S k_m_X7_53 k_st_X7_isShaft k_in_X7 k_co_X7_isShaft (fun _ h => h)) rfl rfl rfl (by decide +kernel) ⟨Nat.le_of_ble_eq_true rfl, Nat.le_of_ble_eq_true rfl⟩) ⟨tP_blind, tP_of⟩ rfl rfl hl.1 rfl (lv_room (Nat.le_of_ble_eq_true rfl)) dX7_addSet_57 ⟨Nat.le_of_ble_eq_true rfl, Nat.le_of_ble_eq_true rfl⟩) hS (fun q _ h => absurd h id) (fun q h => absurd h id) (fun rs u9 t9 H locs ht9 hvm hw hB hz1 hk1 hS => ?_)
    have hP := P_same hP hk1
    by_cases hs_xb : shf xb
    rotate_left
    · refine t_i (hw.trans (bI_f hs_xb).symm) ?_
      refine b_if_eq hx hb (nI_toIntI (by omega)) dX7_addSet_60 (tgt := 70) (by decide) (fun c60 => ?_) (fun c60 => absurd c60 (by omega))
      refine lv_iconst (v := nI 1) hx hb dX7_addSet_70 (by decide) ?_
      refine lv_goto (tgt := 99) hx hb dX7_addSet_71 (by decide) ?_
      refine va_put (D := D) (ci := 7) (v := .int (nI 1)) (ty := .int) (C := RX7) (T := TX7) (N := 17) hx hb hts iX7 tyX7 tyX7_ok nmX7 hown hK hP hD hS 0 rfl rfl 5 (by decide) (hts _ k_f_X7_45) (fun _ h9 => h9) rfl (by decide +kernel) rfl rfl (Nat.le_of_ble_eq_true rfl) dX7_addSet_99 (fun H locs hP hD hS => ?_)
      have hP : va_P D vwCl (WM K mm ta sl ss be ch (nI 1) M rq cq pv so st gs gm gu gl aw) H := hP
      have hD : va_D A (WM K mm ta sl ss be ch (nI 1) M rq cq pv so st gs gm gu gl aw) := hD
      refine lv_aload_n hx hb dX7_addSet_102 rfl (lv_at hl 1 rfl) ?_
      refine va_get (D := D) (ci := 7) (C := RX7) (T := TX7) (N := 17) hx hb hts iX7 hown hK hP 0 rfl rfl 5 (by decide) (hts _ k_f_X7_45) (fun _ h9 => h9) rfl dX7_addSet_103 ?_
      refine b_if_eq hx hb (nI_toIntI (by omega)) dX7_addSet_106 (tgt := 111) (by decide) (fun c106 => absurd c106 (by omega)) (fun c106 => ?_)
      refine lv_iconst (v := nI 0) hx hb dX7_addSet_109 (by decide) ?_
      have hrs : rs_addSet d xa xb xc xs xr = _ := (cI_t (fun z => by first | exact hs_xa z.1 | exact hs_xb z.2.1 | exact hs_xc z.2.2))
      exact W.iret (v := nI 0) hx hb hr (fun t9 ht9 hW => ⟨⟨nI 0, (ta, sl, ss, be, ch, (nI 1), M, rq, cq, pv, so, st, gs, gm, gu, gl, aw), rfl, ⟨by rw [hrs], by rw [hrs]; exact fun h9 => absurd h9 (by decide), fun _ => hR⟩, by rw [ht9]; exact hP, va_K.moved hW.alike hK, hD⟩, hS.F ht9⟩) hS.2.2 dX7_addSet_110
    refine t_i (hw.trans (bI_t hs_xb).symm) ?_
    refine b_if_eq hx hb (nI_toIntI (by omega)) dX7_addSet_60 (tgt := 70) (by decide) (fun c60 => absurd c60 (by omega)) (fun c60 => ?_)
    refine lv_iload_n hx hb dX7_addSet_63 rfl (lv_at hl 4 rfl) ?_
    refine va_calli (va_runS (As := [.int xc]) (rest := [.ref (mm 0)]) ⟨hx, hb, hml, hown, hts⟩ (c_X7_isShaft l xc ) (va_cwS 1 hts (TB_S k_m_X7_53 k_st_X7_isShaft k_in_X7 k_co_X7_isShaft (fun _ h => h)) rfl rfl rfl (by decide +kernel) ⟨Nat.le_of_ble_eq_true rfl, Nat.le_of_ble_eq_true rfl⟩) ⟨tP_blind, tP_of⟩ rfl rfl hl.1 rfl (lv_room (Nat.le_of_ble_eq_true rfl)) dX7_addSet_64 ⟨Nat.le_of_ble_eq_true rfl, Nat.le_of_ble_eq_true rfl⟩) hS (fun q _ h => absurd h id) (fun q h => absurd h id) (fun rs u9 t9 H locs ht9 hvm hw hB hz1 hk1 hS => ?_)
    have hP := P_same hP hk1
    by_cases hs_xc : shf xc
    rotate_left
    · refine t_i (hw.trans (bI_f hs_xc).symm) ?_
      refine b_if_ne hx hb (nI_toIntI (by omega)) dX7_addSet_67 (tgt := 74) (by decide) (fun c67 => absurd c67 (by omega)) (fun c67 => ?_)
      refine lv_iconst (v := nI 1) hx hb dX7_addSet_70 (by decide) ?_
      refine lv_goto (tgt := 99) hx hb dX7_addSet_71 (by decide) ?_
      refine va_put (D := D) (ci := 7) (v := .int (nI 1)) (ty := .int) (C := RX7) (T := TX7) (N := 17) hx hb hts iX7 tyX7 tyX7_ok nmX7 hown hK hP hD hS 0 rfl rfl 5 (by decide) (hts _ k_f_X7_45) (fun _ h9 => h9) rfl (by decide +kernel) rfl rfl (Nat.le_of_ble_eq_true rfl) dX7_addSet_99 (fun H locs hP hD hS => ?_)
      have hP : va_P D vwCl (WM K mm ta sl ss be ch (nI 1) M rq cq pv so st gs gm gu gl aw) H := hP
      have hD : va_D A (WM K mm ta sl ss be ch (nI 1) M rq cq pv so st gs gm gu gl aw) := hD
      refine lv_aload_n hx hb dX7_addSet_102 rfl (lv_at hl 1 rfl) ?_
      refine va_get (D := D) (ci := 7) (C := RX7) (T := TX7) (N := 17) hx hb hts iX7 hown hK hP 0 rfl rfl 5 (by decide) (hts _ k_f_X7_45) (fun _ h9 => h9) rfl dX7_addSet_103 ?_
      refine b_if_eq hx hb (nI_toIntI (by omega)) dX7_addSet_106 (tgt := 111) (by decide) (fun c106 => absurd c106 (by omega)) (fun c106 => ?_)
      refine lv_iconst (v := nI 0) hx hb dX7_addSet_109 (by decide) ?_
      have hrs : rs_addSet d xa xb xc xs xr = _ := (cI_t (fun z => by first | exact hs_xa z.1 | exact hs_xb z.2.1 | exact hs_xc z.2.2))
      exact W.iret (v := nI 0) hx hb hr (fun t9 ht9 hW => ⟨⟨nI 0, (ta, sl, ss, be, ch, (nI 1), M, rq, cq, pv, so, st, gs, gm, gu, gl, aw), rfl, ⟨by rw [hrs], by rw [hrs]; exact fun h9 => absurd h9 (by decide), fun _ => hR⟩, by rw [ht9]; exact hP, va_K.moved hW.alike hK, hD⟩, hS.F ht9⟩) hS.2.2 dX7_addSet_110
    refine t_i (hw.trans (bI_t hs_xc).symm) ?_
    refine b_if_ne hx hb (nI_toIntI (by omega)) dX7_addSet_67 (tgt := 74) (by decide) (fun c67 => ?_) (fun c67 => absurd c67 (by omega))
    refine lv_iload hx hb dX7_addSet_74 (lv_at hl 0 rfl) ?_
    refine b_if_ne hx hb (nI_toIntI (by omega)) dX7_addSet_76 (tgt := 83) (by decide) (fun c76 => absurd c76 (by omega)) (fun c76 => ?_)
    refine lv_iconst (v := nI 2) hx hb dX7_addSet_79 (by decide) ?_
    refine lv_goto (tgt := 99) hx hb dX7_addSet_80 (by decide) ?_
    refine va_put (D := D) (ci := 7) (v := .int (nI 2)) (ty := .int) (C := RX7) (T := TX7) (N := 17) hx hb hts iX7 tyX7 tyX7_ok nmX7 hown hK hP hD hS 0 rfl rfl 5 (by decide) (hts _ k_f_X7_45) (fun _ h9 => h9) rfl (by decide +kernel) rfl rfl (Nat.le_of_ble_eq_true rfl) dX7_addSet_99 (fun H locs hP hD hS => ?_)
    have hP : va_P D vwCl (WM K mm ta sl ss be ch (nI 2) M rq cq pv so st gs gm gu gl aw) H := hP
    have hD : va_D A (WM K mm ta sl ss be ch (nI 2) M rq cq pv so st gs gm gu gl aw) := hD
    refine lv_aload_n hx hb dX7_addSet_102 rfl (lv_at hl 1 rfl) ?_
    refine va_get (D := D) (ci := 7) (C := RX7) (T := TX7) (N := 17) hx hb hts iX7 hown hK hP 0 rfl rfl 5 (by decide) (hts _ k_f_X7_45) (fun _ h9 => h9) rfl dX7_addSet_103 ?_
    refine b_if_eq hx hb (nI_toIntI (by omega)) dX7_addSet_106 (tgt := 111) (by decide) (fun c106 => absurd c106 (by omega)) (fun c106 => ?_)
    refine lv_iconst (v := nI 0) hx hb dX7_addSet_109 (by decide) ?_
    have hrs : rs_addSet d xa xb xc xs xr = (2, 0) := (cI_f (fun z => z ⟨hs_xa, hs_xb, hs_xc⟩)).trans (by
      by_cases q1 : xa = xb ∨ xa = xc ∨ xb = xc
      · exact cI_t q1
      · refine (cI_f q1).trans ?_
        by_cases q2 : xs.toInt < 10 ∨ 40 < xs.toInt
        · exact cI_t q2
        · refine (cI_f q2).trans ?_
          simp only [i32_eq] at q1
          exact cI_t (by omega))
    exact W.iret (v := nI 0) hx hb hr (fun t9 ht9 hW => ⟨⟨nI 0, (ta, sl, ss, be, ch, (nI 2), M, rq, cq, pv, so, st, gs, gm, gu, gl, aw), rfl, ⟨by rw [hrs], by rw [hrs]; exact fun h9 => absurd h9 (by decide), fun _ => hR⟩, by rw [ht9]; exact hP, va_K.moved hW.alike hK, hD⟩, hS.F ht9⟩) hS.2.2 dX7_addSet_110
  refine t_i (hw.trans (bI_t hin9).symm) ?_
  have hxs1 := I_add1 hin9
  refine b_if_eq hx hb (nI_toIntI (by omega)) dX7_addSet_24 (tgt := 45) (by decide) (fun c24 => absurd c24 (by omega)) (fun c24 => ?_)
  refine lv_iload hx hb dX7_addSet_27 (lv_at hl 5 rfl) ?_
  refine lv_iload hx hb dX7_addSet_29 (lv_at hl 4 rfl) ?_
  refine lv_iconst (v := nI 1) hx hb dX7_addSet_31 (by decide) ?_
  refine lv_iadd hx hb dX7_addSet_32 ?_
  refine lv_bipush (v := nI 100) hx hb dX7_addSet_33 (by decide) ?_
  refine va_calli (va_runS (As := [.int xr, .int (xs + (nI 1)), .int (nI 100)]) (rest := []) ⟨hx, hb, hml, hown, hts⟩ (c_X7_in l xr (xs + nI 1) (nI 100) ) (va_cwS 3 hts (TB_S k_m_X7_49 k_st_X7_in k_in_X7 k_co_X7_in (fun _ h => h)) rfl rfl rfl (by decide +kernel) ⟨Nat.le_of_ble_eq_true rfl, Nat.le_of_ble_eq_true rfl⟩) ⟨tP_blind, tP_of⟩ rfl rfl hl.1 rfl (lv_room (Nat.le_of_ble_eq_true rfl)) dX7_addSet_35 ⟨Nat.le_of_ble_eq_true rfl, Nat.le_of_ble_eq_true rfl⟩) hS (fun q _ h => absurd h id) (fun q h => absurd h id) (fun zj u9 t9 H locs ht9 hvm hw hB hz1 hk1 hS => ?_)
  have hP := P_same hP hk1
  have hw := hw.trans (bI_iff (show _ ↔ (xs.toInt + 1 ≤ xr.toInt ∧ xr.toInt ≤ 100) by rw [hxs1, nI_toIntI (by omega)]; omega))
  by_cases hin8 : xs.toInt + 1 ≤ xr.toInt ∧ xr.toInt ≤ 100
  rotate_left
  · refine t_i (hw.trans (bI_f hin8).symm) ?_
    refine b_if_eq hx hb (nI_toIntI (by omega)) dX7_addSet_38 (tgt := 45) (by decide) (fun c38 => ?_) (fun c38 => absurd c38 (by omega))
    refine lv_iconst (v := nI 0) hx hb dX7_addSet_45 (by decide) ?_
    refine lv_istore (lv' := [(6, .int (nI 0)), (0, .ref (mm 0)), (1, .int xa), (2, .int xb), (3, .int xc), (4, .int xs), (5, .int xr)]) hx hb dX7_addSet_46 hl (by decide) rfl (fun ls hl => ?_)
    refine lv_aload_n hx hb dX7_addSet_48 rfl (lv_at hl 1 rfl) ?_
    refine lv_iload_n hx hb dX7_addSet_49 rfl (lv_at hl 2 rfl) ?_
    refine va_calli (va_runS (As := [.int xa]) (rest := [.ref (mm 0)]) ⟨hx, hb, hml, hown, hts⟩ (c_X7_isShaft l xa ) (va_cwS 1 hts (TB_S k_m_X7_53 k_st_X7_isShaft k_in_X7 k_co_X7_isShaft (fun _ h => h)) rfl rfl rfl (by decide +kernel) ⟨Nat.le_of_ble_eq_true rfl, Nat.le_of_ble_eq_true rfl⟩) ⟨tP_blind, tP_of⟩ rfl rfl hl.1 rfl (lv_room (Nat.le_of_ble_eq_true rfl)) dX7_addSet_50 ⟨Nat.le_of_ble_eq_true rfl, Nat.le_of_ble_eq_true rfl⟩) hS (fun q _ h => absurd h id) (fun q h => absurd h id) (fun rs u9 t9 H locs ht9 hvm hw hB hz1 hk1 hS => ?_)
    have hP := P_same hP hk1
    by_cases hs_xa : shf xa
    rotate_left
    · refine t_i (hw.trans (bI_f hs_xa).symm) ?_
      refine b_if_eq hx hb (nI_toIntI (by omega)) dX7_addSet_53 (tgt := 70) (by decide) (fun c53 => ?_) (fun c53 => absurd c53 (by omega))
      refine lv_iconst (v := nI 1) hx hb dX7_addSet_70 (by decide) ?_
      refine lv_goto (tgt := 99) hx hb dX7_addSet_71 (by decide) ?_
      refine va_put (D := D) (ci := 7) (v := .int (nI 1)) (ty := .int) (C := RX7) (T := TX7) (N := 17) hx hb hts iX7 tyX7 tyX7_ok nmX7 hown hK hP hD hS 0 rfl rfl 5 (by decide) (hts _ k_f_X7_45) (fun _ h9 => h9) rfl (by decide +kernel) rfl rfl (Nat.le_of_ble_eq_true rfl) dX7_addSet_99 (fun H locs hP hD hS => ?_)
      have hP : va_P D vwCl (WM K mm ta sl ss be ch (nI 1) M rq cq pv so st gs gm gu gl aw) H := hP
      have hD : va_D A (WM K mm ta sl ss be ch (nI 1) M rq cq pv so st gs gm gu gl aw) := hD
      refine lv_aload_n hx hb dX7_addSet_102 rfl (lv_at hl 1 rfl) ?_
      refine va_get (D := D) (ci := 7) (C := RX7) (T := TX7) (N := 17) hx hb hts iX7 hown hK hP 0 rfl rfl 5 (by decide) (hts _ k_f_X7_45) (fun _ h9 => h9) rfl dX7_addSet_103 ?_
      refine b_if_eq hx hb (nI_toIntI (by omega)) dX7_addSet_106 (tgt := 111) (by decide) (fun c106 => absurd c106 (by omega)) (fun c106 => ?_)
      refine lv_iconst (v := nI 0) hx hb dX7_addSet_109 (by decide) ?_
      have hrs : rs_addSet d xa xb xc xs xr = _ := (cI_t (fun z => by first | exact hs_xa z.1 | exact hs_xb z.2.1 | exact hs_xc z.2.2))
      exact W.iret (v := nI 0) hx hb hr (fun t9 ht9 hW => ⟨⟨nI 0, (ta, sl, ss, be, ch, (nI 1), M, rq, cq, pv, so, st, gs, gm, gu, gl, aw), rfl, ⟨by rw [hrs], by rw [hrs]; exact fun h9 => absurd h9 (by decide), fun _ => hR⟩, by rw [ht9]; exact hP, va_K.moved hW.alike hK, hD⟩, hS.F ht9⟩) hS.2.2 dX7_addSet_110
    refine t_i (hw.trans (bI_t hs_xa).symm) ?_
    refine b_if_eq hx hb (nI_toIntI (by omega)) dX7_addSet_53 (tgt := 70) (by decide) (fun c53 => absurd c53 (by omega)) (fun c53 => ?_)
    refine lv_iload_n hx hb dX7_addSet_56 rfl (lv_at hl 3 rfl) ?_
    refine va_calli (va_runS (As := [.int xb]) (rest := [.ref (mm 0)]) ⟨hx, hb, hml, hown, hts⟩ (c_X7_isShaft l xb ) (va_cwS 1 hts (TB_S k_m_X7_53 k_st_X7_isShaft k_in_X7 k_co_X7_isShaft (fun _ h => h)) rfl rfl rfl (by decide +kernel) ⟨Nat.le_of_ble_eq_true rfl, Nat.le_of_ble_eq_true rfl⟩) ⟨tP_blind, tP_of⟩ rfl rfl hl.1 rfl (lv_room (Nat.le_of_ble_eq_true rfl)) dX7_addSet_57 ⟨Nat.le_of_ble_eq_true rfl, Nat.le_of_ble_eq_true rfl⟩) hS (fun q _ h => absurd h id) (fun q h => absurd h id) (fun rs u9 t9 H locs ht9 hvm hw hB hz1 hk1 hS => ?_)
    have hP := P_same hP hk1
    by_cases hs_xb : shf xb
    rotate_left
    · refine t_i (hw.trans (bI_f hs_xb).symm) ?_
      refine b_if_eq hx hb (nI_toIntI (by omega)) dX7_addSet_60 (tgt := 70) (by decide) (fun c60 => ?_) (fun c60 => absurd c60 (by omega))
      refine lv_iconst (v := nI 1) hx hb dX7_addSet_70 (by decide) ?_
      refine lv_goto (tgt := 99) hx hb dX7_addSet_71 (by decide) ?_
      refine va_put (D := D) (ci := 7) (v := .int (nI 1)) (ty := .int) (C := RX7) (T := TX7) (N := 17) hx hb hts iX7 tyX7 tyX7_ok nmX7 hown hK hP hD hS 0 rfl rfl 5 (by decide) (hts _ k_f_X7_45) (fun _ h9 => h9) rfl (by decide +kernel) rfl rfl (Nat.le_of_ble_eq_true rfl) dX7_addSet_99 (fun H locs hP hD hS => ?_)
      have hP : va_P D vwCl (WM K mm ta sl ss be ch (nI 1) M rq cq pv so st gs gm gu gl aw) H := hP
      have hD : va_D A (WM K mm ta sl ss be ch (nI 1) M rq cq pv so st gs gm gu gl aw) := hD
      refine lv_aload_n hx hb dX7_addSet_102 rfl (lv_at hl 1 rfl) ?_
      refine va_get (D := D) (ci := 7) (C := RX7) (T := TX7) (N := 17) hx hb hts iX7 hown hK hP 0 rfl rfl 5 (by decide) (hts _ k_f_X7_45) (fun _ h9 => h9) rfl dX7_addSet_103 ?_
      refine b_if_eq hx hb (nI_toIntI (by omega)) dX7_addSet_106 (tgt := 111) (by decide) (fun c106 => absurd c106 (by omega)) (fun c106 => ?_)
      refine lv_iconst (v := nI 0) hx hb dX7_addSet_109 (by decide) ?_
      have hrs : rs_addSet d xa xb xc xs xr = _ := (cI_t (fun z => by first | exact hs_xa z.1 | exact hs_xb z.2.1 | exact hs_xc z.2.2))
      exact W.iret (v := nI 0) hx hb hr (fun t9 ht9 hW => ⟨⟨nI 0, (ta, sl, ss, be, ch, (nI 1), M, rq, cq, pv, so, st, gs, gm, gu, gl, aw), rfl, ⟨by rw [hrs], by rw [hrs]; exact fun h9 => absurd h9 (by decide), fun _ => hR⟩, by rw [ht9]; exact hP, va_K.moved hW.alike hK, hD⟩, hS.F ht9⟩) hS.2.2 dX7_addSet_110
    refine t_i (hw.trans (bI_t hs_xb).symm) ?_
    refine b_if_eq hx hb (nI_toIntI (by omega)) dX7_addSet_60 (tgt := 70) (by decide) (fun c60 => absurd c60 (by omega)) (fun c60 => ?_)
    refine lv_iload_n hx hb dX7_addSet_63 rfl (lv_at hl 4 rfl) ?_
    refine va_calli (va_runS (As := [.int xc]) (rest := [.ref (mm 0)]) ⟨hx, hb, hml, hown, hts⟩ (c_X7_isShaft l xc ) (va_cwS 1 hts (TB_S k_m_X7_53 k_st_X7_isShaft k_in_X7 k_co_X7_isShaft (fun _ h => h)) rfl rfl rfl (by decide +kernel) ⟨Nat.le_of_ble_eq_true rfl, Nat.le_of_ble_eq_true rfl⟩) ⟨tP_blind, tP_of⟩ rfl rfl hl.1 rfl (lv_room (Nat.le_of_ble_eq_true rfl)) dX7_addSet_64 ⟨Nat.le_of_ble_eq_true rfl, Nat.le_of_ble_eq_true rfl⟩) hS (fun q _ h => absurd h id) (fun q h => absurd h id) (fun rs u9 t9 H locs ht9 hvm hw hB hz1 hk1 hS => ?_)
    have hP := P_same hP hk1
    by_cases hs_xc : shf xc
    rotate_left
    · refine t_i (hw.trans (bI_f hs_xc).symm) ?_
      refine b_if_ne hx hb (nI_toIntI (by omega)) dX7_addSet_67 (tgt := 74) (by decide) (fun c67 => absurd c67 (by omega)) (fun c67 => ?_)
      refine lv_iconst (v := nI 1) hx hb dX7_addSet_70 (by decide) ?_
      refine lv_goto (tgt := 99) hx hb dX7_addSet_71 (by decide) ?_
      refine va_put (D := D) (ci := 7) (v := .int (nI 1)) (ty := .int) (C := RX7) (T := TX7) (N := 17) hx hb hts iX7 tyX7 tyX7_ok nmX7 hown hK hP hD hS 0 rfl rfl 5 (by decide) (hts _ k_f_X7_45) (fun _ h9 => h9) rfl (by decide +kernel) rfl rfl (Nat.le_of_ble_eq_true rfl) dX7_addSet_99 (fun H locs hP hD hS => ?_)
      have hP : va_P D vwCl (WM K mm ta sl ss be ch (nI 1) M rq cq pv so st gs gm gu gl aw) H := hP
      have hD : va_D A (WM K mm ta sl ss be ch (nI 1) M rq cq pv so st gs gm gu gl aw) := hD
      refine lv_aload_n hx hb dX7_addSet_102 rfl (lv_at hl 1 rfl) ?_
      refine va_get (D := D) (ci := 7) (C := RX7) (T := TX7) (N := 17) hx hb hts iX7 hown hK hP 0 rfl rfl 5 (by decide) (hts _ k_f_X7_45) (fun _ h9 => h9) rfl dX7_addSet_103 ?_
      refine b_if_eq hx hb (nI_toIntI (by omega)) dX7_addSet_106 (tgt := 111) (by decide) (fun c106 => absurd c106 (by omega)) (fun c106 => ?_)
      refine lv_iconst (v := nI 0) hx hb dX7_addSet_109 (by decide) ?_
      have hrs : rs_addSet d xa xb xc xs xr = _ := (cI_t (fun z => by first | exact hs_xa z.1 | exact hs_xb z.2.1 | exact hs_xc z.2.2))
      exact W.iret (v := nI 0) hx hb hr (fun t9 ht9 hW => ⟨⟨nI 0, (ta, sl, ss, be, ch, (nI 1), M, rq, cq, pv, so, st, gs, gm, gu, gl, aw), rfl, ⟨by rw [hrs], by rw [hrs]; exact fun h9 => absurd h9 (by decide), fun _ => hR⟩, by rw [ht9]; exact hP, va_K.moved hW.alike hK, hD⟩, hS.F ht9⟩) hS.2.2 dX7_addSet_110
    refine t_i (hw.trans (bI_t hs_xc).symm) ?_
    refine b_if_ne hx hb (nI_toIntI (by omega)) dX7_addSet_67 (tgt := 74) (by decide) (fun c67 => ?_) (fun c67 => absurd c67 (by omega))
    refine lv_iload hx hb dX7_addSet_74 (lv_at hl 0 rfl) ?_
    refine b_if_ne hx hb (nI_toIntI (by omega)) dX7_addSet_76 (tgt := 83) (by decide) (fun c76 => absurd c76 (by omega)) (fun c76 => ?_)
    refine lv_iconst (v := nI 2) hx hb dX7_addSet_79 (by decide) ?_
    refine lv_goto (tgt := 99) hx hb dX7_addSet_80 (by decide) ?_
    refine va_put (D := D) (ci := 7) (v := .int (nI 2)) (ty := .int) (C := RX7) (T := TX7) (N := 17) hx hb hts iX7 tyX7 tyX7_ok nmX7 hown hK hP hD hS 0 rfl rfl 5 (by decide) (hts _ k_f_X7_45) (fun _ h9 => h9) rfl (by decide +kernel) rfl rfl (Nat.le_of_ble_eq_true rfl) dX7_addSet_99 (fun H locs hP hD hS => ?_)
    have hP : va_P D vwCl (WM K mm ta sl ss be ch (nI 2) M rq cq pv so st gs gm gu gl aw) H := hP
    have hD : va_D A (WM K mm ta sl ss be ch (nI 2) M rq cq pv so st gs gm gu gl aw) := hD
    refine lv_aload_n hx hb dX7_addSet_102 rfl (lv_at hl 1 rfl) ?_
    refine va_get (D := D) (ci := 7) (C := RX7) (T := TX7) (N := 17) hx hb hts iX7 hown hK hP 0 rfl rfl 5 (by decide) (hts _ k_f_X7_45) (fun _ h9 => h9) rfl dX7_addSet_103 ?_
    refine b_if_eq hx hb (nI_toIntI (by omega)) dX7_addSet_106 (tgt := 111) (by decide) (fun c106 => absurd c106 (by omega)) (fun c106 => ?_)
    refine lv_iconst (v := nI 0) hx hb dX7_addSet_109 (by decide) ?_
    have hrs : rs_addSet d xa xb xc xs xr = (2, 0) := (cI_f (fun z => z ⟨hs_xa, hs_xb, hs_xc⟩)).trans (by
      by_cases q1 : xa = xb ∨ xa = xc ∨ xb = xc
      · exact cI_t q1
      · refine (cI_f q1).trans ?_
        by_cases q2 : xs.toInt < 10 ∨ 40 < xs.toInt
        · exact cI_t q2
        · refine (cI_f q2).trans ?_
          simp only [i32_eq] at q1
          exact cI_t (by omega))
    exact W.iret (v := nI 0) hx hb hr (fun t9 ht9 hW => ⟨⟨nI 0, (ta, sl, ss, be, ch, (nI 2), M, rq, cq, pv, so, st, gs, gm, gu, gl, aw), rfl, ⟨by rw [hrs], by rw [hrs]; exact fun h9 => absurd h9 (by decide), fun _ => hR⟩, by rw [ht9]; exact hP, va_K.moved hW.alike hK, hD⟩, hS.F ht9⟩) hS.2.2 dX7_addSet_110
  refine t_i (hw.trans (bI_t hin8).symm) ?_
  refine b_if_eq hx hb (nI_toIntI (by omega)) dX7_addSet_38 (tgt := 45) (by decide) (fun c38 => absurd c38 (by omega)) (fun c38 => ?_)
  refine lv_iconst (v := nI 1) hx hb dX7_addSet_41 (by decide) ?_
  refine lv_goto (tgt := 46) hx hb dX7_addSet_42 (by decide) ?_
  refine lv_istore (lv' := [(6, .int (nI 1)), (0, .ref (mm 0)), (1, .int xa), (2, .int xb), (3, .int xc), (4, .int xs), (5, .int xr)]) hx hb dX7_addSet_46 hl (by decide) rfl (fun ls hl => ?_)
  refine lv_aload_n hx hb dX7_addSet_48 rfl (lv_at hl 1 rfl) ?_
  refine lv_iload_n hx hb dX7_addSet_49 rfl (lv_at hl 2 rfl) ?_
  refine va_calli (va_runS (As := [.int xa]) (rest := [.ref (mm 0)]) ⟨hx, hb, hml, hown, hts⟩ (c_X7_isShaft l xa ) (va_cwS 1 hts (TB_S k_m_X7_53 k_st_X7_isShaft k_in_X7 k_co_X7_isShaft (fun _ h => h)) rfl rfl rfl (by decide +kernel) ⟨Nat.le_of_ble_eq_true rfl, Nat.le_of_ble_eq_true rfl⟩) ⟨tP_blind, tP_of⟩ rfl rfl hl.1 rfl (lv_room (Nat.le_of_ble_eq_true rfl)) dX7_addSet_50 ⟨Nat.le_of_ble_eq_true rfl, Nat.le_of_ble_eq_true rfl⟩) hS (fun q _ h => absurd h id) (fun q h => absurd h id) (fun rs u9 t9 H locs ht9 hvm hw hB hz1 hk1 hS => ?_)
  have hP := P_same hP hk1
  by_cases hs_xa : shf xa
  rotate_left
  · refine t_i (hw.trans (bI_f hs_xa).symm) ?_
    refine b_if_eq hx hb (nI_toIntI (by omega)) dX7_addSet_53 (tgt := 70) (by decide) (fun c53 => ?_) (fun c53 => absurd c53 (by omega))
    refine lv_iconst (v := nI 1) hx hb dX7_addSet_70 (by decide) ?_
    refine lv_goto (tgt := 99) hx hb dX7_addSet_71 (by decide) ?_
    refine va_put (D := D) (ci := 7) (v := .int (nI 1)) (ty := .int) (C := RX7) (T := TX7) (N := 17) hx hb hts iX7 tyX7 tyX7_ok nmX7 hown hK hP hD hS 0 rfl rfl 5 (by decide) (hts _ k_f_X7_45) (fun _ h9 => h9) rfl (by decide +kernel) rfl rfl (Nat.le_of_ble_eq_true rfl) dX7_addSet_99 (fun H locs hP hD hS => ?_)
    have hP : va_P D vwCl (WM K mm ta sl ss be ch (nI 1) M rq cq pv so st gs gm gu gl aw) H := hP
    have hD : va_D A (WM K mm ta sl ss be ch (nI 1) M rq cq pv so st gs gm gu gl aw) := hD
    refine lv_aload_n hx hb dX7_addSet_102 rfl (lv_at hl 1 rfl) ?_
    refine va_get (D := D) (ci := 7) (C := RX7) (T := TX7) (N := 17) hx hb hts iX7 hown hK hP 0 rfl rfl 5 (by decide) (hts _ k_f_X7_45) (fun _ h9 => h9) rfl dX7_addSet_103 ?_
    refine b_if_eq hx hb (nI_toIntI (by omega)) dX7_addSet_106 (tgt := 111) (by decide) (fun c106 => absurd c106 (by omega)) (fun c106 => ?_)
    refine lv_iconst (v := nI 0) hx hb dX7_addSet_109 (by decide) ?_
    have hrs : rs_addSet d xa xb xc xs xr = _ := (cI_t (fun z => by first | exact hs_xa z.1 | exact hs_xb z.2.1 | exact hs_xc z.2.2))
    exact W.iret (v := nI 0) hx hb hr (fun t9 ht9 hW => ⟨⟨nI 0, (ta, sl, ss, be, ch, (nI 1), M, rq, cq, pv, so, st, gs, gm, gu, gl, aw), rfl, ⟨by rw [hrs], by rw [hrs]; exact fun h9 => absurd h9 (by decide), fun _ => hR⟩, by rw [ht9]; exact hP, va_K.moved hW.alike hK, hD⟩, hS.F ht9⟩) hS.2.2 dX7_addSet_110
  refine t_i (hw.trans (bI_t hs_xa).symm) ?_
  refine b_if_eq hx hb (nI_toIntI (by omega)) dX7_addSet_53 (tgt := 70) (by decide) (fun c53 => absurd c53 (by omega)) (fun c53 => ?_)
  refine lv_iload_n hx hb dX7_addSet_56 rfl (lv_at hl 3 rfl) ?_
  refine va_calli (va_runS (As := [.int xb]) (rest := [.ref (mm 0)]) ⟨hx, hb, hml, hown, hts⟩ (c_X7_isShaft l xb ) (va_cwS 1 hts (TB_S k_m_X7_53 k_st_X7_isShaft k_in_X7 k_co_X7_isShaft (fun _ h => h)) rfl rfl rfl (by decide +kernel) ⟨Nat.le_of_ble_eq_true rfl, Nat.le_of_ble_eq_true rfl⟩) ⟨tP_blind, tP_of⟩ rfl rfl hl.1 rfl (lv_room (Nat.le_of_ble_eq_true rfl)) dX7_addSet_57 ⟨Nat.le_of_ble_eq_true rfl, Nat.le_of_ble_eq_true rfl⟩) hS (fun q _ h => absurd h id) (fun q h => absurd h id) (fun rs u9 t9 H locs ht9 hvm hw hB hz1 hk1 hS => ?_)
  have hP := P_same hP hk1
  by_cases hs_xb : shf xb
  rotate_left
  · refine t_i (hw.trans (bI_f hs_xb).symm) ?_
    refine b_if_eq hx hb (nI_toIntI (by omega)) dX7_addSet_60 (tgt := 70) (by decide) (fun c60 => ?_) (fun c60 => absurd c60 (by omega))
    refine lv_iconst (v := nI 1) hx hb dX7_addSet_70 (by decide) ?_
    refine lv_goto (tgt := 99) hx hb dX7_addSet_71 (by decide) ?_
    refine va_put (D := D) (ci := 7) (v := .int (nI 1)) (ty := .int) (C := RX7) (T := TX7) (N := 17) hx hb hts iX7 tyX7 tyX7_ok nmX7 hown hK hP hD hS 0 rfl rfl 5 (by decide) (hts _ k_f_X7_45) (fun _ h9 => h9) rfl (by decide +kernel) rfl rfl (Nat.le_of_ble_eq_true rfl) dX7_addSet_99 (fun H locs hP hD hS => ?_)
    have hP : va_P D vwCl (WM K mm ta sl ss be ch (nI 1) M rq cq pv so st gs gm gu gl aw) H := hP
    have hD : va_D A (WM K mm ta sl ss be ch (nI 1) M rq cq pv so st gs gm gu gl aw) := hD
    refine lv_aload_n hx hb dX7_addSet_102 rfl (lv_at hl 1 rfl) ?_
    refine va_get (D := D) (ci := 7) (C := RX7) (T := TX7) (N := 17) hx hb hts iX7 hown hK hP 0 rfl rfl 5 (by decide) (hts _ k_f_X7_45) (fun _ h9 => h9) rfl dX7_addSet_103 ?_
    refine b_if_eq hx hb (nI_toIntI (by omega)) dX7_addSet_106 (tgt := 111) (by decide) (fun c106 => absurd c106 (by omega)) (fun c106 => ?_)
    refine lv_iconst (v := nI 0) hx hb dX7_addSet_109 (by decide) ?_
    have hrs : rs_addSet d xa xb xc xs xr = _ := (cI_t (fun z => by first | exact hs_xa z.1 | exact hs_xb z.2.1 | exact hs_xc z.2.2))
    exact W.iret (v := nI 0) hx hb hr (fun t9 ht9 hW => ⟨⟨nI 0, (ta, sl, ss, be, ch, (nI 1), M, rq, cq, pv, so, st, gs, gm, gu, gl, aw), rfl, ⟨by rw [hrs], by rw [hrs]; exact fun h9 => absurd h9 (by decide), fun _ => hR⟩, by rw [ht9]; exact hP, va_K.moved hW.alike hK, hD⟩, hS.F ht9⟩) hS.2.2 dX7_addSet_110
  refine t_i (hw.trans (bI_t hs_xb).symm) ?_
  refine b_if_eq hx hb (nI_toIntI (by omega)) dX7_addSet_60 (tgt := 70) (by decide) (fun c60 => absurd c60 (by omega)) (fun c60 => ?_)
  refine lv_iload_n hx hb dX7_addSet_63 rfl (lv_at hl 4 rfl) ?_
  refine va_calli (va_runS (As := [.int xc]) (rest := [.ref (mm 0)]) ⟨hx, hb, hml, hown, hts⟩ (c_X7_isShaft l xc ) (va_cwS 1 hts (TB_S k_m_X7_53 k_st_X7_isShaft k_in_X7 k_co_X7_isShaft (fun _ h => h)) rfl rfl rfl (by decide +kernel) ⟨Nat.le_of_ble_eq_true rfl, Nat.le_of_ble_eq_true rfl⟩) ⟨tP_blind, tP_of⟩ rfl rfl hl.1 rfl (lv_room (Nat.le_of_ble_eq_true rfl)) dX7_addSet_64 ⟨Nat.le_of_ble_eq_true rfl, Nat.le_of_ble_eq_true rfl⟩) hS (fun q _ h => absurd h id) (fun q h => absurd h id) (fun rs u9 t9 H locs ht9 hvm hw hB hz1 hk1 hS => ?_)
  have hP := P_same hP hk1
  by_cases hs_xc : shf xc
  rotate_left
  · refine t_i (hw.trans (bI_f hs_xc).symm) ?_
    refine b_if_ne hx hb (nI_toIntI (by omega)) dX7_addSet_67 (tgt := 74) (by decide) (fun c67 => absurd c67 (by omega)) (fun c67 => ?_)
    refine lv_iconst (v := nI 1) hx hb dX7_addSet_70 (by decide) ?_
    refine lv_goto (tgt := 99) hx hb dX7_addSet_71 (by decide) ?_
    refine va_put (D := D) (ci := 7) (v := .int (nI 1)) (ty := .int) (C := RX7) (T := TX7) (N := 17) hx hb hts iX7 tyX7 tyX7_ok nmX7 hown hK hP hD hS 0 rfl rfl 5 (by decide) (hts _ k_f_X7_45) (fun _ h9 => h9) rfl (by decide +kernel) rfl rfl (Nat.le_of_ble_eq_true rfl) dX7_addSet_99 (fun H locs hP hD hS => ?_)
    have hP : va_P D vwCl (WM K mm ta sl ss be ch (nI 1) M rq cq pv so st gs gm gu gl aw) H := hP
    have hD : va_D A (WM K mm ta sl ss be ch (nI 1) M rq cq pv so st gs gm gu gl aw) := hD
    refine lv_aload_n hx hb dX7_addSet_102 rfl (lv_at hl 1 rfl) ?_
    refine va_get (D := D) (ci := 7) (C := RX7) (T := TX7) (N := 17) hx hb hts iX7 hown hK hP 0 rfl rfl 5 (by decide) (hts _ k_f_X7_45) (fun _ h9 => h9) rfl dX7_addSet_103 ?_
    refine b_if_eq hx hb (nI_toIntI (by omega)) dX7_addSet_106 (tgt := 111) (by decide) (fun c106 => absurd c106 (by omega)) (fun c106 => ?_)
    refine lv_iconst (v := nI 0) hx hb dX7_addSet_109 (by decide) ?_
    have hrs : rs_addSet d xa xb xc xs xr = _ := (cI_t (fun z => by first | exact hs_xa z.1 | exact hs_xb z.2.1 | exact hs_xc z.2.2))
    exact W.iret (v := nI 0) hx hb hr (fun t9 ht9 hW => ⟨⟨nI 0, (ta, sl, ss, be, ch, (nI 1), M, rq, cq, pv, so, st, gs, gm, gu, gl, aw), rfl, ⟨by rw [hrs], by rw [hrs]; exact fun h9 => absurd h9 (by decide), fun _ => hR⟩, by rw [ht9]; exact hP, va_K.moved hW.alike hK, hD⟩, hS.F ht9⟩) hS.2.2 dX7_addSet_110
  refine t_i (hw.trans (bI_t hs_xc).symm) ?_
  refine b_if_ne hx hb (nI_toIntI (by omega)) dX7_addSet_67 (tgt := 74) (by decide) (fun c67 => ?_) (fun c67 => absurd c67 (by omega))
  refine lv_iload hx hb dX7_addSet_74 (lv_at hl 0 rfl) ?_
  refine b_if_ne hx hb (nI_toIntI (by omega)) dX7_addSet_76 (tgt := 83) (by decide) (fun c76 => ?_) (fun c76 => absurd c76 (by omega))
  refine lv_aload_n hx hb dX7_addSet_83 rfl (lv_at hl 1 rfl) ?_
  refine va_get (D := D) (ci := 7) (C := RX7) (T := TX7) (N := 17) hx hb hts iX7 hown hK hP 0 rfl rfl 0 (by decide) (hts _ k_f_X7_7) (fun _ h9 => h9) rfl dX7_addSet_84 ?_
  refine lv_bipush (v := nI 33) hx hb dX7_addSet_87 (by decide) ?_
  refine n_iald hx hb hK hP 1 0 rfl rfl (i := 33) (n := 36) (by omega) (by decide) dX7_addSet_89 ?_
  refine t_i (show _ = nI n from h33) ?_
  refine lv_iconst (v := nI 3) hx hb dX7_addSet_90 (by decide) ?_
  refine b_icmp_ne hx hb (nI_toIntI (by omega)) (nI_toIntI (by omega)) dX7_addSet_91 (tgt := 98) (by decide) (fun c91 => ?_) (fun c91 => ?_)
  · refine lv_iconst (v := nI 0) hx hb dX7_addSet_98 (by decide) ?_
    refine va_put (D := D) (ci := 7) (v := .int (nI 0)) (ty := .int) (C := RX7) (T := TX7) (N := 17) hx hb hts iX7 tyX7 tyX7_ok nmX7 hown hK hP hD hS 0 rfl rfl 5 (by decide) (hts _ k_f_X7_45) (fun _ h9 => h9) rfl (by decide +kernel) rfl rfl (Nat.le_of_ble_eq_true rfl) dX7_addSet_99 (fun H locs hP hD hS => ?_)
    have hP : va_P D vwCl (WM K mm ta sl ss be ch (nI 0) M rq cq pv so st gs gm gu gl aw) H := hP
    have hD : va_D A (WM K mm ta sl ss be ch (nI 0) M rq cq pv so st gs gm gu gl aw) := hD
    refine lv_aload_n hx hb dX7_addSet_102 rfl (lv_at hl 1 rfl) ?_
    refine va_get (D := D) (ci := 7) (C := RX7) (T := TX7) (N := 17) hx hb hts iX7 hown hK hP 0 rfl rfl 5 (by decide) (hts _ k_f_X7_45) (fun _ h9 => h9) rfl dX7_addSet_103 ?_
    refine b_if_eq hx hb (nI_toIntI (by omega)) dX7_addSet_106 (tgt := 111) (by decide) (fun c106 => ?_) (fun c106 => absurd c106 (by omega))
    refine lv_iconst (v := nI 0) hx hb dX7_addSet_111 (by decide) ?_
    refine lv_iconst (v := nI 5) hx hb dX7_addSet_112 (by decide) ?_
    refine lv_aload_n hx hb dX7_addSet_113 rfl (lv_at hl 1 rfl) ?_
    refine va_get (D := D) (ci := 7) (C := RX7) (T := TX7) (N := 17) hx hb hts iX7 hown hK hP 0 rfl rfl 0 (by decide) (hts _ k_f_X7_7) (fun _ h9 => h9) rfl dX7_addSet_114 ?_
    refine lv_bipush (v := nI 33) hx hb dX7_addSet_117 (by decide) ?_
    refine n_iald hx hb hK hP 1 0 rfl rfl (i := 33) (n := 36) (by omega) (by decide) dX7_addSet_119 ?_
    refine t_i (show _ = nI n from h33) ?_
    refine lv_imul hx hb dX7_addSet_120 ?_
    refine t_i (pk_mul _ _) ?_
    refine lv_iadd hx hb dX7_addSet_121 ?_
    refine t_i (nI_add _ _) ?_
    refine lv_istore (lv' := [(7, .int (nI (0 + 5 * n))), (6, .int (nI 1)), (0, .ref (mm 0)), (1, .int xa), (2, .int xb), (3, .int xc), (4, .int xs), (5, .int xr)]) hx hb dX7_addSet_122 hl (by decide) rfl (fun ls hl => ?_)
    refine lv_aload_n hx hb dX7_addSet_124 rfl (lv_at hl 2 rfl) ?_
    refine va_get (D := D) (ci := 7) (C := RX7) (T := TX7) (N := 17) hx hb hts iX7 hown hK hP 0 rfl rfl 0 (by decide) (hts _ k_f_X7_7) (fun _ h9 => h9) rfl dX7_addSet_125 ?_
    refine lv_iload hx hb dX7_addSet_128 (lv_at hl 0 rfl) ?_
    refine lv_iload_n hx hb dX7_addSet_130 rfl (lv_at hl 3 rfl) ?_
    refine n_iast hx hb hK hP hD hS 1 0 rfl rfl (i := 0 + 5 * n) (n := 36) (by omega) (by decide) dX7_addSet_131 (fun H locs hP hD hS => ?_)
    have hP : va_P D vwCl (WM K mm (upd ta (0 + 5 * n) xa) sl ss be ch (nI 0) M rq cq pv so st gs gm gu gl aw) H := hP
    have hD : va_D A (WM K mm (upd ta (0 + 5 * n) xa) sl ss be ch (nI 0) M rq cq pv so st gs gm gu gl aw) := hD
    refine lv_aload_n hx hb dX7_addSet_132 rfl (lv_at hl 2 rfl) ?_
    refine va_get (D := D) (ci := 7) (C := RX7) (T := TX7) (N := 17) hx hb hts iX7 hown hK hP 0 rfl rfl 0 (by decide) (hts _ k_f_X7_7) (fun _ h9 => h9) rfl dX7_addSet_133 ?_
    refine lv_iload hx hb dX7_addSet_136 (lv_at hl 0 rfl) ?_
    refine lv_iconst (v := nI 1) hx hb dX7_addSet_138 (by decide) ?_
    refine lv_iadd hx hb dX7_addSet_139 ?_
    refine t_i (nI_add _ _) ?_
    refine lv_iload_n hx hb dX7_addSet_140 rfl (lv_at hl 4 rfl) ?_
    refine n_iast hx hb hK hP hD hS 1 0 rfl rfl (i := 0 + 5 * n + 1) (n := 36) (by omega) (by decide) dX7_addSet_141 (fun H locs hP hD hS => ?_)
    have hP : va_P D vwCl (WM K mm (upd (upd ta (0 + 5 * n) xa) (0 + 5 * n + 1) xb) sl ss be ch (nI 0) M rq cq pv so st gs gm gu gl aw) H := hP
    have hD : va_D A (WM K mm (upd (upd ta (0 + 5 * n) xa) (0 + 5 * n + 1) xb) sl ss be ch (nI 0) M rq cq pv so st gs gm gu gl aw) := hD
    refine lv_aload_n hx hb dX7_addSet_142 rfl (lv_at hl 2 rfl) ?_
    refine va_get (D := D) (ci := 7) (C := RX7) (T := TX7) (N := 17) hx hb hts iX7 hown hK hP 0 rfl rfl 0 (by decide) (hts _ k_f_X7_7) (fun _ h9 => h9) rfl dX7_addSet_143 ?_
    refine lv_iload hx hb dX7_addSet_146 (lv_at hl 0 rfl) ?_
    refine lv_iconst (v := nI 2) hx hb dX7_addSet_148 (by decide) ?_
    refine lv_iadd hx hb dX7_addSet_149 ?_
    refine t_i (nI_add _ _) ?_
    refine lv_iload_n hx hb dX7_addSet_150 rfl (lv_at hl 5 rfl) ?_
    refine n_iast hx hb hK hP hD hS 1 0 rfl rfl (i := 0 + 5 * n + 2) (n := 36) (by omega) (by decide) dX7_addSet_151 (fun H locs hP hD hS => ?_)
    have hP : va_P D vwCl (WM K mm (upd (upd (upd ta (0 + 5 * n) xa) (0 + 5 * n + 1) xb) (0 + 5 * n + 2) xc) sl ss be ch (nI 0) M rq cq pv so st gs gm gu gl aw) H := hP
    have hD : va_D A (WM K mm (upd (upd (upd ta (0 + 5 * n) xa) (0 + 5 * n + 1) xb) (0 + 5 * n + 2) xc) sl ss be ch (nI 0) M rq cq pv so st gs gm gu gl aw) := hD
    refine lv_aload_n hx hb dX7_addSet_152 rfl (lv_at hl 2 rfl) ?_
    refine va_get (D := D) (ci := 7) (C := RX7) (T := TX7) (N := 17) hx hb hts iX7 hown hK hP 0 rfl rfl 0 (by decide) (hts _ k_f_X7_7) (fun _ h9 => h9) rfl dX7_addSet_153 ?_
    refine lv_iload hx hb dX7_addSet_156 (lv_at hl 0 rfl) ?_
    refine lv_iconst (v := nI 3) hx hb dX7_addSet_158 (by decide) ?_
    refine lv_iadd hx hb dX7_addSet_159 ?_
    refine t_i (nI_add _ _) ?_
    refine lv_iload hx hb dX7_addSet_160 (lv_at hl 6 rfl) ?_
    refine n_iast hx hb hK hP hD hS 1 0 rfl rfl (i := 0 + 5 * n + 3) (n := 36) (by omega) (by decide) dX7_addSet_162 (fun H locs hP hD hS => ?_)
    have hP : va_P D vwCl (WM K mm (upd (upd (upd (upd ta (0 + 5 * n) xa) (0 + 5 * n + 1) xb) (0 + 5 * n + 2) xc) (0 + 5 * n + 3) xs) sl ss be ch (nI 0) M rq cq pv so st gs gm gu gl aw) H := hP
    have hD : va_D A (WM K mm (upd (upd (upd (upd ta (0 + 5 * n) xa) (0 + 5 * n + 1) xb) (0 + 5 * n + 2) xc) (0 + 5 * n + 3) xs) sl ss be ch (nI 0) M rq cq pv so st gs gm gu gl aw) := hD
    refine lv_aload_n hx hb dX7_addSet_163 rfl (lv_at hl 2 rfl) ?_
    refine va_get (D := D) (ci := 7) (C := RX7) (T := TX7) (N := 17) hx hb hts iX7 hown hK hP 0 rfl rfl 0 (by decide) (hts _ k_f_X7_7) (fun _ h9 => h9) rfl dX7_addSet_164 ?_
    refine lv_iload hx hb dX7_addSet_167 (lv_at hl 0 rfl) ?_
    refine lv_iconst (v := nI 4) hx hb dX7_addSet_169 (by decide) ?_
    refine lv_iadd hx hb dX7_addSet_170 ?_
    refine t_i (nI_add _ _) ?_
    refine lv_iload hx hb dX7_addSet_171 (lv_at hl 7 rfl) ?_
    refine n_iast hx hb hK hP hD hS 1 0 rfl rfl (i := 0 + 5 * n + 4) (n := 36) (by omega) (by decide) dX7_addSet_173 (fun H locs hP hD hS => ?_)
    have hP : va_P D vwCl (WM K mm (upd (upd (upd (upd (upd ta (0 + 5 * n) xa) (0 + 5 * n + 1) xb) (0 + 5 * n + 2) xc) (0 + 5 * n + 3) xs) (0 + 5 * n + 4) xr) sl ss be ch (nI 0) M rq cq pv so st gs gm gu gl aw) H := hP
    have hD : va_D A (WM K mm (upd (upd (upd (upd (upd ta (0 + 5 * n) xa) (0 + 5 * n + 1) xb) (0 + 5 * n + 2) xc) (0 + 5 * n + 3) xs) (0 + 5 * n + 4) xr) sl ss be ch (nI 0) M rq cq pv so st gs gm gu gl aw) := hD
    refine lv_aload_n hx hb dX7_addSet_174 rfl (lv_at hl 2 rfl) ?_
    refine va_get (D := D) (ci := 7) (C := RX7) (T := TX7) (N := 17) hx hb hts iX7 hown hK hP 0 rfl rfl 0 (by decide) (hts _ k_f_X7_7) (fun _ h9 => h9) rfl dX7_addSet_175 ?_
    refine lv_bipush (v := nI 33) hx hb dX7_addSet_178 (by decide) ?_
    refine lv_dup2_11 hx hb dX7_addSet_180 rfl rfl ?_
    refine n_iald hx hb hK hP 1 0 rfl rfl (i := 33) (n := 36) (by omega) (by decide) dX7_addSet_181 ?_
    refine t_i (show _ = nI n from (by rw [updOther (by omega), updOther (by omega), updOther (by omega), updOther (by omega), updOther (by omega)]; exact h33)) ?_
    refine lv_iconst (v := nI 1) hx hb dX7_addSet_182 (by decide) ?_
    refine lv_iadd hx hb dX7_addSet_183 ?_
    refine t_i (nI_add _ _) ?_
    refine n_iast hx hb hK hP hD hS 1 0 rfl rfl (i := 33) (n := 36) (by omega) (by decide) dX7_addSet_184 (fun H locs hP hD hS => ?_)
    have hP : va_P D vwCl (WM K mm (upd (upd (upd (upd (upd (upd ta (0 + 5 * n) xa) (0 + 5 * n + 1) xb) (0 + 5 * n + 2) xc) (0 + 5 * n + 3) xs) (0 + 5 * n + 4) xr) 33 (nI (n + 1))) sl ss be ch (nI 0) M rq cq pv so st gs gm gu gl aw) H := hP
    have hD : va_D A (WM K mm (upd (upd (upd (upd (upd (upd ta (0 + 5 * n) xa) (0 + 5 * n + 1) xb) (0 + 5 * n + 2) xc) (0 + 5 * n + 3) xs) (0 + 5 * n + 4) xr) 33 (nI (n + 1))) sl ss be ch (nI 0) M rq cq pv so st gs gm gu gl aw) := hD
    refine lv_aload_n hx hb dX7_addSet_185 rfl (lv_at hl 2 rfl) ?_
    refine va_get (D := D) (ci := 7) (C := RX7) (T := TX7) (N := 17) hx hb hts iX7 hown hK hP 0 rfl rfl 0 (by decide) (hts _ k_f_X7_7) (fun _ h9 => h9) rfl dX7_addSet_186 ?_
    refine lv_bipush (v := nI 33) hx hb dX7_addSet_189 (by decide) ?_
    refine n_iald hx hb hK hP 1 0 rfl rfl (i := 33) (n := 36) (by omega) (by decide) dX7_addSet_191 ?_
    refine t_i (show _ = nI (n + 1) from updSame) ?_
    have hrs : rs_addSet d xa xb xc xs xr = _ := ((cI_f (fun z => z ⟨hs_xa, hs_xb, hs_xc⟩)).trans ((cI_f (by simp only [i32_eq]; omega)).trans ((cI_f (by omega)).trans ((cI_f (by omega)).trans ((cI_f (by rw [hn1]; omega)).trans (rfl))))))
    exact W.iret (v := nI (n + 1)) hx hb hr (fun t9 ht9 hW => ⟨⟨nI (n + 1), (upd (upd (upd (upd (upd (upd ta (0 + 5 * n) xa) (0 + 5 * n + 1) xb) (0 + 5 * n + 2) xc) (0 + 5 * n + 3) xs) (0 + 5 * n + 4) xr) 33 (nI (n + 1)), sl, ss, be, ch, (nI 0), M, rq, cq, pv, so, st, gs, gm, gu, gl, aw), rfl, ⟨by rw [hrs], by rw [hrs]; exact fun _ => ⟨by rw [hn1, nI_toIntI (by omega)]; omega, by rw [hn1]; exact ⟨AtD_dS hat (by omega), hat1, hat2, hss0, hss1, hch, hbe⟩⟩, by rw [hrs]; exact fun h9 => absurd rfl h9⟩, by rw [ht9]; exact hP, va_K.moved hW.alike hK, hD⟩, hS.F ht9⟩) hS.2.2 dX7_addSet_192
  refine lv_iconst (v := nI 3) hx hb dX7_addSet_94 (by decide) ?_
  refine lv_goto (tgt := 99) hx hb dX7_addSet_95 (by decide) ?_
  refine va_put (D := D) (ci := 7) (v := .int (nI 3)) (ty := .int) (C := RX7) (T := TX7) (N := 17) hx hb hts iX7 tyX7 tyX7_ok nmX7 hown hK hP hD hS 0 rfl rfl 5 (by decide) (hts _ k_f_X7_45) (fun _ h9 => h9) rfl (by decide +kernel) rfl rfl (Nat.le_of_ble_eq_true rfl) dX7_addSet_99 (fun H locs hP hD hS => ?_)
  have hP : va_P D vwCl (WM K mm ta sl ss be ch (nI 3) M rq cq pv so st gs gm gu gl aw) H := hP
  have hD : va_D A (WM K mm ta sl ss be ch (nI 3) M rq cq pv so st gs gm gu gl aw) := hD
  refine lv_aload_n hx hb dX7_addSet_102 rfl (lv_at hl 1 rfl) ?_
  refine va_get (D := D) (ci := 7) (C := RX7) (T := TX7) (N := 17) hx hb hts iX7 hown hK hP 0 rfl rfl 5 (by decide) (hts _ k_f_X7_45) (fun _ h9 => h9) rfl dX7_addSet_103 ?_
  refine b_if_eq hx hb (nI_toIntI (by omega)) dX7_addSet_106 (tgt := 111) (by decide) (fun c106 => absurd c106 (by omega)) (fun c106 => ?_)
  refine lv_iconst (v := nI 0) hx hb dX7_addSet_109 (by decide) ?_
  have hrs : rs_addSet d xa xb xc xs xr = _ := ((cI_f (fun z => z ⟨hs_xa, hs_xb, hs_xc⟩)).trans ((cI_f (by simp only [i32_eq]; omega)).trans ((cI_f (by omega)).trans ((cI_f (by omega)).trans (cI_t (by rw [hn1]; omega))))))
  exact W.iret (v := nI 0) hx hb hr (fun t9 ht9 hW => ⟨⟨nI 0, (ta, sl, ss, be, ch, (nI 3), M, rq, cq, pv, so, st, gs, gm, gu, gl, aw), rfl, ⟨by rw [hrs], by rw [hrs]; exact fun h9 => absurd h9 (by decide), fun _ => hR⟩, by rw [ht9]; exact hP, va_K.moved hW.alike hK, hD⟩, hS.F ht9⟩) hS.2.2 dX7_addSet_110
