/-! PlanetaryGearboxModel: gears by number -/
theorem insG_inj {d : Nat → Nat → Int32} {G : Nat → Nat} {n t : Nat} (hl : ∀ i, i < n → G i < t) (hi : ∀ i j, i < n → j < n → G i = G j → i = j) : ∀ i j, i < n + 1 → j < n + 1 → insG d G n t i = insG d G n t j → i = j := by
  have hp := posG_le d G t n
  have cs : ∀ i, i < n + 1 → (i < posG d G t n ∧ insG d G n t i = G i) ∨ (i = posG d G t n ∧ insG d G n t i = t) ∨ (posG d G t n < i ∧ insG d G n t i = G (i - 1)) := fun i h => by
    unfold insG
    by_cases q : i < posG d G t n
    · exact Or.inl ⟨q, if_pos q⟩
    · by_cases q2 : i = posG d G t n
      · exact Or.inr (Or.inl ⟨q2, by rw [if_neg q, if_pos q2]⟩)
      · exact Or.inr (Or.inr ⟨by omega, by rw [if_neg q, if_neg q2]⟩)
  intro i j h1 h2 e
  rcases cs i h1 with ⟨a1, a2⟩ | ⟨a1, a2⟩ | ⟨a1, a2⟩ <;> rcases cs j h2 with ⟨b1, b2⟩ | ⟨b1, b2⟩ | ⟨b1, b2⟩ <;> rw [a2, b2] at e
  · exact hi i j (by omega) (by omega) e
  · have := hl i (by omega); omega
  · have := hi i (j - 1) (by omega) (by omega) e; omega
  · have := hl j (by omega); omega
  · omega
  · have := hl (j - 1) (by omega); omega
  · have := hi (i - 1) j (by omega) (by omega) e; omega
  · have := hl (i - 1) (by omega); omega
  · have := hi (i - 1) (j - 1) (by omega) (by omega) e; omega
theorem gst_inj (d : Nat → Nat → Int32) : ∀ t i j, i < (gst d t).1 → j < (gst d t).1 → (gst d t).2 i = (gst d t).2 j → i = j
  | 0, i, j, h, _, _ => absurd h (Nat.not_lt_zero _)
  | t + 1, i, j, h1, h2, e => by
    by_cases q : isG d t
    · rw [gst_yes q] at h1 h2 e
      exact insG_inj (fun i hi => (gst_mem d t i hi).2) (gst_inj d t) i j h1 h2 e
    · rw [gst_no q] at h1 h2 e
      exact gst_inj d t i j h1 h2 e
set_option maxHeartbeats 4000000 in
set_option maxRecDepth 100000 in
theorem c_X7_isNumber (l : Launch) (D : va_G) (K : Nat → ClassId) (mm : Nat → Nat) (ta : Nat → Int32) (sl : Nat → Int32) (ss : Nat → Int32) (be : Nat → Int32) (ch : Int32) (th : Int32) (M : Nat → Nat → Int64) (rq : Int32) (cq : Int32) (pv : Nat → Int32) (so : Int32) (st : Nat → Int32) (gs : Int32) (gm : Nat → Int32) (gu : Nat → Int64) (gl : Nat → Int64) (aw : Nat → Int32) (n : Nat) (x : Int32) (sz : Nat) (hn : n ≤ 64) : Met l yX7_isNumber (.code yX7_isNumber cX7_isNumber 2 (some .boolean) :: TB) ({ frames := 1, cells := 0, slots := 0, locals := 22 } : Room) (va_Pc [.ref (mm 0), .int x] (cP D K (WM K mm ta sl ss be ch th M rq cq pv so st (nI n) gm gu gl aw) sz)) (va_Qi (fun (z : Int32) (_ : Unit) => z = bI (∃ k : Nat, k < n ∧ x = nI k)) (fun _ _ => True) (fun _ => False)) 0 0 (fun _ => False) := by
  refine Met.ofW (cc := cX7_isNumber) (maxL := 2) (ret := (some .boolean)) (by decide) rfl ?_
  intro p e s m args below meth c s₁ B hml hv
  obtain ⟨rfl, hsz, hP, hK, hD0⟩ := hv
  have hx := B.exec
  have hb := B.bytes
  have hr := B.returns
  have hts := hts_tl (atoms_spec (ws := (.code yX7_isNumber cX7_isNumber 2 (some .boolean) :: TB)) B.pre)
  have hown : s.vm.findClass RX7 = some m.cls := findClass_of_methodNamed B.named
  have hlocks := B.notSynchronized
  subst hsz
  have hA : ∀ q : Nat, q < s.heap.size → (fun _ : Nat => False) q → False := fun _ _ h => h
  have hS : va_S (fun _ => False) s.heap s.heap [] := va_S.rf
  have hl := lv_entry ([.ref (mm 0), .int x]) (n := 2) (Nat.le_of_ble_eq_true rfl)
  rw [lg_entry_eq]
  generalize (lg_sl ([.ref (mm 0), .int x]) ++ List.replicate (2 - (lg_sl ([.ref (mm 0), .int x])).length) Slot.unset).toArray = ls at hl ⊢
  have hl : lv_has ls 2 [(0, .ref (mm 0)), (1, .int x)] := hl
  refine lv_iload_n hx hb dX7_isNumber_0 rfl (lv_at hl 1 rfl) ?_
  refine lv_iconst (v := nI 0) hx hb dX7_isNumber_1 (by decide) ?_
  refine lv_aload_n hx hb dX7_isNumber_2 rfl (lv_at hl 0 rfl) ?_
  refine va_get (D := D) (ci := 7) (C := RX7) (T := TX7) (N := 17) hx hb hts iX7 hown hK hP 0 rfl rfl 12 (by decide) (hts _ k_f_X7_67) (fun _ h9 => h9) rfl dX7_isNumber_3 ?_
  refine lv_iconst (v := nI 1) hx hb dX7_isNumber_6 (by decide) ?_
  refine lv_isub hx hb dX7_isNumber_7 ?_
  refine va_calli (va_runS (As := [.int x, .int (nI 0), .int ((nI n) - (nI 1))]) (rest := []) ⟨hx, hb, hml, hown, hts⟩ (c_X7_in l x (nI 0) (nI n - nI 1) ) (va_cwS 3 hts (TB_S k_m_X7_49 k_st_X7_in k_in_X7 k_co_X7_in (fun _ h => h)) rfl rfl rfl (by decide +kernel) ⟨Nat.le_of_ble_eq_true rfl, Nat.le_of_ble_eq_true rfl⟩) ⟨tP_blind, tP_of⟩ rfl rfl hl.1 rfl (lv_room (Nat.le_of_ble_eq_true rfl)) dX7_isNumber_8 ⟨Nat.le_of_ble_eq_true rfl, Nat.le_of_ble_eq_true rfl⟩) hS (fun q _ h => absurd h id) (fun q h => absurd h id) (fun z u9 t9 H locs ht9 hvm hw hB hz1 hk1 hS => ?_)
  have hP := P_same hP hk1
  have hp : (nI n - nI 1).toInt = (n : Int) - 1 := nP_I (by omega)
  have hw := hw.trans (bI_iff (show _ ↔ (∃ k : Nat, k < n ∧ x = nI k) by
    rw [hp, nI_toIntI (by omega)]
    exact ⟨fun z => ⟨x.toInt.toNat, by omega, nIt (by omega)⟩, fun ⟨k, hk, e⟩ => by have := nI_neg e (by omega); omega⟩))
  subst hw
  exact W.zret (v := bI (∃ k : Nat, k < n ∧ x = nI k)) hx hb hr (by rcases bI_01 (∃ k : Nat, k < n ∧ x = nI k) with e | e <;> rw [e] <;> decide) (fun t9 ht9 hW => ⟨⟨bI (∃ k : Nat, k < n ∧ x = nI k), (), rfl, rfl, trivial⟩, hS.F ht9⟩) hS.2.2 dX7_isNumber_11
set_option maxHeartbeats 4000000 in
set_option maxRecDepth 100000 in
theorem c_X7_gear (l : Launch) (D : va_G) (K : Nat → ClassId) (mm : Nat → Nat) (v : CV) (w0 : MS) (x : Int32) (sz : Nat) (hI : IV v) (hR : RM v w0)  : Met l yX7_gear (.code yX7_gear cX7_gear 2 (some .int) :: TB) ({ frames := 7, cells := 0, slots := 0, locals := 177 } : Room) (va_Pc [.ref (mm 0), .int x] (cP D K (WMu K mm w0) sz)) (va_Qi (fun (z : Int32) (u : MS) => RM v u ∧ u.2.2.2.2.2.1 = nI (rs_gear v.1 x).1 ∧ ((rs_gear v.1 x).1 = 0 → z.toInt = (rs_gear v.1 x).2)) (fun (u : MS) t => cB D K (va_A (WMu K mm w0) sz) (WMu K mm u) t) (va_A (WMu K mm w0) sz)) 0 0 (va_A (WMu K mm w0) sz) := by
  refine Met.ofW (cc := cX7_gear) (maxL := 2) (ret := (some .int)) (by decide) rfl ?_
  intro p e s m args below meth c s₁ B hml hv
  obtain ⟨rfl, hsz, hP, hK, hD0⟩ := hv
  have hx := B.exec
  have hb := B.bytes
  have hr := B.returns
  have hts := hts_tl (atoms_spec (ws := (.code yX7_gear cX7_gear 2 (some .int) :: TB)) B.pre)
  have hown : s.vm.findClass RX7 = some m.cls := findClass_of_methodNamed B.named
  have hlocks := B.notSynchronized
  subst hsz
  have hD := hD0.self (sz := s.heap.size)
  generalize hAe : (va_A (WMu K mm w0) s.heap.size) = A at hD ⊢
  have hA : ∀ q : Nat, s.heap.size ≤ q → A q := fun q h => by rw [← hAe]; exact Or.inr h
  have hS : va_S A s.heap s.heap [] := va_S.rf
  clear hAe hD0
  obtain ⟨d, d1, d2, f1, f2, f, s0⟩ := v
  obtain ⟨ta, sl, ss, be, ch, th, M, rq, cq, pv, so, st, gs, gm, gu, gl, aw⟩ := w0
  obtain ⟨hd, hd1, hd2, hf1, hf2, hs20, hhf⟩ := id hI
  obtain ⟨hat, hat1, hat2, hss0, hss1, hch, hbe⟩ := id hR
  dsimp only at hd hd1 hd2 hf1 hf2 hs20 hhf hat hat1 hat2 hss0 hss1 hch hbe
  obtain ⟨n, m1, ge, hn, hm, hge, h0, h1, h2, hs9, he9⟩ := id hd
  obtain ⟨ha1, ha2, ha33, ha34, ha35⟩ := id hat
  have hp6 : 2 ^ m1 ≤ 64 := Nat.pow_le_pow_right (show 0 < 2 by decide) hm
  have h33 := ha33.trans h0
  have h34 := ha34.trans h1
  have h35 := ha35.trans h2
  have hn1 : dn d 8 0 = n := dn_of h0 (by omega)
  have hm1 : dn d 8 1 = m1 := dn_of h1 (by omega)
  have hg1 : dn d 8 2 = ge := dn_of h2 (by omega)
  have hP : va_P D vwCl (WM K mm ta sl ss be ch th M rq cq pv so st gs gm gu gl aw) s.heap := hP
  have hD : va_D A (WM K mm ta sl ss be ch th M rq cq pv so st gs gm gu gl aw) := hD
  have hl := lv_entry ([.ref (mm 0), .int x]) (n := 2) (Nat.le_of_ble_eq_true rfl)
  rw [lg_entry_eq]
  generalize (lg_sl ([.ref (mm 0), .int x]) ++ List.replicate (2 - (lg_sl ([.ref (mm 0), .int x])).length) Slot.unset).toArray = ls at hl ⊢
  have hl : lv_has ls 2 [(0, .ref (mm 0)), (1, .int x)] := hl
  refine lv_aload_n hx hb dX7_gear_0 rfl (lv_at hl 0 rfl) ?_
  have hFc := freeAll hD hS hA
  refine va_callv (va_runV (As := []) (rest := []) ⟨hx, hb, hml, hown, hts⟩ (c_X7_layGears l D K mm ta sl ss be ch th M rq cq pv so st gs gm gu gl aw d s.heap.size hd hat) (cwV 0 hts (TB_V k_m_X7_64 k_im_X7_layGears k_se_X7_layGears k_in_X7 k_co_X7_layGears (fun _ h => h)) rfl rfl rfl (by decide +kernel) ⟨Nat.le_of_ble_eq_true rfl, Nat.le_of_ble_eq_true rfl⟩) ⟨cP_blind, va_recv hK hP (ci := 7) (q0 := 0) rfl rfl, cP_of hP hK hD⟩ rfl rfl hl.1 rfl (lv_room (Nat.le_of_ble_eq_true rfl)) dX7_gear_1 ⟨Nat.le_of_ble_eq_true rfl, Nat.le_of_ble_eq_true rfl⟩) hS (fun q _ h => hFc q h) hFc (fun u8 t9 H locs ht9 hvm hw hB hz1 hk1 hS => ?_)
  obtain ⟨hP, hK1, hD1⟩ := hB
  rw [ht9] at hP
  have hD := hD1.weaken (fun _ _ _ h => hFc _ h)
  have hP : va_P D vwCl (WM K mm ta sl ss be ch th u8.1 u8.2.1 u8.2.2.1 u8.2.2.2.1 u8.2.2.2.2.1 u8.2.2.2.2.2.1 (nI (gN d)) u8.2.2.2.2.2.2.1 u8.2.2.2.2.2.2.2.1 u8.2.2.2.2.2.2.2.2 aw) H := hP
  have hD : va_D A (WM K mm ta sl ss be ch th u8.1 u8.2.1 u8.2.2.1 u8.2.2.2.1 u8.2.2.2.2.1 u8.2.2.2.2.2.1 (nI (gN d)) u8.2.2.2.2.2.2.1 u8.2.2.2.2.2.2.2.1 u8.2.2.2.2.2.2.2.2 aw) := hD
  have htab := hw
  have hn64 := gN_le d
  refine lv_aload_n hx hb dX7_gear_4 rfl (lv_at hl 0 rfl) ?_
  refine lv_aload_n hx hb dX7_gear_5 rfl (lv_at hl 0 rfl) ?_
  refine lv_iload_n hx hb dX7_gear_6 rfl (lv_at hl 1 rfl) ?_
  refine va_calli (va_runV (As := [.int x]) (rest := [.ref (mm 0)]) ⟨hx, hb, hml, hown, hts⟩ (c_X7_isNumber l D K mm ta sl ss be ch th u8.1 u8.2.1 u8.2.2.1 u8.2.2.2.1 u8.2.2.2.2.1 u8.2.2.2.2.2.1 (nI (gN d)) u8.2.2.2.2.2.2.1 u8.2.2.2.2.2.2.2.1 u8.2.2.2.2.2.2.2.2 aw (gN d) x H.size hn64) (cwV 1 hts (TB_V k_m_X7_153 k_im_X7_isNumber k_se_X7_isNumber k_in_X7 k_co_X7_isNumber (fun _ h => h)) rfl rfl rfl (by decide +kernel) ⟨Nat.le_of_ble_eq_true rfl, Nat.le_of_ble_eq_true rfl⟩) ⟨cP_blind, va_recv hK hP (ci := 7) (q0 := 0) rfl rfl, cP_of hP hK hD⟩ rfl rfl hl.1 rfl (lv_room (Nat.le_of_ble_eq_true rfl)) dX7_gear_7 ⟨Nat.le_of_ble_eq_true rfl, Nat.le_of_ble_eq_true rfl⟩) hS (fun q _ h => absurd h id) (fun q h => absurd h id) (fun gz u9 t9 H locs ht9 hvm hw hB hz1 hk1 hS => ?_)
  have hP := P_same hP hk1
  have hw := hw.trans (bI_iff (show _ ↔ ger d x from Iff.rfl))
  by_cases hgr : ger d x
  rotate_left
  · refine t_i (hw.trans (bI_f hgr).symm) ?_
    refine b_if_eq hx hb (nI_toIntI (by omega)) dX7_gear_10 (tgt := 17) (by decide) (fun c10 => ?_) (fun c10 => absurd c10 (by omega))
    refine lv_iconst (v := nI 1) hx hb dX7_gear_17 (by decide) ?_
    refine va_put (D := D) (ci := 7) (v := .int (nI 1)) (ty := .int) (C := RX7) (T := TX7) (N := 17) hx hb hts iX7 tyX7 tyX7_ok nmX7 hown hK hP hD hS 0 rfl rfl 5 (by decide) (hts _ k_f_X7_45) (fun _ h9 => h9) rfl (by decide +kernel) rfl rfl (Nat.le_of_ble_eq_true rfl) dX7_gear_18 (fun H locs hP hD hS => ?_)
    have hP : va_P D vwCl (WM K mm ta sl ss be ch (nI 1) u8.1 u8.2.1 u8.2.2.1 u8.2.2.2.1 u8.2.2.2.2.1 u8.2.2.2.2.2.1 (nI (gN d)) u8.2.2.2.2.2.2.1 u8.2.2.2.2.2.2.2.1 u8.2.2.2.2.2.2.2.2 aw) H := hP
    have hD : va_D A (WM K mm ta sl ss be ch (nI 1) u8.1 u8.2.1 u8.2.2.1 u8.2.2.2.1 u8.2.2.2.2.1 u8.2.2.2.2.2.1 (nI (gN d)) u8.2.2.2.2.2.2.1 u8.2.2.2.2.2.2.2.1 u8.2.2.2.2.2.2.2.2 aw) := hD
    refine lv_aload_n hx hb dX7_gear_21 rfl (lv_at hl 0 rfl) ?_
    refine va_get (D := D) (ci := 7) (C := RX7) (T := TX7) (N := 17) hx hb hts iX7 hown hK hP 0 rfl rfl 5 (by decide) (hts _ k_f_X7_45) (fun _ h9 => h9) rfl dX7_gear_22 ?_
    refine b_if_eq hx hb (nI_toIntI (by omega)) dX7_gear_25 (tgt := 32) (by decide) (fun c25 => absurd c25 (by omega)) (fun c25 => ?_)
    refine lv_iconst (v := nI 0) hx hb dX7_gear_28 (by decide) ?_
    refine lv_goto (tgt := 38) hx hb dX7_gear_29 (by decide) ?_
    have hrs : rs_gear d x = _ := (cI_t (hgr))
    exact W.iret (v := nI 0) hx hb hr (fun t9 ht9 hW => ⟨⟨nI 0, (ta, sl, ss, be, ch, (nI 1), u8.1, u8.2.1, u8.2.2.1, u8.2.2.2.1, u8.2.2.2.2.1, u8.2.2.2.2.2.1, (nI (gN d)), u8.2.2.2.2.2.2.1, u8.2.2.2.2.2.2.2.1, u8.2.2.2.2.2.2.2.2, aw), rfl, ⟨hR, by rw [hrs], by rw [hrs]; exact fun h9 => absurd h9 (by decide)⟩, by rw [ht9]; exact hP, va_K.moved hW.alike hK, hD⟩, hS.F ht9⟩) hS.2.2 dX7_gear_38
  refine t_i (hw.trans (bI_t hgr).symm) ?_
  obtain ⟨kg, hkg, rfl⟩ := id hgr
  have hkgn : (nI kg).toInt.toNat = kg := by rw [nI_toIntI (by omega)]; omega
  refine b_if_eq hx hb (nI_toIntI (by omega)) dX7_gear_10 (tgt := 17) (by decide) (fun c10 => absurd c10 (by omega)) (fun c10 => ?_)
  refine lv_iconst (v := nI 0) hx hb dX7_gear_13 (by decide) ?_
  refine lv_goto (tgt := 18) hx hb dX7_gear_14 (by decide) ?_
  refine va_put (D := D) (ci := 7) (v := .int (nI 0)) (ty := .int) (C := RX7) (T := TX7) (N := 17) hx hb hts iX7 tyX7 tyX7_ok nmX7 hown hK hP hD hS 0 rfl rfl 5 (by decide) (hts _ k_f_X7_45) (fun _ h9 => h9) rfl (by decide +kernel) rfl rfl (Nat.le_of_ble_eq_true rfl) dX7_gear_18 (fun H locs hP hD hS => ?_)
  have hP : va_P D vwCl (WM K mm ta sl ss be ch (nI 0) u8.1 u8.2.1 u8.2.2.1 u8.2.2.2.1 u8.2.2.2.2.1 u8.2.2.2.2.2.1 (nI (gN d)) u8.2.2.2.2.2.2.1 u8.2.2.2.2.2.2.2.1 u8.2.2.2.2.2.2.2.2 aw) H := hP
  have hD : va_D A (WM K mm ta sl ss be ch (nI 0) u8.1 u8.2.1 u8.2.2.1 u8.2.2.2.1 u8.2.2.2.2.1 u8.2.2.2.2.2.1 (nI (gN d)) u8.2.2.2.2.2.2.1 u8.2.2.2.2.2.2.2.1 u8.2.2.2.2.2.2.2.2 aw) := hD
  refine lv_aload_n hx hb dX7_gear_21 rfl (lv_at hl 0 rfl) ?_
  refine va_get (D := D) (ci := 7) (C := RX7) (T := TX7) (N := 17) hx hb hts iX7 hown hK hP 0 rfl rfl 5 (by decide) (hts _ k_f_X7_45) (fun _ h9 => h9) rfl dX7_gear_22 ?_
  refine b_if_eq hx hb (nI_toIntI (by omega)) dX7_gear_25 (tgt := 32) (by decide) (fun c25 => ?_) (fun c25 => absurd c25 (by omega))
  refine lv_aload_n hx hb dX7_gear_32 rfl (lv_at hl 0 rfl) ?_
  refine va_get (D := D) (ci := 7) (C := RX7) (T := TX7) (N := 17) hx hb hts iX7 hown hK hP 0 rfl rfl 13 (by decide) (hts _ k_f_X7_33) (fun _ h9 => h9) rfl dX7_gear_33 ?_
  refine lv_iload_n hx hb dX7_gear_36 rfl (lv_at hl 1 rfl) ?_
  refine n_iald hx hb hK hP 8 0 rfl rfl (i := kg) (n := 64) (by omega) (by decide) dX7_gear_37 ?_
  have hrs : rs_gear d (nI kg) = _ := ((cI_f (fun z => z hgr)).trans (rfl))
  exact W.iret (v := u8.2.2.2.2.2.2.1 kg) hx hb hr (fun t9 ht9 hW => ⟨⟨u8.2.2.2.2.2.2.1 kg, (ta, sl, ss, be, ch, (nI 0), u8.1, u8.2.1, u8.2.2.1, u8.2.2.2.1, u8.2.2.2.2.1, u8.2.2.2.2.2.1, (nI (gN d)), u8.2.2.2.2.2.2.1, u8.2.2.2.2.2.2.2.1, u8.2.2.2.2.2.2.2.2, aw), rfl, ⟨hR, by rw [hrs], by rw [hrs]; exact fun h9 => by rw [(htab kg hkg).2.1, hkgn, nI_toIntI (by have := (htab kg hkg).1; omega)]⟩, by rw [ht9]; exact hP, va_K.moved hW.alike hK, hD⟩, hS.F ht9⟩) hS.2.2 dX7_gear_38
set_option maxHeartbeats 4000000 in
set_option maxRecDepth 100000 in
theorem c_X7_gearRatio (l : Launch) (D : va_G) (K : Nat → ClassId) (mm : Nat → Nat) (v : CV) (w0 : MS) (x y : Int32) (sz : Nat) (hI : IV v) (hR : RM v w0)  : Met l yX7_gearRatio (.code yX7_gearRatio cX7_gearRatio 3 (some .long) :: TB) ({ frames := 7, cells := 0, slots := 0, locals := 177 } : Room) (va_Pc [.ref (mm 0), .int x, .int y] (cP D K (WMu K mm w0) sz)) (va_Ql (fun (z : Int64) (u : MS) => RM v u ∧ u.2.2.2.2.2.1 = nI (rs_gearRatio v.1 x y).1 ∧ ((rs_gearRatio v.1 x y).1 = 0 → z.toInt = (rs_gearRatio v.1 x y).2)) (fun (u : MS) t => cB D K (va_A (WMu K mm w0) sz) (WMu K mm u) t) (va_A (WMu K mm w0) sz)) 0 0 (va_A (WMu K mm w0) sz) := by
  refine Met.ofW (cc := cX7_gearRatio) (maxL := 3) (ret := (some .long)) (by decide) rfl ?_
  intro p e s m args below meth c s₁ B hml hv
  obtain ⟨rfl, hsz, hP, hK, hD0⟩ := hv
  have hx := B.exec
  have hb := B.bytes
  have hr := B.returns
  have hts := hts_tl (atoms_spec (ws := (.code yX7_gearRatio cX7_gearRatio 3 (some .long) :: TB)) B.pre)
  have hown : s.vm.findClass RX7 = some m.cls := findClass_of_methodNamed B.named
  have hlocks := B.notSynchronized
  subst hsz
  have hD := hD0.self (sz := s.heap.size)
  generalize hAe : (va_A (WMu K mm w0) s.heap.size) = A at hD ⊢
  have hA : ∀ q : Nat, s.heap.size ≤ q → A q := fun q h => by rw [← hAe]; exact Or.inr h
  have hS : va_S A s.heap s.heap [] := va_S.rf
  clear hAe hD0
  obtain ⟨d, d1, d2, f1, f2, f, s0⟩ := v
  obtain ⟨ta, sl, ss, be, ch, th, M, rq, cq, pv, so, st, gs, gm, gu, gl, aw⟩ := w0
  obtain ⟨hd, hd1, hd2, hf1, hf2, hs20, hhf⟩ := id hI
  obtain ⟨hat, hat1, hat2, hss0, hss1, hch, hbe⟩ := id hR
  dsimp only at hd hd1 hd2 hf1 hf2 hs20 hhf hat hat1 hat2 hss0 hss1 hch hbe
  obtain ⟨n, m1, ge, hn, hm, hge, h0, h1, h2, hs9, he9⟩ := id hd
  obtain ⟨ha1, ha2, ha33, ha34, ha35⟩ := id hat
  have hp6 : 2 ^ m1 ≤ 64 := Nat.pow_le_pow_right (show 0 < 2 by decide) hm
  have h33 := ha33.trans h0
  have h34 := ha34.trans h1
  have h35 := ha35.trans h2
  have hn1 : dn d 8 0 = n := dn_of h0 (by omega)
  have hm1 : dn d 8 1 = m1 := dn_of h1 (by omega)
  have hg1 : dn d 8 2 = ge := dn_of h2 (by omega)
  have hP : va_P D vwCl (WM K mm ta sl ss be ch th M rq cq pv so st gs gm gu gl aw) s.heap := hP
  have hD : va_D A (WM K mm ta sl ss be ch th M rq cq pv so st gs gm gu gl aw) := hD
  have hl := lv_entry ([.ref (mm 0), .int x, .int y]) (n := 3) (Nat.le_of_ble_eq_true rfl)
  rw [lg_entry_eq]
  generalize (lg_sl ([.ref (mm 0), .int x, .int y]) ++ List.replicate (3 - (lg_sl ([.ref (mm 0), .int x, .int y])).length) Slot.unset).toArray = ls at hl ⊢
  have hl : lv_has ls 3 [(0, .ref (mm 0)), (1, .int x), (2, .int y)] := hl
  refine lv_aload_n hx hb dX7_gearRatio_0 rfl (lv_at hl 0 rfl) ?_
  have hFc := freeAll hD hS hA
  refine va_callv (va_runV (As := []) (rest := []) ⟨hx, hb, hml, hown, hts⟩ (c_X7_layGears l D K mm ta sl ss be ch th M rq cq pv so st gs gm gu gl aw d s.heap.size hd hat) (cwV 0 hts (TB_V k_m_X7_64 k_im_X7_layGears k_se_X7_layGears k_in_X7 k_co_X7_layGears (fun _ h => h)) rfl rfl rfl (by decide +kernel) ⟨Nat.le_of_ble_eq_true rfl, Nat.le_of_ble_eq_true rfl⟩) ⟨cP_blind, va_recv hK hP (ci := 7) (q0 := 0) rfl rfl, cP_of hP hK hD⟩ rfl rfl hl.1 rfl (lv_room (Nat.le_of_ble_eq_true rfl)) dX7_gearRatio_1 ⟨Nat.le_of_ble_eq_true rfl, Nat.le_of_ble_eq_true rfl⟩) hS (fun q _ h => hFc q h) hFc (fun u8 t9 H locs ht9 hvm hw hB hz1 hk1 hS => ?_)
  obtain ⟨hP, hK1, hD1⟩ := hB
  rw [ht9] at hP
  have hD := hD1.weaken (fun _ _ _ h => hFc _ h)
  have hP : va_P D vwCl (WM K mm ta sl ss be ch th u8.1 u8.2.1 u8.2.2.1 u8.2.2.2.1 u8.2.2.2.2.1 u8.2.2.2.2.2.1 (nI (gN d)) u8.2.2.2.2.2.2.1 u8.2.2.2.2.2.2.2.1 u8.2.2.2.2.2.2.2.2 aw) H := hP
  have hD : va_D A (WM K mm ta sl ss be ch th u8.1 u8.2.1 u8.2.2.1 u8.2.2.2.1 u8.2.2.2.2.1 u8.2.2.2.2.2.1 (nI (gN d)) u8.2.2.2.2.2.2.1 u8.2.2.2.2.2.2.2.1 u8.2.2.2.2.2.2.2.2 aw) := hD
  have htab := hw
  have hn64 := gN_le d
  refine lv_aload_n hx hb dX7_gearRatio_4 rfl (lv_at hl 0 rfl) ?_
  refine lv_aload_n hx hb dX7_gearRatio_5 rfl (lv_at hl 0 rfl) ?_
  refine lv_iload_n hx hb dX7_gearRatio_6 rfl (lv_at hl 1 rfl) ?_
  refine va_calli (va_runV (As := [.int x]) (rest := [.ref (mm 0)]) ⟨hx, hb, hml, hown, hts⟩ (c_X7_isNumber l D K mm ta sl ss be ch th u8.1 u8.2.1 u8.2.2.1 u8.2.2.2.1 u8.2.2.2.2.1 u8.2.2.2.2.2.1 (nI (gN d)) u8.2.2.2.2.2.2.1 u8.2.2.2.2.2.2.2.1 u8.2.2.2.2.2.2.2.2 aw (gN d) x H.size hn64) (cwV 1 hts (TB_V k_m_X7_153 k_im_X7_isNumber k_se_X7_isNumber k_in_X7 k_co_X7_isNumber (fun _ h => h)) rfl rfl rfl (by decide +kernel) ⟨Nat.le_of_ble_eq_true rfl, Nat.le_of_ble_eq_true rfl⟩) ⟨cP_blind, va_recv hK hP (ci := 7) (q0 := 0) rfl rfl, cP_of hP hK hD⟩ rfl rfl hl.1 rfl (lv_room (Nat.le_of_ble_eq_true rfl)) dX7_gearRatio_7 ⟨Nat.le_of_ble_eq_true rfl, Nat.le_of_ble_eq_true rfl⟩) hS (fun q _ h => absurd h id) (fun q h => absurd h id) (fun gz u9 t9 H locs ht9 hvm hw hB hz1 hk1 hS => ?_)
  have hP := P_same hP hk1
  have hw := hw.trans (bI_iff (show _ ↔ ger d x from Iff.rfl))
  by_cases hgr : ger d x
  rotate_left
  · refine t_i (hw.trans (bI_f hgr).symm) ?_
    refine b_if_ne hx hb (nI_toIntI (by omega)) dX7_gearRatio_10 (tgt := 17) (by decide) (fun c10 => absurd c10 (by omega)) (fun c10 => ?_)
    refine lv_iconst (v := nI 1) hx hb dX7_gearRatio_13 (by decide) ?_
    refine lv_goto (tgt := 29) hx hb dX7_gearRatio_14 (by decide) ?_
    refine va_put (D := D) (ci := 7) (v := .int (nI 1)) (ty := .int) (C := RX7) (T := TX7) (N := 17) hx hb hts iX7 tyX7 tyX7_ok nmX7 hown hK hP hD hS 0 rfl rfl 5 (by decide) (hts _ k_f_X7_45) (fun _ h9 => h9) rfl (by decide +kernel) rfl rfl (Nat.le_of_ble_eq_true rfl) dX7_gearRatio_29 (fun H locs hP hD hS => ?_)
    have hP : va_P D vwCl (WM K mm ta sl ss be ch (nI 1) u8.1 u8.2.1 u8.2.2.1 u8.2.2.2.1 u8.2.2.2.2.1 u8.2.2.2.2.2.1 (nI (gN d)) u8.2.2.2.2.2.2.1 u8.2.2.2.2.2.2.2.1 u8.2.2.2.2.2.2.2.2 aw) H := hP
    have hD : va_D A (WM K mm ta sl ss be ch (nI 1) u8.1 u8.2.1 u8.2.2.1 u8.2.2.2.1 u8.2.2.2.2.1 u8.2.2.2.2.2.1 (nI (gN d)) u8.2.2.2.2.2.2.1 u8.2.2.2.2.2.2.2.1 u8.2.2.2.2.2.2.2.2 aw) := hD
    refine lv_aload_n hx hb dX7_gearRatio_32 rfl (lv_at hl 0 rfl) ?_
    refine va_get (D := D) (ci := 7) (C := RX7) (T := TX7) (N := 17) hx hb hts iX7 hown hK hP 0 rfl rfl 5 (by decide) (hts _ k_f_X7_45) (fun _ h9 => h9) rfl dX7_gearRatio_33 ?_
    refine b_if_eq hx hb (nI_toIntI (by omega)) dX7_gearRatio_36 (tgt := 43) (by decide) (fun c36 => absurd c36 (by omega)) (fun c36 => ?_)
    refine lv_lconst (v := 0) hx hb dX7_gearRatio_39 (by decide) ?_
    refine lv_goto (tgt := 62) hx hb dX7_gearRatio_40 (by decide) ?_
    have hrs : rs_gearRatio d x y = _ := (cI_t (hgr))
    exact W.lret (v := (0 : Int64)) hx hb hr (fun t9 ht9 hW => ⟨⟨(0 : Int64), (ta, sl, ss, be, ch, (nI 1), u8.1, u8.2.1, u8.2.2.1, u8.2.2.2.1, u8.2.2.2.2.1, u8.2.2.2.2.2.1, (nI (gN d)), u8.2.2.2.2.2.2.1, u8.2.2.2.2.2.2.2.1, u8.2.2.2.2.2.2.2.2, aw), rfl, ⟨hR, by rw [hrs], by rw [hrs]; exact fun h9 => absurd h9 (by decide)⟩, by rw [ht9]; exact hP, va_K.moved hW.alike hK, hD⟩, hS.F ht9⟩) hS.2.2 dX7_gearRatio_62
  refine t_i (hw.trans (bI_t hgr).symm) ?_
  obtain ⟨kg, hkg, rfl⟩ := id hgr
  have hkgn : (nI kg).toInt.toNat = kg := by rw [nI_toIntI (by omega)]; omega
  refine b_if_ne hx hb (nI_toIntI (by omega)) dX7_gearRatio_10 (tgt := 17) (by decide) (fun c10 => ?_) (fun c10 => absurd c10 (by omega))
  refine lv_iload_n hx hb dX7_gearRatio_17 rfl (lv_at hl 2 rfl) ?_
  refine va_calli (va_runS (As := [.int y]) (rest := [.ref (mm 0)]) ⟨hx, hb, hml, hown, hts⟩ (c_X7_isPart l y ) (va_cwS 1 hts (TB_S k_m_X7_131 k_st_X7_isPart k_in_X7 k_co_X7_isPart (fun _ h => h)) rfl rfl rfl (by decide +kernel) ⟨Nat.le_of_ble_eq_true rfl, Nat.le_of_ble_eq_true rfl⟩) ⟨tP_blind, tP_of⟩ rfl rfl hl.1 rfl (lv_room (Nat.le_of_ble_eq_true rfl)) dX7_gearRatio_18 ⟨Nat.le_of_ble_eq_true rfl, Nat.le_of_ble_eq_true rfl⟩) hS (fun q _ h => absurd h id) (fun q h => absurd h id) (fun rs u9 t9 H locs ht9 hvm hw hB hz1 hk1 hS => ?_)
  have hP := P_same hP hk1
  by_cases hprt : prt y
  rotate_left
  · refine t_i (hw.trans (bI_f hprt).symm) ?_
    refine b_if_ne hx hb (nI_toIntI (by omega)) dX7_gearRatio_21 (tgt := 28) (by decide) (fun c21 => absurd c21 (by omega)) (fun c21 => ?_)
    refine lv_iconst (v := nI 2) hx hb dX7_gearRatio_24 (by decide) ?_
    refine lv_goto (tgt := 29) hx hb dX7_gearRatio_25 (by decide) ?_
    refine va_put (D := D) (ci := 7) (v := .int (nI 2)) (ty := .int) (C := RX7) (T := TX7) (N := 17) hx hb hts iX7 tyX7 tyX7_ok nmX7 hown hK hP hD hS 0 rfl rfl 5 (by decide) (hts _ k_f_X7_45) (fun _ h9 => h9) rfl (by decide +kernel) rfl rfl (Nat.le_of_ble_eq_true rfl) dX7_gearRatio_29 (fun H locs hP hD hS => ?_)
    have hP : va_P D vwCl (WM K mm ta sl ss be ch (nI 2) u8.1 u8.2.1 u8.2.2.1 u8.2.2.2.1 u8.2.2.2.2.1 u8.2.2.2.2.2.1 (nI (gN d)) u8.2.2.2.2.2.2.1 u8.2.2.2.2.2.2.2.1 u8.2.2.2.2.2.2.2.2 aw) H := hP
    have hD : va_D A (WM K mm ta sl ss be ch (nI 2) u8.1 u8.2.1 u8.2.2.1 u8.2.2.2.1 u8.2.2.2.2.1 u8.2.2.2.2.2.1 (nI (gN d)) u8.2.2.2.2.2.2.1 u8.2.2.2.2.2.2.2.1 u8.2.2.2.2.2.2.2.2 aw) := hD
    refine lv_aload_n hx hb dX7_gearRatio_32 rfl (lv_at hl 0 rfl) ?_
    refine va_get (D := D) (ci := 7) (C := RX7) (T := TX7) (N := 17) hx hb hts iX7 hown hK hP 0 rfl rfl 5 (by decide) (hts _ k_f_X7_45) (fun _ h9 => h9) rfl dX7_gearRatio_33 ?_
    refine b_if_eq hx hb (nI_toIntI (by omega)) dX7_gearRatio_36 (tgt := 43) (by decide) (fun c36 => absurd c36 (by omega)) (fun c36 => ?_)
    refine lv_lconst (v := 0) hx hb dX7_gearRatio_39 (by decide) ?_
    refine lv_goto (tgt := 62) hx hb dX7_gearRatio_40 (by decide) ?_
    have hrs : rs_gearRatio d (nI kg) y = _ := ((cI_f (fun z => z hgr)).trans (cI_t (hprt)))
    exact W.lret (v := (0 : Int64)) hx hb hr (fun t9 ht9 hW => ⟨⟨(0 : Int64), (ta, sl, ss, be, ch, (nI 2), u8.1, u8.2.1, u8.2.2.1, u8.2.2.2.1, u8.2.2.2.2.1, u8.2.2.2.2.2.1, (nI (gN d)), u8.2.2.2.2.2.2.1, u8.2.2.2.2.2.2.2.1, u8.2.2.2.2.2.2.2.2, aw), rfl, ⟨hR, by rw [hrs], by rw [hrs]; exact fun h9 => absurd h9 (by decide)⟩, by rw [ht9]; exact hP, va_K.moved hW.alike hK, hD⟩, hS.F ht9⟩) hS.2.2 dX7_gearRatio_62
  refine t_i (hw.trans (bI_t hprt).symm) ?_
  obtain ⟨kp, hkp, rfl⟩ := id hprt
  have hkpn : (nI kp).toInt.toNat = kp := by rw [nI_toIntI (by omega)]; omega
  refine b_if_ne hx hb (nI_toIntI (by omega)) dX7_gearRatio_21 (tgt := 28) (by decide) (fun c21 => ?_) (fun c21 => absurd c21 (by omega))
  refine lv_iconst (v := nI 0) hx hb dX7_gearRatio_28 (by decide) ?_
  refine va_put (D := D) (ci := 7) (v := .int (nI 0)) (ty := .int) (C := RX7) (T := TX7) (N := 17) hx hb hts iX7 tyX7 tyX7_ok nmX7 hown hK hP hD hS 0 rfl rfl 5 (by decide) (hts _ k_f_X7_45) (fun _ h9 => h9) rfl (by decide +kernel) rfl rfl (Nat.le_of_ble_eq_true rfl) dX7_gearRatio_29 (fun H locs hP hD hS => ?_)
  have hP : va_P D vwCl (WM K mm ta sl ss be ch (nI 0) u8.1 u8.2.1 u8.2.2.1 u8.2.2.2.1 u8.2.2.2.2.1 u8.2.2.2.2.2.1 (nI (gN d)) u8.2.2.2.2.2.2.1 u8.2.2.2.2.2.2.2.1 u8.2.2.2.2.2.2.2.2 aw) H := hP
  have hD : va_D A (WM K mm ta sl ss be ch (nI 0) u8.1 u8.2.1 u8.2.2.1 u8.2.2.2.1 u8.2.2.2.2.1 u8.2.2.2.2.2.1 (nI (gN d)) u8.2.2.2.2.2.2.1 u8.2.2.2.2.2.2.2.1 u8.2.2.2.2.2.2.2.2 aw) := hD
  refine lv_aload_n hx hb dX7_gearRatio_32 rfl (lv_at hl 0 rfl) ?_
  refine va_get (D := D) (ci := 7) (C := RX7) (T := TX7) (N := 17) hx hb hts iX7 hown hK hP 0 rfl rfl 5 (by decide) (hts _ k_f_X7_45) (fun _ h9 => h9) rfl dX7_gearRatio_33 ?_
  refine b_if_eq hx hb (nI_toIntI (by omega)) dX7_gearRatio_36 (tgt := 43) (by decide) (fun c36 => ?_) (fun c36 => absurd c36 (by omega))
  refine lv_iload_n hx hb dX7_gearRatio_43 rfl (lv_at hl 2 rfl) ?_
  refine b_if_ne hx hb (nI_toIntI (by omega)) dX7_gearRatio_44 (tgt := 56) (by decide) (fun c44 => ?_) (fun c44 => ?_)
  · refine lv_aload_n hx hb dX7_gearRatio_56 rfl (lv_at hl 0 rfl) ?_
    refine va_get (D := D) (ci := 7) (C := RX7) (T := TX7) (N := 17) hx hb hts iX7 hown hK hP 0 rfl rfl 15 (by decide) (hts _ k_f_X7_39) (fun _ h9 => h9) rfl dX7_gearRatio_57 ?_
    refine lv_iload_n hx hb dX7_gearRatio_60 rfl (lv_at hl 1 rfl) ?_
    refine n_lald hx hb hK hP 10 1 rfl rfl (i := kg) (n := 64) (by omega) (by decide) dX7_gearRatio_61 ?_
    have hrs : rs_gearRatio d (nI kg) (nI kp) = _ := ((cI_f (fun z => z hgr)).trans ((cI_f (fun z => z hprt)).trans (rfl)))
    exact W.lret (v := u8.2.2.2.2.2.2.2.2 kg) hx hb hr (fun t9 ht9 hW => ⟨⟨u8.2.2.2.2.2.2.2.2 kg, (ta, sl, ss, be, ch, (nI 0), u8.1, u8.2.1, u8.2.2.1, u8.2.2.2.1, u8.2.2.2.2.1, u8.2.2.2.2.2.1, (nI (gN d)), u8.2.2.2.2.2.2.1, u8.2.2.2.2.2.2.2.1, u8.2.2.2.2.2.2.2.2, aw), rfl, ⟨hR, by rw [hrs], by rw [hrs]; exact fun h9 => by rw [hkgn, hkpn, if_neg (by omega), (htab kg hkg).2.2.2.1]⟩, by rw [ht9]; exact hP, va_K.moved hW.alike hK, hD⟩, hS.F ht9⟩) hS.2.2 dX7_gearRatio_62
  refine lv_aload_n hx hb dX7_gearRatio_47 rfl (lv_at hl 0 rfl) ?_
  refine va_get (D := D) (ci := 7) (C := RX7) (T := TX7) (N := 17) hx hb hts iX7 hown hK hP 0 rfl rfl 14 (by decide) (hts _ k_f_X7_36) (fun _ h9 => h9) rfl dX7_gearRatio_48 ?_
  refine lv_iload_n hx hb dX7_gearRatio_51 rfl (lv_at hl 1 rfl) ?_
  refine n_lald hx hb hK hP 9 1 rfl rfl (i := kg) (n := 64) (by omega) (by decide) dX7_gearRatio_52 ?_
  refine lv_goto (tgt := 62) hx hb dX7_gearRatio_53 (by decide) ?_
  have hrs : rs_gearRatio d (nI kg) (nI kp) = _ := ((cI_f (fun z => z hgr)).trans ((cI_f (fun z => z hprt)).trans (rfl)))
  exact W.lret (v := u8.2.2.2.2.2.2.2.1 kg) hx hb hr (fun t9 ht9 hW => ⟨⟨u8.2.2.2.2.2.2.2.1 kg, (ta, sl, ss, be, ch, (nI 0), u8.1, u8.2.1, u8.2.2.1, u8.2.2.2.1, u8.2.2.2.2.1, u8.2.2.2.2.2.1, (nI (gN d)), u8.2.2.2.2.2.2.1, u8.2.2.2.2.2.2.2.1, u8.2.2.2.2.2.2.2.2, aw), rfl, ⟨hR, by rw [hrs], by rw [hrs]; exact fun h9 => by rw [hkgn, hkpn, if_pos (by omega), (htab kg hkg).2.2.1]⟩, by rw [ht9]; exact hP, va_K.moved hW.alike hK, hD⟩, hS.F ht9⟩) hS.2.2 dX7_gearRatio_62
set_option maxHeartbeats 4000000 in
set_option maxRecDepth 100000 in
theorem c_X7_indexOf (l : Launch) (D : va_G) (K : Nat → ClassId) (mm : Nat → Nat) (v : CV) (w0 : MS) (x : Int32) (sz : Nat) (hI : IV v) (hR : RM v w0)  : Met l yX7_indexOf (.code yX7_indexOf cX7_indexOf 4 (some .int) :: TB) ({ frames := 7, cells := 0, slots := 0, locals := 177 } : Room) (va_Pc [.ref (mm 0), .int x] (cP D K (WMu K mm w0) sz)) (va_Qi (fun (z : Int32) (u : MS) => RM v u ∧ u.2.2.2.2.2.1 = nI (rs_indexOf v.1 x).1 ∧ ((rs_indexOf v.1 x).1 = 0 → z.toInt = (rs_indexOf v.1 x).2)) (fun (u : MS) t => cB D K (va_A (WMu K mm w0) sz) (WMu K mm u) t) (va_A (WMu K mm w0) sz)) 0 0 (va_A (WMu K mm w0) sz) := by
  refine Met.ofW (cc := cX7_indexOf) (maxL := 4) (ret := (some .int)) (by decide) rfl ?_
  intro p e s m args below meth c s₁ B hml hv
  obtain ⟨rfl, hsz, hP, hK, hD0⟩ := hv
  have hx := B.exec
  have hb := B.bytes
  have hr := B.returns
  have hts := hts_tl (atoms_spec (ws := (.code yX7_indexOf cX7_indexOf 4 (some .int) :: TB)) B.pre)
  have hown : s.vm.findClass RX7 = some m.cls := findClass_of_methodNamed B.named
  have hlocks := B.notSynchronized
  subst hsz
  have hD := hD0.self (sz := s.heap.size)
  generalize hAe : (va_A (WMu K mm w0) s.heap.size) = A at hD ⊢
  have hA : ∀ q : Nat, s.heap.size ≤ q → A q := fun q h => by rw [← hAe]; exact Or.inr h
  have hS : va_S A s.heap s.heap [] := va_S.rf
  clear hAe hD0
  obtain ⟨d, d1, d2, f1, f2, f, s0⟩ := v
  obtain ⟨ta, sl, ss, be, ch, th, M, rq, cq, pv, so, st, gs, gm, gu, gl, aw⟩ := w0
  obtain ⟨hd, hd1, hd2, hf1, hf2, hs20, hhf⟩ := id hI
  obtain ⟨hat, hat1, hat2, hss0, hss1, hch, hbe⟩ := id hR
  dsimp only at hd hd1 hd2 hf1 hf2 hs20 hhf hat hat1 hat2 hss0 hss1 hch hbe
  obtain ⟨n, m1, ge, hn, hm, hge, h0, h1, h2, hs9, he9⟩ := id hd
  obtain ⟨ha1, ha2, ha33, ha34, ha35⟩ := id hat
  have hp6 : 2 ^ m1 ≤ 64 := Nat.pow_le_pow_right (show 0 < 2 by decide) hm
  have h33 := ha33.trans h0
  have h34 := ha34.trans h1
  have h35 := ha35.trans h2
  have hn1 : dn d 8 0 = n := dn_of h0 (by omega)
  have hm1 : dn d 8 1 = m1 := dn_of h1 (by omega)
  have hg1 : dn d 8 2 = ge := dn_of h2 (by omega)
  have hP : va_P D vwCl (WM K mm ta sl ss be ch th M rq cq pv so st gs gm gu gl aw) s.heap := hP
  have hD : va_D A (WM K mm ta sl ss be ch th M rq cq pv so st gs gm gu gl aw) := hD
  have hl := lv_entry ([.ref (mm 0), .int x]) (n := 4) (Nat.le_of_ble_eq_true rfl)
  rw [lg_entry_eq]
  generalize (lg_sl ([.ref (mm 0), .int x]) ++ List.replicate (4 - (lg_sl ([.ref (mm 0), .int x])).length) Slot.unset).toArray = ls at hl ⊢
  have hl : lv_has ls 4 [(0, .ref (mm 0)), (1, .int x)] := hl
  refine lv_aload_n hx hb dX7_indexOf_0 rfl (lv_at hl 0 rfl) ?_
  refine lv_aload_n hx hb dX7_indexOf_1 rfl (lv_at hl 0 rfl) ?_
  refine lv_iload_n hx hb dX7_indexOf_2 rfl (lv_at hl 1 rfl) ?_
  refine va_calli (va_runV (As := [.int x]) (rest := [.ref (mm 0)]) ⟨hx, hb, hml, hown, hts⟩ (c_X7_isMask l D K mm ta sl ss be ch th M rq cq pv so st gs gm gu gl aw m1 x s.heap.size hm h34) (cwV 1 hts (TB_V k_m_X7_81 k_im_X7_isMask k_se_X7_isMask k_in_X7 k_co_X7_isMask (fun _ h => h)) rfl rfl rfl (by decide +kernel) ⟨Nat.le_of_ble_eq_true rfl, Nat.le_of_ble_eq_true rfl⟩) ⟨cP_blind, va_recv hK hP (ci := 7) (q0 := 0) rfl rfl, cP_of hP hK hD⟩ rfl rfl hl.1 rfl (lv_room (Nat.le_of_ble_eq_true rfl)) dX7_indexOf_3 ⟨Nat.le_of_ble_eq_true rfl, Nat.le_of_ble_eq_true rfl⟩) hS (fun q _ h => absurd h id) (fun q h => absurd h id) (fun he u9 t9 H locs ht9 hvm hw hB hz1 hk1 hS => ?_)
  have hP := P_same hP hk1
  have hw := hw.trans (bI_iff (show _ ↔ msk d x by unfold msk; rw [hm1]))
  by_cases hms : msk d x
  rotate_left
  · refine t_i (hw.trans (bI_f hms).symm) ?_
    refine b_if_eq hx hb (nI_toIntI (by omega)) dX7_indexOf_6 (tgt := 13) (by decide) (fun c6 => ?_) (fun c6 => absurd c6 (by omega))
    refine lv_iconst (v := nI 1) hx hb dX7_indexOf_13 (by decide) ?_
    refine va_put (D := D) (ci := 7) (v := .int (nI 1)) (ty := .int) (C := RX7) (T := TX7) (N := 17) hx hb hts iX7 tyX7 tyX7_ok nmX7 hown hK hP hD hS 0 rfl rfl 5 (by decide) (hts _ k_f_X7_45) (fun _ h9 => h9) rfl (by decide +kernel) rfl rfl (Nat.le_of_ble_eq_true rfl) dX7_indexOf_14 (fun H locs hP hD hS => ?_)
    have hP : va_P D vwCl (WM K mm ta sl ss be ch (nI 1) M rq cq pv so st gs gm gu gl aw) H := hP
    have hD : va_D A (WM K mm ta sl ss be ch (nI 1) M rq cq pv so st gs gm gu gl aw) := hD
    refine lv_aload_n hx hb dX7_indexOf_17 rfl (lv_at hl 0 rfl) ?_
    refine va_get (D := D) (ci := 7) (C := RX7) (T := TX7) (N := 17) hx hb hts iX7 hown hK hP 0 rfl rfl 5 (by decide) (hts _ k_f_X7_45) (fun _ h9 => h9) rfl dX7_indexOf_18 ?_
    refine b_if_eq hx hb (nI_toIntI (by omega)) dX7_indexOf_21 (tgt := 26) (by decide) (fun c21 => absurd c21 (by omega)) (fun c21 => ?_)
    refine lv_iconst (v := nI 0) hx hb dX7_indexOf_24 (by decide) ?_
    have hrs : rs_indexOf d x = _ := (cI_t (hms))
    exact W.iret (v := nI 0) hx hb hr (fun t9 ht9 hW => ⟨⟨nI 0, (ta, sl, ss, be, ch, (nI 1), M, rq, cq, pv, so, st, gs, gm, gu, gl, aw), rfl, ⟨hR, by rw [hrs], by rw [hrs]; exact fun h9 => absurd h9 (by decide)⟩, by rw [ht9]; exact hP, va_K.moved hW.alike hK, hD⟩, hS.F ht9⟩) hS.2.2 dX7_indexOf_25
  refine t_i (hw.trans (bI_t hms).symm) ?_
  obtain ⟨kx, hkx, rfl⟩ := id hms
  have hkx2 := hkx
  rw [hm1] at hkx2
  refine b_if_eq hx hb (nI_toIntI (by omega)) dX7_indexOf_6 (tgt := 13) (by decide) (fun c6 => absurd c6 (by omega)) (fun c6 => ?_)
  refine lv_iconst (v := nI 0) hx hb dX7_indexOf_9 (by decide) ?_
  refine lv_goto (tgt := 14) hx hb dX7_indexOf_10 (by decide) ?_
  refine va_put (D := D) (ci := 7) (v := .int (nI 0)) (ty := .int) (C := RX7) (T := TX7) (N := 17) hx hb hts iX7 tyX7 tyX7_ok nmX7 hown hK hP hD hS 0 rfl rfl 5 (by decide) (hts _ k_f_X7_45) (fun _ h9 => h9) rfl (by decide +kernel) rfl rfl (Nat.le_of_ble_eq_true rfl) dX7_indexOf_14 (fun H locs hP hD hS => ?_)
  have hP : va_P D vwCl (WM K mm ta sl ss be ch (nI 0) M rq cq pv so st gs gm gu gl aw) H := hP
  have hD : va_D A (WM K mm ta sl ss be ch (nI 0) M rq cq pv so st gs gm gu gl aw) := hD
  refine lv_aload_n hx hb dX7_indexOf_17 rfl (lv_at hl 0 rfl) ?_
  refine va_get (D := D) (ci := 7) (C := RX7) (T := TX7) (N := 17) hx hb hts iX7 hown hK hP 0 rfl rfl 5 (by decide) (hts _ k_f_X7_45) (fun _ h9 => h9) rfl dX7_indexOf_18 ?_
  refine b_if_eq hx hb (nI_toIntI (by omega)) dX7_indexOf_21 (tgt := 26) (by decide) (fun c21 => ?_) (fun c21 => absurd c21 (by omega))
  refine lv_aload_n hx hb dX7_indexOf_26 rfl (lv_at hl 0 rfl) ?_
  have hFc := freeAll hD hS hA
  refine va_callv (va_runV (As := []) (rest := []) ⟨hx, hb, hml, hown, hts⟩ (c_X7_layGears l D K mm ta sl ss be ch (nI 0) M rq cq pv so st gs gm gu gl aw d H.size hd hat) (cwV 0 hts (TB_V k_m_X7_64 k_im_X7_layGears k_se_X7_layGears k_in_X7 k_co_X7_layGears (fun _ h => h)) rfl rfl rfl (by decide +kernel) ⟨Nat.le_of_ble_eq_true rfl, Nat.le_of_ble_eq_true rfl⟩) ⟨cP_blind, va_recv hK hP (ci := 7) (q0 := 0) rfl rfl, cP_of hP hK hD⟩ rfl rfl hl.1 rfl (lv_room (Nat.le_of_ble_eq_true rfl)) dX7_indexOf_27 ⟨Nat.le_of_ble_eq_true rfl, Nat.le_of_ble_eq_true rfl⟩) hS (fun q _ h => hFc q h) hFc (fun u8 t9 H locs ht9 hvm hw hB hz1 hk1 hS => ?_)
  obtain ⟨hP, hK1, hD1⟩ := hB
  rw [ht9] at hP
  have hD := hD1.weaken (fun _ _ _ h => hFc _ h)
  have hP : va_P D vwCl (WM K mm ta sl ss be ch (nI 0) u8.1 u8.2.1 u8.2.2.1 u8.2.2.2.1 u8.2.2.2.2.1 u8.2.2.2.2.2.1 (nI (gN d)) u8.2.2.2.2.2.2.1 u8.2.2.2.2.2.2.2.1 u8.2.2.2.2.2.2.2.2 aw) H := hP
  have hD : va_D A (WM K mm ta sl ss be ch (nI 0) u8.1 u8.2.1 u8.2.2.1 u8.2.2.2.1 u8.2.2.2.2.1 u8.2.2.2.2.2.1 (nI (gN d)) u8.2.2.2.2.2.2.1 u8.2.2.2.2.2.2.2.1 u8.2.2.2.2.2.2.2.2 aw) := hD
  have htab := hw
  have hn64 := gN_le d
  refine lv_iconst (v := (-1)) hx hb dX7_indexOf_30 (by decide) ?_
  refine lv_istore_n (lv' := [(2, .int (-1)), (0, .ref (mm 0)), (1, .int (nI kx))]) hx hb dX7_indexOf_31 rfl hl (by decide) rfl (fun ls hl => ?_)
  refine lv_iconst (v := nI 0) hx hb dX7_indexOf_32 (by decide) ?_
  refine lv_istore_n (lv' := [(3, .int (nI 0)), (2, .int (-1)), (0, .ref (mm 0)), (1, .int (nI kx))]) hx hb dX7_indexOf_33 rfl hl (by decide) rfl (fun ls hl => ?_)
  have L34 : ∀ (fuel : Nat) (g : Nat) (fd : Int32) (H : Heap) (locs : List Loc) (ls : Array Slot), 64 - g < fuel → (g ≤ gN d) → ((fd = -1 ∧ ∀ j, j < g → gF d j ≠ kx) ∨ (∃ j, j < g ∧ gF d j = kx ∧ fd = nI j)) → va_P D vwCl (WM K mm ta sl ss be ch (nI 0) u8.1 u8.2.1 u8.2.2.1 u8.2.2.2.1 u8.2.2.2.2.1 u8.2.2.2.2.2.1 (nI (gN d)) u8.2.2.2.2.2.2.1 u8.2.2.2.2.2.2.2.1 u8.2.2.2.2.2.2.2.2 aw) H → va_D A (WM K mm ta sl ss be ch (nI 0) u8.1 u8.2.1 u8.2.2.1 u8.2.2.2.1 u8.2.2.2.2.1 u8.2.2.2.2.2.1 (nI (gN d)) u8.2.2.2.2.2.2.1 u8.2.2.2.2.2.2.2.1 u8.2.2.2.2.2.2.2.2 aw) → va_S A s.heap H locs → lv_has ls 4 [(3, .int (nI g)), (2, .int fd), (0, .ref (mm 0)), (1, .int (nI kx))] → W p l e ({ frames := 7, cells := 0, slots := 0, locals := 177 } : Room) s m [.ref (mm 0), .int (nI kx)].toArray below meth c H locs 0 0 (MQ below (va_Qi (fun (z : Int32) (u : MS) => RM (d, d1, d2, f1, f2, f, s0) u ∧ u.2.2.2.2.2.1 = nI (rs_indexOf (d, d1, d2, f1, f2, f, s0).1 (nI kx)).1 ∧ ((rs_indexOf (d, d1, d2, f1, f2, f, s0).1 (nI kx)).1 = 0 → z.toInt = (rs_indexOf (d, d1, d2, f1, f2, f, s0).1 (nI kx)).2)) (fun (u : MS) t => cB D K A (WMu K mm u) t) A) [.ref (mm 0), .int (nI kx)].toArray s 0 0 A) (F0 m 34 ls []) := by
    intro fuel
    induction fuel with
    | zero =>
      intro g fd H locs ls hfu
      exact absurd hfu (Nat.not_lt_zero _)
    | succ fuel ih34 =>
      intro g fd H locs ls hfu hg9 hfd hP hD hS hl
      refine lv_iload_n hx hb dX7_indexOf_34 rfl (lv_at hl 0 rfl) ?_
      refine lv_aload_n hx hb dX7_indexOf_35 rfl (lv_at hl 2 rfl) ?_
      refine va_get (D := D) (ci := 7) (C := RX7) (T := TX7) (N := 17) hx hb hts iX7 hown hK hP 0 rfl rfl 12 (by decide) (hts _ k_f_X7_67) (fun _ h9 => h9) rfl dX7_indexOf_36 ?_
      refine b_icmp_ge hx hb (nI_toIntI (by omega)) (nI_toIntI (by omega)) dX7_indexOf_39 (tgt := 64) (by decide) (fun c39 => ?_) (fun c39 => ?_)
      · refine lv_iload_n hx hb dX7_indexOf_64 rfl (lv_at hl 1 rfl) ?_
        obtain rfl : g = gN d := by omega
        have hkxi : (nI kx).toInt = (kx : Int) := nI_toIntI (by omega)
        have hrs : rs_indexOf d (nI kx) = (0, fd.toInt) := (cI_f (fun z => z hms)).trans (by
      rw [hkxi]
      rcases hfd with ⟨z1, z2⟩ | ⟨j, z1, z2, z3⟩
      · rw [z1]; exact (cI_f (fun ⟨k, q1, q2⟩ => z2 k q1 (by omega)))
      · rw [z3]
        refine (cI_t ⟨j, z1, by omega⟩).trans ?_
        have hj9 := gN_le d
        rw [lstF_eq (P := fun k => (gF d k : Int) = kx) z1 (by show (gF d j : Int) = kx; omega) (fun i hi q => by
          have := gst_inj d 64 i j (by have : i < gN d := by omega
                                       exact this) z1 (show gF d i = gF d j by have q : (gF d i : Int) = kx := q; omega)
          omega), nI_toIntI (by omega)])
        exact W.iret (v := fd) hx hb hr (fun t9 ht9 hW => ⟨⟨fd, (ta, sl, ss, be, ch, (nI 0), u8.1, u8.2.1, u8.2.2.1, u8.2.2.2.1, u8.2.2.2.2.1, u8.2.2.2.2.2.1, (nI (gN d)), u8.2.2.2.2.2.2.1, u8.2.2.2.2.2.2.2.1, u8.2.2.2.2.2.2.2.2, aw), rfl, ⟨hR, by rw [hrs], by rw [hrs]; exact fun _ => rfl⟩, by rw [ht9]; exact hP, va_K.moved hW.alike hK, hD⟩, hS.F ht9⟩) hS.2.2 dX7_indexOf_65
      refine lv_aload_n hx hb dX7_indexOf_42 rfl (lv_at hl 2 rfl) ?_
      obtain ⟨hgm1, hgm2, -⟩ := htab g (by omega)
      refine va_get (D := D) (ci := 7) (C := RX7) (T := TX7) (N := 17) hx hb hts iX7 hown hK hP 0 rfl rfl 13 (by decide) (hts _ k_f_X7_33) (fun _ h9 => h9) rfl dX7_indexOf_43 ?_
      refine lv_iload_n hx hb dX7_indexOf_46 rfl (lv_at hl 0 rfl) ?_
      refine n_iald hx hb hK hP 8 0 rfl rfl (i := g) (n := 64) (by omega) (by decide) dX7_indexOf_47 ?_
      refine t_i (show _ = nI (gF d g) from hgm2) ?_
      refine lv_iload_n hx hb dX7_indexOf_48 rfl (lv_at hl 3 rfl) ?_
      refine b_icmp_ne hx hb (nI_toIntI (by omega)) (nI_toIntI (by omega)) dX7_indexOf_49 (tgt := 56) (by decide) (fun c49 => ?_) (fun c49 => ?_)
      · refine lv_iload_n hx hb dX7_indexOf_56 rfl (lv_at hl 1 rfl) ?_
        refine lv_istore_n (lv' := [(2, .int fd), (3, .int (nI g)), (0, .ref (mm 0)), (1, .int (nI kx))]) hx hb dX7_indexOf_57 rfl hl (by decide) rfl (fun ls hl => ?_)
        refine lv_iinc (v := nI (g + 1)) (lv' := [(3, .int (nI (g + 1))), (2, .int fd), (0, .ref (mm 0)), (1, .int (nI kx))]) hx hb dX7_indexOf_58 hl (k := 1) rfl (nI_add g 1) (by decide) rfl (fun ls hl => ?_)
        refine lv_goto (tgt := 34) hx hb dX7_indexOf_61 (by decide) ?_
        exact ih34 (g + 1) fd _ _ _ (by omega) (by omega) (by
      rcases hfd with ⟨z1, z2⟩ | ⟨j, z1, z2, z3⟩
      · exact Or.inl ⟨z1, fun j hj => by
          by_cases q : j = g
          · subst q; omega
          · exact z2 j (by omega)⟩
      · exact Or.inr ⟨j, by omega, z2, z3⟩) hP hD hS (lv_sub hl [0, 1, 2, 3] rfl)
      refine lv_iload_n hx hb dX7_indexOf_52 rfl (lv_at hl 0 rfl) ?_
      refine lv_goto (tgt := 57) hx hb dX7_indexOf_53 (by decide) ?_
      refine lv_istore_n (lv' := [(2, .int (nI g)), (3, .int (nI g)), (0, .ref (mm 0)), (1, .int (nI kx))]) hx hb dX7_indexOf_57 rfl hl (by decide) rfl (fun ls hl => ?_)
      refine lv_iinc (v := nI (g + 1)) (lv' := [(3, .int (nI (g + 1))), (2, .int (nI g)), (0, .ref (mm 0)), (1, .int (nI kx))]) hx hb dX7_indexOf_58 hl (k := 1) rfl (nI_add g 1) (by decide) rfl (fun ls hl => ?_)
      refine lv_goto (tgt := 34) hx hb dX7_indexOf_61 (by decide) ?_
      exact ih34 (g + 1) (nI g) _ _ _ (by omega) (by omega) (Or.inr ⟨g, Nat.lt_succ_self g, by omega, rfl⟩) hP hD hS (lv_sub hl [0, 1, 2, 3] rfl)
  exact L34 _ 0 (-1) _ _ _ (Nat.lt_succ_self _) (by omega) (Or.inl ⟨rfl, fun j h => absurd h (Nat.not_lt_zero j)⟩) hP hD hS (lv_sub hl [0, 1, 2, 3] rfl)
set_option maxHeartbeats 4000000 in
set_option maxRecDepth 100000 in
theorem c_X7_count (l : Launch) (D : va_G) (K : Nat → ClassId) (mm : Nat → Nat) (v : CV) (w0 : MS) (x : Int32) (sz : Nat) (hI : IV v) (hR : RM v w0)  : Met l yX7_count (.code yX7_count cX7_count 2 (some .int) :: TB) ({ frames := 7, cells := 0, slots := 0, locals := 177 } : Room) (va_Pc [.ref (mm 0), .int x] (cP D K (WMu K mm w0) sz)) (va_Qi (fun (z : Int32) (u : MS) => RM v u ∧ u.2.2.2.2.2.1 = nI (rs_count v.1 x).1 ∧ ((rs_count v.1 x).1 = 0 → z.toInt = (rs_count v.1 x).2)) (fun (u : MS) t => cB D K (va_A (WMu K mm w0) sz) (WMu K mm u) t) (va_A (WMu K mm w0) sz)) 0 0 (va_A (WMu K mm w0) sz) := by
  refine Met.ofW (cc := cX7_count) (maxL := 2) (ret := (some .int)) (by decide) rfl ?_
  intro p e s m args below meth c s₁ B hml hv
  obtain ⟨rfl, hsz, hP, hK, hD0⟩ := hv
  have hx := B.exec
  have hb := B.bytes
  have hr := B.returns
  have hts := hts_tl (atoms_spec (ws := (.code yX7_count cX7_count 2 (some .int) :: TB)) B.pre)
  have hown : s.vm.findClass RX7 = some m.cls := findClass_of_methodNamed B.named
  have hlocks := B.notSynchronized
  subst hsz
  have hD := hD0.self (sz := s.heap.size)
  generalize hAe : (va_A (WMu K mm w0) s.heap.size) = A at hD ⊢
  have hA : ∀ q : Nat, s.heap.size ≤ q → A q := fun q h => by rw [← hAe]; exact Or.inr h
  have hS : va_S A s.heap s.heap [] := va_S.rf
  clear hAe hD0
  obtain ⟨d, d1, d2, f1, f2, f, s0⟩ := v
  obtain ⟨ta, sl, ss, be, ch, th, M, rq, cq, pv, so, st, gs, gm, gu, gl, aw⟩ := w0
  obtain ⟨hd, hd1, hd2, hf1, hf2, hs20, hhf⟩ := id hI
  obtain ⟨hat, hat1, hat2, hss0, hss1, hch, hbe⟩ := id hR
  dsimp only at hd hd1 hd2 hf1 hf2 hs20 hhf hat hat1 hat2 hss0 hss1 hch hbe
  obtain ⟨n, m1, ge, hn, hm, hge, h0, h1, h2, hs9, he9⟩ := id hd
  obtain ⟨ha1, ha2, ha33, ha34, ha35⟩ := id hat
  have hp6 : 2 ^ m1 ≤ 64 := Nat.pow_le_pow_right (show 0 < 2 by decide) hm
  have h33 := ha33.trans h0
  have h34 := ha34.trans h1
  have h35 := ha35.trans h2
  have hn1 : dn d 8 0 = n := dn_of h0 (by omega)
  have hm1 : dn d 8 1 = m1 := dn_of h1 (by omega)
  have hg1 : dn d 8 2 = ge := dn_of h2 (by omega)
  have hP : va_P D vwCl (WM K mm ta sl ss be ch th M rq cq pv so st gs gm gu gl aw) s.heap := hP
  have hD : va_D A (WM K mm ta sl ss be ch th M rq cq pv so st gs gm gu gl aw) := hD
  have hl := lv_entry ([.ref (mm 0), .int x]) (n := 2) (Nat.le_of_ble_eq_true rfl)
  rw [lg_entry_eq]
  generalize (lg_sl ([.ref (mm 0), .int x]) ++ List.replicate (2 - (lg_sl ([.ref (mm 0), .int x])).length) Slot.unset).toArray = ls at hl ⊢
  have hl : lv_has ls 2 [(0, .ref (mm 0)), (1, .int x)] := hl
  refine lv_aload_n hx hb dX7_count_0 rfl (lv_at hl 0 rfl) ?_
  refine lv_iload_n hx hb dX7_count_1 rfl (lv_at hl 1 rfl) ?_
  refine lv_iconst (v := nI 0) hx hb dX7_count_2 (by decide) ?_
  refine lv_iconst (v := nI 2) hx hb dX7_count_3 (by decide) ?_
  refine va_calli (va_runS (As := [.int x, .int (nI 0), .int (nI 2)]) (rest := [.ref (mm 0)]) ⟨hx, hb, hml, hown, hts⟩ (c_X7_in l x (nI 0) (nI 2) ) (va_cwS 3 hts (TB_S k_m_X7_49 k_st_X7_in k_in_X7 k_co_X7_in (fun _ h => h)) rfl rfl rfl (by decide +kernel) ⟨Nat.le_of_ble_eq_true rfl, Nat.le_of_ble_eq_true rfl⟩) ⟨tP_blind, tP_of⟩ rfl rfl hl.1 rfl (lv_room (Nat.le_of_ble_eq_true rfl)) dX7_count_4 ⟨Nat.le_of_ble_eq_true rfl, Nat.le_of_ble_eq_true rfl⟩) hS (fun q _ h => absurd h id) (fun q h => absurd h id) (fun zi u9 t9 H locs ht9 hvm hw hB hz1 hk1 hS => ?_)
  have hP := P_same hP hk1
  have hw := hw.trans (bI_iff (show _ ↔ (0 ≤ x.toInt ∧ x.toInt ≤ 2) by rw [nI_toIntI (by omega), nI_toIntI (by omega)]; omega))
  by_cases hin9 : 0 ≤ x.toInt ∧ x.toInt ≤ 2
  rotate_left
  · refine t_i (hw.trans (bI_f hin9).symm) ?_
    refine b_if_eq hx hb (nI_toIntI (by omega)) dX7_count_7 (tgt := 14) (by decide) (fun c7 => ?_) (fun c7 => absurd c7 (by omega))
    refine lv_iconst (v := nI 1) hx hb dX7_count_14 (by decide) ?_
    refine va_put (D := D) (ci := 7) (v := .int (nI 1)) (ty := .int) (C := RX7) (T := TX7) (N := 17) hx hb hts iX7 tyX7 tyX7_ok nmX7 hown hK hP hD hS 0 rfl rfl 5 (by decide) (hts _ k_f_X7_45) (fun _ h9 => h9) rfl (by decide +kernel) rfl rfl (Nat.le_of_ble_eq_true rfl) dX7_count_15 (fun H locs hP hD hS => ?_)
    have hP : va_P D vwCl (WM K mm ta sl ss be ch (nI 1) M rq cq pv so st gs gm gu gl aw) H := hP
    have hD : va_D A (WM K mm ta sl ss be ch (nI 1) M rq cq pv so st gs gm gu gl aw) := hD
    refine lv_aload_n hx hb dX7_count_18 rfl (lv_at hl 0 rfl) ?_
    refine va_get (D := D) (ci := 7) (C := RX7) (T := TX7) (N := 17) hx hb hts iX7 hown hK hP 0 rfl rfl 5 (by decide) (hts _ k_f_X7_45) (fun _ h9 => h9) rfl dX7_count_19 ?_
    refine b_if_eq hx hb (nI_toIntI (by omega)) dX7_count_22 (tgt := 27) (by decide) (fun c22 => absurd c22 (by omega)) (fun c22 => ?_)
    refine lv_iconst (v := nI 0) hx hb dX7_count_25 (by decide) ?_
    have hrs : rs_count d x = _ := (cI_t (by omega))
    exact W.iret (v := nI 0) hx hb hr (fun t9 ht9 hW => ⟨⟨nI 0, (ta, sl, ss, be, ch, (nI 1), M, rq, cq, pv, so, st, gs, gm, gu, gl, aw), rfl, ⟨hR, by rw [hrs], by rw [hrs]; exact fun h9 => absurd h9 (by decide)⟩, by rw [ht9]; exact hP, va_K.moved hW.alike hK, hD⟩, hS.F ht9⟩) hS.2.2 dX7_count_26
  refine t_i (hw.trans (bI_t hin9).symm) ?_
  refine b_if_eq hx hb (nI_toIntI (by omega)) dX7_count_7 (tgt := 14) (by decide) (fun c7 => absurd c7 (by omega)) (fun c7 => ?_)
  refine lv_iconst (v := nI 0) hx hb dX7_count_10 (by decide) ?_
  refine lv_goto (tgt := 15) hx hb dX7_count_11 (by decide) ?_
  refine va_put (D := D) (ci := 7) (v := .int (nI 0)) (ty := .int) (C := RX7) (T := TX7) (N := 17) hx hb hts iX7 tyX7 tyX7_ok nmX7 hown hK hP hD hS 0 rfl rfl 5 (by decide) (hts _ k_f_X7_45) (fun _ h9 => h9) rfl (by decide +kernel) rfl rfl (Nat.le_of_ble_eq_true rfl) dX7_count_15 (fun H locs hP hD hS => ?_)
  have hP : va_P D vwCl (WM K mm ta sl ss be ch (nI 0) M rq cq pv so st gs gm gu gl aw) H := hP
  have hD : va_D A (WM K mm ta sl ss be ch (nI 0) M rq cq pv so st gs gm gu gl aw) := hD
  refine lv_aload_n hx hb dX7_count_18 rfl (lv_at hl 0 rfl) ?_
  refine va_get (D := D) (ci := 7) (C := RX7) (T := TX7) (N := 17) hx hb hts iX7 hown hK hP 0 rfl rfl 5 (by decide) (hts _ k_f_X7_45) (fun _ h9 => h9) rfl dX7_count_19 ?_
  refine b_if_eq hx hb (nI_toIntI (by omega)) dX7_count_22 (tgt := 27) (by decide) (fun c22 => ?_) (fun c22 => absurd c22 (by omega))
  refine lv_iload_n hx hb dX7_count_27 rfl (lv_at hl 1 rfl) ?_
  refine lv_iconst (v := nI 2) hx hb dX7_count_28 (by decide) ?_
  refine b_icmp_ne hx hb rfl (nI_toIntI (by omega)) dX7_count_29 (tgt := 36) (by decide) (fun c29 => ?_) (fun c29 => ?_)
  · refine lv_iload_n hx hb dX7_count_36 rfl (lv_at hl 1 rfl) ?_
    refine b_if_ne hx hb rfl dX7_count_37 (tgt := 50) (by decide) (fun c37 => ?_) (fun c37 => ?_)
    · refine lv_iload_n hx hb dX7_count_50 rfl (lv_at hl 1 rfl) ?_
      refine lv_iconst (v := nI 1) hx hb dX7_count_51 (by decide) ?_
      refine b_icmp_ne hx hb rfl (nI_toIntI (by omega)) dX7_count_52 (tgt := 65) (by decide) (fun c52 => ?_) (fun c52 => ?_)
      · refine lv_aload_n hx hb dX7_count_65 rfl (lv_at hl 0 rfl) ?_
        refine va_get (D := D) (ci := 7) (C := RX7) (T := TX7) (N := 17) hx hb hts iX7 hown hK hP 0 rfl rfl 12 (by decide) (hts _ k_f_X7_67) (fun _ h9 => h9) rfl dX7_count_66 ?_
        exact W.iret (v := gs) hx hb hr (fun t9 ht9 hW => ⟨⟨gs, (ta, sl, ss, be, ch, (nI 0), M, rq, cq, pv, so, st, gs, gm, gu, gl, aw), rfl, (by exfalso; omega), by rw [ht9]; exact hP, va_K.moved hW.alike hK, hD⟩, hS.F ht9⟩) hS.2.2 dX7_count_69
      refine lv_aload_n hx hb dX7_count_55 rfl (lv_at hl 0 rfl) ?_
      refine va_get (D := D) (ci := 7) (C := RX7) (T := TX7) (N := 17) hx hb hts iX7 hown hK hP 0 rfl rfl 0 (by decide) (hts _ k_f_X7_7) (fun _ h9 => h9) rfl dX7_count_56 ?_
      refine lv_bipush (v := nI 34) hx hb dX7_count_59 (by decide) ?_
      refine n_iald hx hb hK hP 1 0 rfl rfl (i := 34) (n := 36) (by omega) (by decide) dX7_count_61 ?_
      refine t_i (show _ = nI m1 from h34) ?_
      refine lv_goto (tgt := 69) hx hb dX7_count_62 (by decide) ?_
      have hrs : rs_count d x = _ := ((cI_f (by omega)).trans ((cI_f (by omega)).trans (cI_t (by omega))))
      exact W.iret (v := nI m1) hx hb hr (fun t9 ht9 hW => ⟨⟨nI m1, (ta, sl, ss, be, ch, (nI 0), M, rq, cq, pv, so, st, gs, gm, gu, gl, aw), rfl, ⟨hR, by rw [hrs], by rw [hrs]; exact fun h9 => by rw [hm1, nI_toIntI (by omega)]⟩, by rw [ht9]; exact hP, va_K.moved hW.alike hK, hD⟩, hS.F ht9⟩) hS.2.2 dX7_count_69
    refine lv_aload_n hx hb dX7_count_40 rfl (lv_at hl 0 rfl) ?_
    refine va_get (D := D) (ci := 7) (C := RX7) (T := TX7) (N := 17) hx hb hts iX7 hown hK hP 0 rfl rfl 0 (by decide) (hts _ k_f_X7_7) (fun _ h9 => h9) rfl dX7_count_41 ?_
    refine lv_bipush (v := nI 33) hx hb dX7_count_44 (by decide) ?_
    refine n_iald hx hb hK hP 1 0 rfl rfl (i := 33) (n := 36) (by omega) (by decide) dX7_count_46 ?_
    refine t_i (show _ = nI n from h33) ?_
    refine lv_goto (tgt := 69) hx hb dX7_count_47 (by decide) ?_
    have hrs : rs_count d x = _ := ((cI_f (by omega)).trans (cI_t (by omega)))
    exact W.iret (v := nI n) hx hb hr (fun t9 ht9 hW => ⟨⟨nI n, (ta, sl, ss, be, ch, (nI 0), M, rq, cq, pv, so, st, gs, gm, gu, gl, aw), rfl, ⟨hR, by rw [hrs], by rw [hrs]; exact fun h9 => by rw [hn1, nI_toIntI (by omega)]⟩, by rw [ht9]; exact hP, va_K.moved hW.alike hK, hD⟩, hS.F ht9⟩) hS.2.2 dX7_count_69
  refine lv_aload_n hx hb dX7_count_32 rfl (lv_at hl 0 rfl) ?_
  have hFc := freeAll hD hS hA
  refine va_callv (va_runV (As := []) (rest := []) ⟨hx, hb, hml, hown, hts⟩ (c_X7_layGears l D K mm ta sl ss be ch (nI 0) M rq cq pv so st gs gm gu gl aw d H.size hd hat) (cwV 0 hts (TB_V k_m_X7_64 k_im_X7_layGears k_se_X7_layGears k_in_X7 k_co_X7_layGears (fun _ h => h)) rfl rfl rfl (by decide +kernel) ⟨Nat.le_of_ble_eq_true rfl, Nat.le_of_ble_eq_true rfl⟩) ⟨cP_blind, va_recv hK hP (ci := 7) (q0 := 0) rfl rfl, cP_of hP hK hD⟩ rfl rfl hl.1 rfl (lv_room (Nat.le_of_ble_eq_true rfl)) dX7_count_33 ⟨Nat.le_of_ble_eq_true rfl, Nat.le_of_ble_eq_true rfl⟩) hS (fun q _ h => hFc q h) hFc (fun u8 t9 H locs ht9 hvm hw hB hz1 hk1 hS => ?_)
  obtain ⟨hP, hK1, hD1⟩ := hB
  rw [ht9] at hP
  have hD := hD1.weaken (fun _ _ _ h => hFc _ h)
  have hP : va_P D vwCl (WM K mm ta sl ss be ch (nI 0) u8.1 u8.2.1 u8.2.2.1 u8.2.2.2.1 u8.2.2.2.2.1 u8.2.2.2.2.2.1 (nI (gN d)) u8.2.2.2.2.2.2.1 u8.2.2.2.2.2.2.2.1 u8.2.2.2.2.2.2.2.2 aw) H := hP
  have hD : va_D A (WM K mm ta sl ss be ch (nI 0) u8.1 u8.2.1 u8.2.2.1 u8.2.2.2.1 u8.2.2.2.2.1 u8.2.2.2.2.2.1 (nI (gN d)) u8.2.2.2.2.2.2.1 u8.2.2.2.2.2.2.2.1 u8.2.2.2.2.2.2.2.2 aw) := hD
  have htab := hw
  have hn64 := gN_le d
  refine lv_iload_n hx hb dX7_count_36 rfl (lv_at hl 1 rfl) ?_
  refine b_if_ne hx hb rfl dX7_count_37 (tgt := 50) (by decide) (fun c37 => ?_) (fun c37 => ?_)
  · refine lv_iload_n hx hb dX7_count_50 rfl (lv_at hl 1 rfl) ?_
    refine lv_iconst (v := nI 1) hx hb dX7_count_51 (by decide) ?_
    refine b_icmp_ne hx hb rfl (nI_toIntI (by omega)) dX7_count_52 (tgt := 65) (by decide) (fun c52 => ?_) (fun c52 => ?_)
    · refine lv_aload_n hx hb dX7_count_65 rfl (lv_at hl 0 rfl) ?_
      refine va_get (D := D) (ci := 7) (C := RX7) (T := TX7) (N := 17) hx hb hts iX7 hown hK hP 0 rfl rfl 12 (by decide) (hts _ k_f_X7_67) (fun _ h9 => h9) rfl dX7_count_66 ?_
      have hrs : rs_count d x = _ := ((cI_f (by omega)).trans ((cI_f (by omega)).trans ((cI_f (by omega)).trans (rfl))))
      exact W.iret (v := nI (gN d)) hx hb hr (fun t9 ht9 hW => ⟨⟨nI (gN d), (ta, sl, ss, be, ch, (nI 0), u8.1, u8.2.1, u8.2.2.1, u8.2.2.2.1, u8.2.2.2.2.1, u8.2.2.2.2.2.1, (nI (gN d)), u8.2.2.2.2.2.2.1, u8.2.2.2.2.2.2.2.1, u8.2.2.2.2.2.2.2.2, aw), rfl, ⟨hR, by rw [hrs], by rw [hrs]; exact fun h9 => nI_toIntI (n := gN d) (by omega)⟩, by rw [ht9]; exact hP, va_K.moved hW.alike hK, hD⟩, hS.F ht9⟩) hS.2.2 dX7_count_69
    refine lv_aload_n hx hb dX7_count_55 rfl (lv_at hl 0 rfl) ?_
    refine va_get (D := D) (ci := 7) (C := RX7) (T := TX7) (N := 17) hx hb hts iX7 hown hK hP 0 rfl rfl 0 (by decide) (hts _ k_f_X7_7) (fun _ h9 => h9) rfl dX7_count_56 ?_
    refine lv_bipush (v := nI 34) hx hb dX7_count_59 (by decide) ?_
    refine n_iald hx hb hK hP 1 0 rfl rfl (i := 34) (n := 36) (by omega) (by decide) dX7_count_61 ?_
    refine t_i (show _ = nI m1 from h34) ?_
    refine lv_goto (tgt := 69) hx hb dX7_count_62 (by decide) ?_
    exact W.iret (v := nI m1) hx hb hr (fun t9 ht9 hW => ⟨⟨nI m1, (ta, sl, ss, be, ch, (nI 0), u8.1, u8.2.1, u8.2.2.1, u8.2.2.2.1, u8.2.2.2.2.1, u8.2.2.2.2.2.1, (nI (gN d)), u8.2.2.2.2.2.2.1, u8.2.2.2.2.2.2.2.1, u8.2.2.2.2.2.2.2.2, aw), rfl, (by exfalso; omega), by rw [ht9]; exact hP, va_K.moved hW.alike hK, hD⟩, hS.F ht9⟩) hS.2.2 dX7_count_69
  refine lv_aload_n hx hb dX7_count_40 rfl (lv_at hl 0 rfl) ?_
  refine va_get (D := D) (ci := 7) (C := RX7) (T := TX7) (N := 17) hx hb hts iX7 hown hK hP 0 rfl rfl 0 (by decide) (hts _ k_f_X7_7) (fun _ h9 => h9) rfl dX7_count_41 ?_
  refine lv_bipush (v := nI 33) hx hb dX7_count_44 (by decide) ?_
  refine n_iald hx hb hK hP 1 0 rfl rfl (i := 33) (n := 36) (by omega) (by decide) dX7_count_46 ?_
  refine t_i (show _ = nI n from h33) ?_
  refine lv_goto (tgt := 69) hx hb dX7_count_47 (by decide) ?_
  exact W.iret (v := nI n) hx hb hr (fun t9 ht9 hW => ⟨⟨nI n, (ta, sl, ss, be, ch, (nI 0), u8.1, u8.2.1, u8.2.2.1, u8.2.2.2.1, u8.2.2.2.2.1, u8.2.2.2.2.2.1, (nI (gN d)), u8.2.2.2.2.2.2.1, u8.2.2.2.2.2.2.2.1, u8.2.2.2.2.2.2.2.2, aw), rfl, (by exfalso; omega), by rw [ht9]; exact hP, va_K.moved hW.alike hK, hD⟩, hS.F ht9⟩) hS.2.2 dX7_count_69
set_option maxHeartbeats 4000000 in
set_option maxRecDepth 100000 in
theorem c_X7_ratioOf (l : Launch) (D : va_G) (K : Nat → ClassId) (mm : Nat → Nat) (ta : Nat → Int32) (sl : Nat → Int32) (ss : Nat → Int32) (be : Nat → Int32) (ch : Int32) (th : Int32) (M : Nat → Nat → Int64) (rq : Int32) (cq : Int32) (pv : Nat → Int32) (so : Int32) (st : Nat → Int32) (gs : Int32) (gm : Nat → Int32) (gu : Nat → Int64) (gl : Nat → Int64) (aw : Nat → Int32) (k : Nat) (sz : Nat) (hk : k < 64) (hn9 : vf_n32 (fq (gu k) (gl k))) : Met l yX7_ratioOf (.code yX7_ratioOf cX7_ratioOf 2 (some .float) :: TB) ({ frames := 0, cells := 0, slots := 0, locals := 0 } : Room) (va_Pc [.ref (mm 0), .int (nI k)] (cP D K (WM K mm ta sl ss be ch th M rq cq pv so st gs gm gu gl aw) sz)) (va_Qf (fun (z : UInt32) (_ : Unit) => z = fq (gu k) (gl k)) (fun _ _ => True) (fun _ => False)) 0 0 (fun _ => False) := by
  refine Met.ofW (cc := cX7_ratioOf) (maxL := 2) (ret := (some .float)) (by decide) rfl ?_
  intro p e s m args below meth c s₁ B hml hv
  obtain ⟨rfl, hsz, hP, hK, hD0⟩ := hv
  have hx := B.exec
  have hb := B.bytes
  have hr := B.returns
  have hts := hts_tl (atoms_spec (ws := (.code yX7_ratioOf cX7_ratioOf 2 (some .float) :: TB)) B.pre)
  have hown : s.vm.findClass RX7 = some m.cls := findClass_of_methodNamed B.named
  have hlocks := B.notSynchronized
  subst hsz
  have hA : ∀ q : Nat, q < s.heap.size → (fun _ : Nat => False) q → False := fun _ _ h => h
  have hS : va_S (fun _ => False) s.heap s.heap [] := va_S.rf
  have hl := lv_entry ([.ref (mm 0), .int (nI k)]) (n := 2) (Nat.le_of_ble_eq_true rfl)
  rw [lg_entry_eq]
  generalize (lg_sl ([.ref (mm 0), .int (nI k)]) ++ List.replicate (2 - (lg_sl ([.ref (mm 0), .int (nI k)])).length) Slot.unset).toArray = ls at hl ⊢
  have hl : lv_has ls 2 [(0, .ref (mm 0)), (1, .int (nI k))] := hl
  refine lv_aload_n hx hb dX7_ratioOf_0 rfl (lv_at hl 0 rfl) ?_
  refine va_get (D := D) (ci := 7) (C := RX7) (T := TX7) (N := 17) hx hb hts iX7 hown hK hP 0 rfl rfl 14 (by decide) (hts _ k_f_X7_36) (fun _ h9 => h9) rfl dX7_ratioOf_1 ?_
  refine lv_iload_n hx hb dX7_ratioOf_4 rfl (lv_at hl 1 rfl) ?_
  refine n_lald hx hb hK hP 9 1 rfl rfl (i := k) (n := 64) (by omega) (by decide) dX7_ratioOf_5 ?_
  refine lv_l2f hx hb dX7_ratioOf_6 ?_
  refine lv_aload_n hx hb dX7_ratioOf_7 rfl (lv_at hl 0 rfl) ?_
  refine va_get (D := D) (ci := 7) (C := RX7) (T := TX7) (N := 17) hx hb hts iX7 hown hK hP 0 rfl rfl 15 (by decide) (hts _ k_f_X7_39) (fun _ h9 => h9) rfl dX7_ratioOf_8 ?_
  refine lv_iload_n hx hb dX7_ratioOf_11 rfl (lv_at hl 1 rfl) ?_
  refine n_lald hx hb hK hP 10 1 rfl rfl (i := k) (n := 64) (by omega) (by decide) dX7_ratioOf_12 ?_
  refine lv_l2f hx hb dX7_ratioOf_13 ?_
  refine lv_fdiv hx hb dX7_ratioOf_14 hn9 ?_
  exact W.fret (v := FP.fdiv (FP.l2f (gu k)) (FP.l2f (gl k))) hx hb hr (fun t9 ht9 hW => ⟨⟨FP.fdiv (FP.l2f (gu k)) (FP.l2f (gl k)), (), rfl, rfl, trivial⟩, hS.F ht9⟩) hS.2.2 dX7_ratioOf_15
set_option maxHeartbeats 4000000 in
set_option maxRecDepth 100000 in
theorem c_X7_step (l : Launch) (D : va_G) (K : Nat → ClassId) (mm : Nat → Nat) (v : CV) (w0 : MS) (x : Int32) (sz : Nat) (hI : IV v) (hR : RM v w0)  : Met l yX7_step (.code yX7_step cX7_step 2 (some .float) :: TB) ({ frames := 7, cells := 0, slots := 0, locals := 177 } : Room) (va_Pc [.ref (mm 0), .int x] (cP D K (WMu K mm w0) sz)) (va_Qf (fun (z : UInt32) (u : MS) => RM v u ∧ u.2.2.2.2.2.1 = nI (rs_step v.1 x).1 ∧ ((rs_step v.1 x).1 = 0 → vf_n32 z ∧ z = (rs_step v.1 x).2)) (fun (u : MS) t => cB D K (va_A (WMu K mm w0) sz) (WMu K mm u) t) (va_A (WMu K mm w0) sz)) 0 0 (va_A (WMu K mm w0) sz) := by
  refine Met.ofW (cc := cX7_step) (maxL := 2) (ret := (some .float)) (by decide) rfl ?_
  intro p e s m args below meth c s₁ B hml hv
  obtain ⟨rfl, hsz, hP, hK, hD0⟩ := hv
  have hx := B.exec
  have hb := B.bytes
  have hr := B.returns
  have hts := hts_tl (atoms_spec (ws := (.code yX7_step cX7_step 2 (some .float) :: TB)) B.pre)
  have hown : s.vm.findClass RX7 = some m.cls := findClass_of_methodNamed B.named
  have hlocks := B.notSynchronized
  subst hsz
  have hD := hD0.self (sz := s.heap.size)
  generalize hAe : (va_A (WMu K mm w0) s.heap.size) = A at hD ⊢
  have hA : ∀ q : Nat, s.heap.size ≤ q → A q := fun q h => by rw [← hAe]; exact Or.inr h
  have hS : va_S A s.heap s.heap [] := va_S.rf
  clear hAe hD0
  obtain ⟨d, d1, d2, f1, f2, f, s0⟩ := v
  obtain ⟨ta, sl, ss, be, ch, th, M, rq, cq, pv, so, st, gs, gm, gu, gl, aw⟩ := w0
  obtain ⟨hd, hd1, hd2, hf1, hf2, hs20, hhf⟩ := id hI
  obtain ⟨hat, hat1, hat2, hss0, hss1, hch, hbe⟩ := id hR
  dsimp only at hd hd1 hd2 hf1 hf2 hs20 hhf hat hat1 hat2 hss0 hss1 hch hbe
  obtain ⟨n, m1, ge, hn, hm, hge, h0, h1, h2, hs9, he9⟩ := id hd
  obtain ⟨ha1, ha2, ha33, ha34, ha35⟩ := id hat
  have hp6 : 2 ^ m1 ≤ 64 := Nat.pow_le_pow_right (show 0 < 2 by decide) hm
  have h33 := ha33.trans h0
  have h34 := ha34.trans h1
  have h35 := ha35.trans h2
  have hn1 : dn d 8 0 = n := dn_of h0 (by omega)
  have hm1 : dn d 8 1 = m1 := dn_of h1 (by omega)
  have hg1 : dn d 8 2 = ge := dn_of h2 (by omega)
  have hP : va_P D vwCl (WM K mm ta sl ss be ch th M rq cq pv so st gs gm gu gl aw) s.heap := hP
  have hD : va_D A (WM K mm ta sl ss be ch th M rq cq pv so st gs gm gu gl aw) := hD
  have hl := lv_entry ([.ref (mm 0), .int x]) (n := 2) (Nat.le_of_ble_eq_true rfl)
  rw [lg_entry_eq]
  generalize (lg_sl ([.ref (mm 0), .int x]) ++ List.replicate (2 - (lg_sl ([.ref (mm 0), .int x])).length) Slot.unset).toArray = ls at hl ⊢
  have hl : lv_has ls 2 [(0, .ref (mm 0)), (1, .int x)] := hl
  refine lv_aload_n hx hb dX7_step_0 rfl (lv_at hl 0 rfl) ?_
  have hFc := freeAll hD hS hA
  refine va_callv (va_runV (As := []) (rest := []) ⟨hx, hb, hml, hown, hts⟩ (c_X7_layGears l D K mm ta sl ss be ch th M rq cq pv so st gs gm gu gl aw d s.heap.size hd hat) (cwV 0 hts (TB_V k_m_X7_64 k_im_X7_layGears k_se_X7_layGears k_in_X7 k_co_X7_layGears (fun _ h => h)) rfl rfl rfl (by decide +kernel) ⟨Nat.le_of_ble_eq_true rfl, Nat.le_of_ble_eq_true rfl⟩) ⟨cP_blind, va_recv hK hP (ci := 7) (q0 := 0) rfl rfl, cP_of hP hK hD⟩ rfl rfl hl.1 rfl (lv_room (Nat.le_of_ble_eq_true rfl)) dX7_step_1 ⟨Nat.le_of_ble_eq_true rfl, Nat.le_of_ble_eq_true rfl⟩) hS (fun q _ h => hFc q h) hFc (fun u8 t9 H locs ht9 hvm hw hB hz1 hk1 hS => ?_)
  obtain ⟨hP, hK1, hD1⟩ := hB
  rw [ht9] at hP
  have hD := hD1.weaken (fun _ _ _ h => hFc _ h)
  have hP : va_P D vwCl (WM K mm ta sl ss be ch th u8.1 u8.2.1 u8.2.2.1 u8.2.2.2.1 u8.2.2.2.2.1 u8.2.2.2.2.2.1 (nI (gN d)) u8.2.2.2.2.2.2.1 u8.2.2.2.2.2.2.2.1 u8.2.2.2.2.2.2.2.2 aw) H := hP
  have hD : va_D A (WM K mm ta sl ss be ch th u8.1 u8.2.1 u8.2.2.1 u8.2.2.2.1 u8.2.2.2.2.1 u8.2.2.2.2.2.1 (nI (gN d)) u8.2.2.2.2.2.2.1 u8.2.2.2.2.2.2.2.1 u8.2.2.2.2.2.2.2.2 aw) := hD
  have htab := hw
  have hn64 := gN_le d
  refine lv_aload_n hx hb dX7_step_4 rfl (lv_at hl 0 rfl) ?_
  refine lv_aload_n hx hb dX7_step_5 rfl (lv_at hl 0 rfl) ?_
  refine lv_iload_n hx hb dX7_step_6 rfl (lv_at hl 1 rfl) ?_
  refine va_calli (va_runV (As := [.int x]) (rest := [.ref (mm 0)]) ⟨hx, hb, hml, hown, hts⟩ (c_X7_isNumber l D K mm ta sl ss be ch th u8.1 u8.2.1 u8.2.2.1 u8.2.2.2.1 u8.2.2.2.2.1 u8.2.2.2.2.2.1 (nI (gN d)) u8.2.2.2.2.2.2.1 u8.2.2.2.2.2.2.2.1 u8.2.2.2.2.2.2.2.2 aw (gN d) x H.size hn64) (cwV 1 hts (TB_V k_m_X7_153 k_im_X7_isNumber k_se_X7_isNumber k_in_X7 k_co_X7_isNumber (fun _ h => h)) rfl rfl rfl (by decide +kernel) ⟨Nat.le_of_ble_eq_true rfl, Nat.le_of_ble_eq_true rfl⟩) ⟨cP_blind, va_recv hK hP (ci := 7) (q0 := 0) rfl rfl, cP_of hP hK hD⟩ rfl rfl hl.1 rfl (lv_room (Nat.le_of_ble_eq_true rfl)) dX7_step_7 ⟨Nat.le_of_ble_eq_true rfl, Nat.le_of_ble_eq_true rfl⟩) hS (fun q _ h => absurd h id) (fun q h => absurd h id) (fun gz u9 t9 H locs ht9 hvm hw hB hz1 hk1 hS => ?_)
  have hP := P_same hP hk1
  have hw := hw.trans (bI_iff (show _ ↔ ger d x from Iff.rfl))
  by_cases hgr : ger d x
  rotate_left
  · refine t_i (hw.trans (bI_f hgr).symm) ?_
    refine b_if_eq hx hb (nI_toIntI (by omega)) dX7_step_10 (tgt := 27) (by decide) (fun c10 => ?_) (fun c10 => absurd c10 (by omega))
    refine lv_iconst (v := nI 1) hx hb dX7_step_27 (by decide) ?_
    refine va_put (D := D) (ci := 7) (v := .int (nI 1)) (ty := .int) (C := RX7) (T := TX7) (N := 17) hx hb hts iX7 tyX7 tyX7_ok nmX7 hown hK hP hD hS 0 rfl rfl 5 (by decide) (hts _ k_f_X7_45) (fun _ h9 => h9) rfl (by decide +kernel) rfl rfl (Nat.le_of_ble_eq_true rfl) dX7_step_28 (fun H locs hP hD hS => ?_)
    have hP : va_P D vwCl (WM K mm ta sl ss be ch (nI 1) u8.1 u8.2.1 u8.2.2.1 u8.2.2.2.1 u8.2.2.2.2.1 u8.2.2.2.2.2.1 (nI (gN d)) u8.2.2.2.2.2.2.1 u8.2.2.2.2.2.2.2.1 u8.2.2.2.2.2.2.2.2 aw) H := hP
    have hD : va_D A (WM K mm ta sl ss be ch (nI 1) u8.1 u8.2.1 u8.2.2.1 u8.2.2.2.1 u8.2.2.2.2.1 u8.2.2.2.2.2.1 (nI (gN d)) u8.2.2.2.2.2.2.1 u8.2.2.2.2.2.2.2.1 u8.2.2.2.2.2.2.2.2 aw) := hD
    refine lv_aload_n hx hb dX7_step_31 rfl (lv_at hl 0 rfl) ?_
    refine va_get (D := D) (ci := 7) (C := RX7) (T := TX7) (N := 17) hx hb hts iX7 hown hK hP 0 rfl rfl 5 (by decide) (hts _ k_f_X7_45) (fun _ h9 => h9) rfl dX7_step_32 ?_
    refine b_if_eq hx hb (nI_toIntI (by omega)) dX7_step_35 (tgt := 42) (by decide) (fun c35 => absurd c35 (by omega)) (fun c35 => ?_)
    refine lv_fconst0 hx hb dX7_step_38 ?_
    refine lv_goto (tgt := 55) hx hb dX7_step_39 (by decide) ?_
    have hrs : rs_step d x = _ := (cI_t (fun z => by
      first
      | exact hgr z.1
      | (obtain ⟨z9, hz, e9⟩ := z.2
         rw [nI_add] at e9
         have := (nI_eq (by omega) (by omega)).mp e9
         omega)))
    exact W.fret (v := FP.fconst0) hx hb hr (fun t9 ht9 hW => ⟨⟨FP.fconst0, (ta, sl, ss, be, ch, (nI 1), u8.1, u8.2.1, u8.2.2.1, u8.2.2.2.1, u8.2.2.2.2.1, u8.2.2.2.2.2.1, (nI (gN d)), u8.2.2.2.2.2.2.1, u8.2.2.2.2.2.2.2.1, u8.2.2.2.2.2.2.2.2, aw), rfl, ⟨hR, by rw [hrs], by rw [hrs]; exact fun h9 => absurd h9 (by decide)⟩, by rw [ht9]; exact hP, va_K.moved hW.alike hK, hD⟩, hS.F ht9⟩) hS.2.2 dX7_step_55
  refine t_i (hw.trans (bI_t hgr).symm) ?_
  obtain ⟨kg, hkg, rfl⟩ := id hgr
  have hkgn : (nI kg).toInt.toNat = kg := by rw [nI_toIntI (by omega)]; omega
  refine b_if_eq hx hb (nI_toIntI (by omega)) dX7_step_10 (tgt := 27) (by decide) (fun c10 => absurd c10 (by omega)) (fun c10 => ?_)
  refine lv_iload_n hx hb dX7_step_13 rfl (lv_at hl 1 rfl) ?_
  refine lv_iconst (v := nI 1) hx hb dX7_step_14 (by decide) ?_
  refine lv_iadd hx hb dX7_step_15 ?_
  refine t_i (nI_add _ _) ?_
  refine lv_aload_n hx hb dX7_step_16 rfl (lv_at hl 0 rfl) ?_
  refine va_get (D := D) (ci := 7) (C := RX7) (T := TX7) (N := 17) hx hb hts iX7 hown hK hP 0 rfl rfl 12 (by decide) (hts _ k_f_X7_67) (fun _ h9 => h9) rfl dX7_step_17 ?_
  refine b_icmp_ge hx hb (nI_toIntI (by omega)) (nI_toIntI (by omega)) dX7_step_20 (tgt := 27) (by decide) (fun c20 => ?_) (fun c20 => ?_)
  · refine lv_iconst (v := nI 1) hx hb dX7_step_27 (by decide) ?_
    refine va_put (D := D) (ci := 7) (v := .int (nI 1)) (ty := .int) (C := RX7) (T := TX7) (N := 17) hx hb hts iX7 tyX7 tyX7_ok nmX7 hown hK hP hD hS 0 rfl rfl 5 (by decide) (hts _ k_f_X7_45) (fun _ h9 => h9) rfl (by decide +kernel) rfl rfl (Nat.le_of_ble_eq_true rfl) dX7_step_28 (fun H locs hP hD hS => ?_)
    have hP : va_P D vwCl (WM K mm ta sl ss be ch (nI 1) u8.1 u8.2.1 u8.2.2.1 u8.2.2.2.1 u8.2.2.2.2.1 u8.2.2.2.2.2.1 (nI (gN d)) u8.2.2.2.2.2.2.1 u8.2.2.2.2.2.2.2.1 u8.2.2.2.2.2.2.2.2 aw) H := hP
    have hD : va_D A (WM K mm ta sl ss be ch (nI 1) u8.1 u8.2.1 u8.2.2.1 u8.2.2.2.1 u8.2.2.2.2.1 u8.2.2.2.2.2.1 (nI (gN d)) u8.2.2.2.2.2.2.1 u8.2.2.2.2.2.2.2.1 u8.2.2.2.2.2.2.2.2 aw) := hD
    refine lv_aload_n hx hb dX7_step_31 rfl (lv_at hl 0 rfl) ?_
    refine va_get (D := D) (ci := 7) (C := RX7) (T := TX7) (N := 17) hx hb hts iX7 hown hK hP 0 rfl rfl 5 (by decide) (hts _ k_f_X7_45) (fun _ h9 => h9) rfl dX7_step_32 ?_
    refine b_if_eq hx hb (nI_toIntI (by omega)) dX7_step_35 (tgt := 42) (by decide) (fun c35 => absurd c35 (by omega)) (fun c35 => ?_)
    refine lv_fconst0 hx hb dX7_step_38 ?_
    refine lv_goto (tgt := 55) hx hb dX7_step_39 (by decide) ?_
    have hrs : rs_step d (nI kg) = _ := (cI_t (fun z => by
      first
      | exact hgr z.1
      | (obtain ⟨z9, hz, e9⟩ := z.2
         rw [nI_add] at e9
         have := (nI_eq (by omega) (by omega)).mp e9
         omega)))
    exact W.fret (v := FP.fconst0) hx hb hr (fun t9 ht9 hW => ⟨⟨FP.fconst0, (ta, sl, ss, be, ch, (nI 1), u8.1, u8.2.1, u8.2.2.1, u8.2.2.2.1, u8.2.2.2.2.1, u8.2.2.2.2.2.1, (nI (gN d)), u8.2.2.2.2.2.2.1, u8.2.2.2.2.2.2.2.1, u8.2.2.2.2.2.2.2.2, aw), rfl, ⟨hR, by rw [hrs], by rw [hrs]; exact fun h9 => absurd h9 (by decide)⟩, by rw [ht9]; exact hP, va_K.moved hW.alike hK, hD⟩, hS.F ht9⟩) hS.2.2 dX7_step_55
  refine lv_iconst (v := nI 0) hx hb dX7_step_23 (by decide) ?_
  refine lv_goto (tgt := 28) hx hb dX7_step_24 (by decide) ?_
  refine va_put (D := D) (ci := 7) (v := .int (nI 0)) (ty := .int) (C := RX7) (T := TX7) (N := 17) hx hb hts iX7 tyX7 tyX7_ok nmX7 hown hK hP hD hS 0 rfl rfl 5 (by decide) (hts _ k_f_X7_45) (fun _ h9 => h9) rfl (by decide +kernel) rfl rfl (Nat.le_of_ble_eq_true rfl) dX7_step_28 (fun H locs hP hD hS => ?_)
  have hP : va_P D vwCl (WM K mm ta sl ss be ch (nI 0) u8.1 u8.2.1 u8.2.2.1 u8.2.2.2.1 u8.2.2.2.2.1 u8.2.2.2.2.2.1 (nI (gN d)) u8.2.2.2.2.2.2.1 u8.2.2.2.2.2.2.2.1 u8.2.2.2.2.2.2.2.2 aw) H := hP
  have hD : va_D A (WM K mm ta sl ss be ch (nI 0) u8.1 u8.2.1 u8.2.2.1 u8.2.2.2.1 u8.2.2.2.2.1 u8.2.2.2.2.2.1 (nI (gN d)) u8.2.2.2.2.2.2.1 u8.2.2.2.2.2.2.2.1 u8.2.2.2.2.2.2.2.2 aw) := hD
  refine lv_aload_n hx hb dX7_step_31 rfl (lv_at hl 0 rfl) ?_
  refine va_get (D := D) (ci := 7) (C := RX7) (T := TX7) (N := 17) hx hb hts iX7 hown hK hP 0 rfl rfl 5 (by decide) (hts _ k_f_X7_45) (fun _ h9 => h9) rfl dX7_step_32 ?_
  refine b_if_eq hx hb (nI_toIntI (by omega)) dX7_step_35 (tgt := 42) (by decide) (fun c35 => ?_) (fun c35 => absurd c35 (by omega))
  refine lv_aload_n hx hb dX7_step_42 rfl (lv_at hl 0 rfl) ?_
  refine lv_iload_n hx hb dX7_step_43 rfl (lv_at hl 1 rfl) ?_
  refine lv_iconst (v := nI 1) hx hb dX7_step_44 (by decide) ?_
  refine lv_iadd hx hb dX7_step_45 ?_
  refine t_i (nI_add _ _) ?_
  have hk1g : kg + 1 < gN d := by omega
  obtain ⟨ht1, ht2, ht3, ht4, ht5, ht6⟩ := htab kg hkg
  obtain ⟨hs1, hs2, hs3, hs4, hs5, hs6⟩ := htab (kg + 1) hk1g
  have hG9 := (gst_mem d 64 kg hkg).1
  have hG8 := (gst_mem d 64 (kg + 1) hk1g).1
  have hnt : (u8.2.2.2.2.2.2.2.1 kg).toInt ≠ 0 := by rw [ht3]; exact rtN_ne _
  have hdt : (u8.2.2.2.2.2.2.2.2 kg).toInt ≠ 0 := by rw [ht4]; exact rtD_ne hG9.2.1
  have hns : (u8.2.2.2.2.2.2.2.1 (kg + 1)).toInt ≠ 0 := by rw [hs3]; exact rtN_ne _
  have hds : (u8.2.2.2.2.2.2.2.2 (kg + 1)).toInt ≠ 0 := by rw [hs4]; exact rtD_ne hG8.2.1
  refine va_callf (va_runV (As := [.int (nI (kg + 1))]) (rest := []) ⟨hx, hb, hml, hown, hts⟩ (c_X7_ratioOf l D K mm ta sl ss be ch (nI 0) u8.1 u8.2.1 u8.2.2.1 u8.2.2.2.1 u8.2.2.2.2.1 u8.2.2.2.2.2.1 (nI (gN d)) u8.2.2.2.2.2.2.1 u8.2.2.2.2.2.2.2.1 u8.2.2.2.2.2.2.2.2 aw (kg + 1) H.size (by omega) (fq_n32 hns hds hs5 hs6)) (cwV 1 hts (TB_V k_m_X7_156 k_im_X7_ratioOf k_se_X7_ratioOf k_in_X7 k_co_X7_ratioOf (fun _ h => h)) rfl rfl rfl (by decide +kernel) ⟨Nat.le_of_ble_eq_true rfl, Nat.le_of_ble_eq_true rfl⟩) ⟨cP_blind, va_recv hK hP (ci := 7) (q0 := 0) rfl rfl, cP_of hP hK hD⟩ rfl rfl hl.1 rfl (lv_room (Nat.le_of_ble_eq_true rfl)) dX7_step_46 ⟨Nat.le_of_ble_eq_true rfl, Nat.le_of_ble_eq_true rfl⟩) hS (fun q _ h => absurd h id) (fun q h => absurd h id) (fun fb u9 t9 H locs ht9 hvm hw hB hz1 hk1 hS => ?_)
  have hP := P_same hP hk1
  have hfb := hw
  refine lv_aload_n hx hb dX7_step_49 rfl (lv_at hl 0 rfl) ?_
  refine lv_iload_n hx hb dX7_step_50 rfl (lv_at hl 1 rfl) ?_
  refine va_callf (va_runV (As := [.int (nI kg)]) (rest := [.float fb]) ⟨hx, hb, hml, hown, hts⟩ (c_X7_ratioOf l D K mm ta sl ss be ch (nI 0) u8.1 u8.2.1 u8.2.2.1 u8.2.2.2.1 u8.2.2.2.2.1 u8.2.2.2.2.2.1 (nI (gN d)) u8.2.2.2.2.2.2.1 u8.2.2.2.2.2.2.2.1 u8.2.2.2.2.2.2.2.2 aw kg H.size (by omega) (fq_n32 hnt hdt ht5 ht6)) (cwV 1 hts (TB_V k_m_X7_156 k_im_X7_ratioOf k_se_X7_ratioOf k_in_X7 k_co_X7_ratioOf (fun _ h => h)) rfl rfl rfl (by decide +kernel) ⟨Nat.le_of_ble_eq_true rfl, Nat.le_of_ble_eq_true rfl⟩) ⟨cP_blind, va_recv hK hP (ci := 7) (q0 := 0) rfl rfl, cP_of hP hK hD⟩ rfl rfl hl.1 rfl (lv_room (Nat.le_of_ble_eq_true rfl)) dX7_step_51 ⟨Nat.le_of_ble_eq_true rfl, Nat.le_of_ble_eq_true rfl⟩) hS (fun q _ h => absurd h id) (fun q h => absurd h id) (fun fa u9 t9 H locs ht9 hvm hw hB hz1 hk1 hS => ?_)
  have hP := P_same hP hk1
  have hfa := hw
  have hN9 : vf_n32 (FP.fdiv fb fa) := by rw [hfb, hfa]; exact fqq_n32 hns hds hnt hdt hs5 hs6 ht5 ht6
  refine lv_fdiv hx hb dX7_step_54 hN9 ?_
  have hrs : rs_step d (nI kg) = _ := ((cI_f (fun z => z ⟨hgr, kg + 1, hk1g, nI_add kg 1⟩)).trans (rfl))
  exact W.fret (v := FP.fdiv fb fa) hx hb hr (fun t9 ht9 hW => ⟨⟨FP.fdiv fb fa, (ta, sl, ss, be, ch, (nI 0), u8.1, u8.2.1, u8.2.2.1, u8.2.2.2.1, u8.2.2.2.2.1, u8.2.2.2.2.2.1, (nI (gN d)), u8.2.2.2.2.2.2.1, u8.2.2.2.2.2.2.2.1, u8.2.2.2.2.2.2.2.2, aw), rfl, ⟨hR, by rw [hrs], by rw [hrs]; exact fun h9 => ⟨hN9, by rw [hkgn, hfb, hfa]; unfold fqS; rw [← i64_of ht3, ← i64_of ht4, ← i64_of hs3, ← i64_of hs4]⟩⟩, by rw [ht9]; exact hP, va_K.moved hW.alike hK, hD⟩, hS.F ht9⟩) hS.2.2 dX7_step_55
