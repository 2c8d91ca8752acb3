/-! PlanetaryGearboxModel: undo, brakesOnly -/
set_option maxHeartbeats 4000000 in
set_option maxRecDepth 100000 in
theorem c_X7_undo (l : Launch) (D : va_G) (K : Nat → ClassId) (mm : Nat → Nat) (v : CV) (w0 : MS)  (sz : Nat) (hI : IV v) (hR : RM v w0)  : Met l yX7_undo (.code yX7_undo cX7_undo 1 (some .boolean) :: TB) ({ frames := 0, cells := 0, slots := 0, locals := 0 } : Room) (va_Pc [.ref (mm 0)] (cP D K (WMu K mm w0) sz)) (va_Qi (fun (z : Int32) (u : MS) => u.2.2.2.2.2.1 = nI 0 ∧ ((v.2.2.2.2.2.2 = 0 ∧ z = nI 0 ∧ RM v u) ∨ (0 < v.2.2.2.2.2.2 ∧ z = nI 1 ∧ RM (dU v.1 8 2 (v.2.2.2.2.2.1 (v.2.2.2.2.2.2 - 1)), v.2.1, v.2.2.1, v.2.2.2.1, v.2.2.2.2.1, v.2.2.2.2.2.1, v.2.2.2.2.2.2 - 1) u))) (fun (u : MS) t => cB D K (va_A (WMu K mm w0) sz) (WMu K mm u) t) (va_A (WMu K mm w0) sz)) 0 0 (va_A (WMu K mm w0) sz) := by
  refine Met.ofW (cc := cX7_undo) (maxL := 1) (ret := (some .boolean)) (by decide) rfl ?_
  intro p e s m args below meth c s₁ B hml hv
  obtain ⟨rfl, hsz, hP, hK, hD0⟩ := hv
  have hx := B.exec
  have hb := B.bytes
  have hr := B.returns
  have hts := hts_tl (atoms_spec (ws := (.code yX7_undo cX7_undo 1 (some .boolean) :: TB)) B.pre)
  have hown : s.vm.findClass RX7 = some m.cls := findClass_of_methodNamed B.named
  have hlocks := B.notSynchronized
  subst hsz
  have hD := hD0.self (sz := s.heap.size)
  generalize hAe : (va_A (WMu K mm w0) s.heap.size) = A at hD ⊢
  have hA : ∀ q : Nat, s.heap.size ≤ q → A q := fun q h => by rw [← hAe]; exact Or.inr h
  have hS : va_S A s.heap s.heap [] := va_S.rf
  clear hAe hD0
  obtain ⟨d, d1, d2, f1, f2, f, s0⟩ := v
  obtain ⟨ta, sl, ss, be, ch, th, M, rq, cq, pv, so, st, gs, gm, gu, gl, aw⟩ := w0
  obtain ⟨hd, hd1, hd2, hf1, hf2, hs20, hhf⟩ := id hI
  obtain ⟨hat, hat1, hat2, hss0, hss1, hch, hbe⟩ := id hR
  dsimp only at hd hd1 hd2 hf1 hf2 hs20 hhf hat hat1 hat2 hss0 hss1 hch hbe
  obtain ⟨n, m1, ge, hn, hm, hge, h0, h1, h2, hs9, he9⟩ := id hd
  obtain ⟨ha1, ha2, ha33, ha34, ha35⟩ := id hat
  have hp6 : 2 ^ m1 ≤ 64 := Nat.pow_le_pow_right (show 0 < 2 by decide) hm
  have h33 := ha33.trans h0
  have h34 := ha34.trans h1
  have h35 := ha35.trans h2
  have hn1 : dn d 8 0 = n := dn_of h0 (by omega)
  have hm1 : dn d 8 1 = m1 := dn_of h1 (by omega)
  have hg1 : dn d 8 2 = ge := dn_of h2 (by omega)
  have hP : va_P D vwCl (WM K mm ta sl ss be ch th M rq cq pv so st gs gm gu gl aw) s.heap := hP
  have hD : va_D A (WM K mm ta sl ss be ch th M rq cq pv so st gs gm gu gl aw) := hD
  have hl := lv_entry ([.ref (mm 0)]) (n := 1) (Nat.le_of_ble_eq_true rfl)
  rw [lg_entry_eq]
  generalize (lg_sl ([.ref (mm 0)]) ++ List.replicate (1 - (lg_sl ([.ref (mm 0)])).length) Slot.unset).toArray = ls at hl ⊢
  have hl : lv_has ls 1 [(0, .ref (mm 0))] := hl
  refine lv_aload_n hx hb dX7_undo_0 rfl (lv_at hl 0 rfl) ?_
  refine lv_iconst (v := nI 0) hx hb dX7_undo_1 (by decide) ?_
  refine va_put (D := D) (ci := 7) (v := .int (nI 0)) (ty := .int) (C := RX7) (T := TX7) (N := 17) hx hb hts iX7 tyX7 tyX7_ok nmX7 hown hK hP hD hS 0 rfl rfl 5 (by decide) (hts _ k_f_X7_45) (fun _ h9 => h9) rfl (by decide +kernel) rfl rfl (Nat.le_of_ble_eq_true rfl) dX7_undo_2 (fun H locs hP hD hS => ?_)
  have hP : va_P D vwCl (WM K mm ta sl ss be ch (nI 0) M rq cq pv so st gs gm gu gl aw) H := hP
  have hD : va_D A (WM K mm ta sl ss be ch (nI 0) M rq cq pv so st gs gm gu gl aw) := hD
  refine lv_aload_n hx hb dX7_undo_5 rfl (lv_at hl 0 rfl) ?_
  refine va_get (D := D) (ci := 7) (C := RX7) (T := TX7) (N := 17) hx hb hts iX7 hown hK hP 0 rfl rfl 4 (by decide) (hts _ k_f_X7_70) (fun _ h9 => h9) rfl dX7_undo_6 ?_
  refine t_i (show _ = nI s0 from hch) ?_
  refine b_if_ne hx hb (nI_toIntI (by omega)) dX7_undo_9 (tgt := 14) (by decide) (fun c9 => ?_) (fun c9 => ?_)
  · refine lv_aload_n hx hb dX7_undo_14 rfl (lv_at hl 0 rfl) ?_
    refine lv_dup hx hb dX7_undo_15 rfl ?_
    refine va_get (D := D) (ci := 7) (C := RX7) (T := TX7) (N := 17) hx hb hts iX7 hown hK hP 0 rfl rfl 4 (by decide) (hts _ k_f_X7_70) (fun _ h9 => h9) rfl dX7_undo_16 ?_
    refine t_i (show _ = nI s0 from hch) ?_
    refine lv_iconst (v := nI 1) hx hb dX7_undo_19 (by decide) ?_
    refine lv_isub hx hb dX7_undo_20 ?_
    refine t_i (pk_sub (by omega)) ?_
    refine va_put (D := D) (ci := 7) (v := .int (nI (s0 - 1))) (ty := .int) (C := RX7) (T := TX7) (N := 17) hx hb hts iX7 tyX7 tyX7_ok nmX7 hown hK hP hD hS 0 rfl rfl 4 (by decide) (hts _ k_f_X7_70) (fun _ h9 => h9) rfl (by decide +kernel) rfl rfl (Nat.le_of_ble_eq_true rfl) dX7_undo_21 (fun H locs hP hD hS => ?_)
    have hP : va_P D vwCl (WM K mm ta sl ss be (nI (s0 - 1)) (nI 0) M rq cq pv so st gs gm gu gl aw) H := hP
    have hD : va_D A (WM K mm ta sl ss be (nI (s0 - 1)) (nI 0) M rq cq pv so st gs gm gu gl aw) := hD
    refine lv_aload_n hx hb dX7_undo_24 rfl (lv_at hl 0 rfl) ?_
    refine va_get (D := D) (ci := 7) (C := RX7) (T := TX7) (N := 17) hx hb hts iX7 hown hK hP 0 rfl rfl 0 (by decide) (hts _ k_f_X7_7) (fun _ h9 => h9) rfl dX7_undo_25 ?_
    refine lv_bipush (v := nI 35) hx hb dX7_undo_28 (by decide) ?_
    refine lv_aload_n hx hb dX7_undo_30 rfl (lv_at hl 0 rfl) ?_
    refine va_get (D := D) (ci := 7) (C := RX7) (T := TX7) (N := 17) hx hb hts iX7 hown hK hP 0 rfl rfl 3 (by decide) (hts _ k_f_X7_20) (fun _ h9 => h9) rfl dX7_undo_31 ?_
    refine lv_aload_n hx hb dX7_undo_34 rfl (lv_at hl 0 rfl) ?_
    refine va_get (D := D) (ci := 7) (C := RX7) (T := TX7) (N := 17) hx hb hts iX7 hown hK hP 0 rfl rfl 4 (by decide) (hts _ k_f_X7_70) (fun _ h9 => h9) rfl dX7_undo_35 ?_
    refine n_iald hx hb hK hP 4 0 rfl rfl (i := (s0 - 1)) (n := 20) (by omega) (by decide) dX7_undo_38 ?_
    refine n_iast hx hb hK hP hD hS 1 0 rfl rfl (i := 35) (n := 36) (by omega) (by decide) dX7_undo_39 (fun H locs hP hD hS => ?_)
    have hP : va_P D vwCl (WM K mm (upd ta 35 (be (s0 - 1))) sl ss be (nI (s0 - 1)) (nI 0) M rq cq pv so st gs gm gu gl aw) H := hP
    have hD : va_D A (WM K mm (upd ta 35 (be (s0 - 1))) sl ss be (nI (s0 - 1)) (nI 0) M rq cq pv so st gs gm gu gl aw) := hD
    refine lv_iconst (v := nI 1) hx hb dX7_undo_40 (by decide) ?_
    exact W.zret (v := nI 1) hx hb hr (by decide) (fun t9 ht9 hW => ⟨⟨nI 1, (upd ta 35 (be (s0 - 1)), sl, ss, be, (nI (s0 - 1)), (nI 0), M, rq, cq, pv, so, st, gs, gm, gu, gl, aw), rfl, ⟨rfl, Or.inr ⟨by show 0 < s0; omega, rfl, (by rw [hbe (s0 - 1) (by omega)]; exact AtD_eng hat), hat1, hat2, hss0, hss1, rfl, fun j hj => hbe j (by have hj : j < s0 - 1 := hj; omega)⟩⟩, by rw [ht9]; exact hP, va_K.moved hW.alike hK, hD⟩, hS.F ht9⟩) hS.2.2 dX7_undo_41
  refine lv_iconst (v := nI 0) hx hb dX7_undo_12 (by decide) ?_
  exact W.zret (v := nI 0) hx hb hr (by decide) (fun t9 ht9 hW => ⟨⟨nI 0, (ta, sl, ss, be, ch, (nI 0), M, rq, cq, pv, so, st, gs, gm, gu, gl, aw), rfl, ⟨rfl, Or.inl ⟨by show s0 = 0; omega, rfl, hR⟩⟩, by rw [ht9]; exact hP, va_K.moved hW.alike hK, hD⟩, hS.F ht9⟩) hS.2.2 dX7_undo_13
