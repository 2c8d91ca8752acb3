/-! PlanetaryGearboxModel: brakesOnly -/
set_option maxHeartbeats 4000000 in
set_option maxRecDepth 100000 in
theorem c_X7_brakesOnly (l : Launch) (D : va_G) (K : Nat → ClassId) (mm : Nat → Nat) (v : CV) (w0 : MS)  (sz : Nat) (hI : IV v) (hR : RM v w0)  : Met l yX7_brakesOnly (.code yX7_brakesOnly cX7_brakesOnly 3 (some .boolean) :: TB) ({ frames := 1, cells := 0, slots := 0, locals := 21 } : Room) (va_Pc [.ref (mm 0)] (cP D K (WMu K mm w0) sz)) (va_Qi (fun (z : Int32) (u : MS) => RM v u ∧ u.2.2.2.2.2.1 = nI 0 ∧ z.toInt = rs_brakesOnly v.1) (fun (u : MS) t => cB D K (va_A (WMu K mm w0) sz) (WMu K mm u) t) (va_A (WMu K mm w0) sz)) 0 0 (va_A (WMu K mm w0) sz) := by
  refine Met.ofW (cc := cX7_brakesOnly) (maxL := 3) (ret := (some .boolean)) (by decide) rfl ?_
  intro p e s m args below meth c s₁ B hml hv
  obtain ⟨rfl, hsz, hP, hK, hD0⟩ := hv
  have hx := B.exec
  have hb := B.bytes
  have hr := B.returns
  have hts := hts_tl (atoms_spec (ws := (.code yX7_brakesOnly cX7_brakesOnly 3 (some .boolean) :: TB)) B.pre)
  have hown : s.vm.findClass RX7 = some m.cls := findClass_of_methodNamed B.named
  have hlocks := B.notSynchronized
  subst hsz
  have hD := hD0.self (sz := s.heap.size)
  generalize hAe : (va_A (WMu K mm w0) s.heap.size) = A at hD ⊢
  have hA : ∀ q : Nat, s.heap.size ≤ q → A q := fun q h => by rw [← hAe]; exact Or.inr h
  have hS : va_S A s.heap s.heap [] := va_S.rf
  clear hAe hD0
  obtain ⟨d, d1, d2, f1, f2, f, s0⟩ := v
  obtain ⟨ta, sl, ss, be, ch, th, M, rq, cq, pv, so, st, gs, gm, gu, gl, aw⟩ := w0
  obtain ⟨hd, hd1, hd2, hf1, hf2, hs20, hhf⟩ := id hI
  obtain ⟨hat, hat1, hat2, hss0, hss1, hch, hbe⟩ := id hR
  dsimp only at hd hd1 hd2 hf1 hf2 hs20 hhf hat hat1 hat2 hss0 hss1 hch hbe
  obtain ⟨n, m1, ge, hn, hm, hge, h0, h1, h2, hs9, he9⟩ := id hd
  obtain ⟨ha1, ha2, ha33, ha34, ha35⟩ := id hat
  have hp6 : 2 ^ m1 ≤ 64 := Nat.pow_le_pow_right (show 0 < 2 by decide) hm
  have h33 := ha33.trans h0
  have h34 := ha34.trans h1
  have h35 := ha35.trans h2
  have hn1 : dn d 8 0 = n := dn_of h0 (by omega)
  have hm1 : dn d 8 1 = m1 := dn_of h1 (by omega)
  have hg1 : dn d 8 2 = ge := dn_of h2 (by omega)
  have hP : va_P D vwCl (WM K mm ta sl ss be ch th M rq cq pv so st gs gm gu gl aw) s.heap := hP
  have hD : va_D A (WM K mm ta sl ss be ch th M rq cq pv so st gs gm gu gl aw) := hD
  have hl := lv_entry ([.ref (mm 0)]) (n := 3) (Nat.le_of_ble_eq_true rfl)
  rw [lg_entry_eq]
  generalize (lg_sl ([.ref (mm 0)]) ++ List.replicate (3 - (lg_sl ([.ref (mm 0)])).length) Slot.unset).toArray = ls at hl ⊢
  have hl : lv_has ls 3 [(0, .ref (mm 0))] := hl
  refine lv_aload_n hx hb dX7_brakesOnly_0 rfl (lv_at hl 0 rfl) ?_
  refine lv_iconst (v := nI 0) hx hb dX7_brakesOnly_1 (by decide) ?_
  refine va_put (D := D) (ci := 7) (v := .int (nI 0)) (ty := .int) (C := RX7) (T := TX7) (N := 17) hx hb hts iX7 tyX7 tyX7_ok nmX7 hown hK hP hD hS 0 rfl rfl 5 (by decide) (hts _ k_f_X7_45) (fun _ h9 => h9) rfl (by decide +kernel) rfl rfl (Nat.le_of_ble_eq_true rfl) dX7_brakesOnly_2 (fun H locs hP hD hS => ?_)
  have hP : va_P D vwCl (WM K mm ta sl ss be ch (nI 0) M rq cq pv so st gs gm gu gl aw) H := hP
  have hD : va_D A (WM K mm ta sl ss be ch (nI 0) M rq cq pv so st gs gm gu gl aw) := hD
  refine lv_iconst (v := nI 1) hx hb dX7_brakesOnly_5 (by decide) ?_
  refine lv_istore_n (lv' := [(1, .int (nI 1)), (0, .ref (mm 0))]) hx hb dX7_brakesOnly_6 rfl hl (by decide) rfl (fun ls hl => ?_)
  refine lv_iconst (v := nI 0) hx hb dX7_brakesOnly_7 (by decide) ?_
  refine lv_istore_n (lv' := [(2, .int (nI 0)), (1, .int (nI 1)), (0, .ref (mm 0))]) hx hb dX7_brakesOnly_8 rfl hl (by decide) rfl (fun ls hl => ?_)
  have e9 : nI 1 = bI (∀ j, j < 0 → ¬ (ge.testBit j = true ∧ ¬ d 6 j = -1)) := bI_t (fun j hj => absurd hj (Nat.not_lt_zero j))
  have hl : lv_has ls 3 [(2, .int (nI 0)), (1, .int (bI (∀ j, j < 0 → ¬ (ge.testBit j = true ∧ ¬ d 6 j = -1)))), (0, .ref (mm 0))] := by rw [← e9]; exact hl
  have L9 : ∀ (fuel : Nat) (o : Nat) (H : Heap) (locs : List Loc) (ls : Array Slot), 10 - o < fuel → (o ≤ m1) → va_P D vwCl (WM K mm ta sl ss be ch (nI 0) M rq cq pv so st gs gm gu gl aw) H → va_D A (WM K mm ta sl ss be ch (nI 0) M rq cq pv so st gs gm gu gl aw) → va_S A s.heap H locs → lv_has ls 3 [(2, .int (nI o)), (1, .int (bI (∀ j, j < o → ¬ (ge.testBit j = true ∧ ¬ d 6 j = -1)))), (0, .ref (mm 0))] → W p l e ({ frames := 1, cells := 0, slots := 0, locals := 21 } : Room) s m [.ref (mm 0)].toArray below meth c H locs 0 0 (MQ below (va_Qi (fun (z : Int32) (u : MS) => RM (d, d1, d2, f1, f2, f, s0) u ∧ u.2.2.2.2.2.1 = nI 0 ∧ z.toInt = rs_brakesOnly (d, d1, d2, f1, f2, f, s0).1) (fun (u : MS) t => cB D K A (WMu K mm u) t) A) [.ref (mm 0)].toArray s 0 0 A) (F0 m 9 ls []) := by
    intro fuel
    induction fuel with
    | zero =>
      intro o H locs ls hfu
      exact absurd hfu (Nat.not_lt_zero _)
    | succ fuel ih9 =>
      intro o H locs ls hfu ho hP hD hS hl
      refine lv_iload_n hx hb dX7_brakesOnly_9 rfl (lv_at hl 0 rfl) ?_
      refine lv_aload_n hx hb dX7_brakesOnly_10 rfl (lv_at hl 2 rfl) ?_
      refine va_get (D := D) (ci := 7) (C := RX7) (T := TX7) (N := 17) hx hb hts iX7 hown hK hP 0 rfl rfl 0 (by decide) (hts _ k_f_X7_7) (fun _ h9 => h9) rfl dX7_brakesOnly_11 ?_
      refine lv_bipush (v := nI 34) hx hb dX7_brakesOnly_14 (by decide) ?_
      refine n_iald hx hb hK hP 1 0 rfl rfl (i := 34) (n := 36) (by omega) (by decide) dX7_brakesOnly_16 ?_
      refine t_i (show _ = nI m1 from h34) ?_
      refine b_icmp_ge hx hb (nI_toIntI (by omega)) (nI_toIntI (by omega)) dX7_brakesOnly_17 (tgt := 63) (by decide) (fun c17 => ?_) (fun c17 => ?_)
      · refine lv_iload_n hx hb dX7_brakesOnly_63 rfl (lv_at hl 1 rfl) ?_
        exact W.zret (v := bI (∀ j, j < o → ¬ (ge.testBit j = true ∧ ¬ d 6 j = -1))) hx hb hr (by rcases bI_01 (∀ j, j < o → ¬ (ge.testBit j = true ∧ ¬ d 6 j = -1)) with e | e <;> rw [e] <;> decide) (fun t9 ht9 hW => ⟨⟨bI (∀ j, j < o → ¬ (ge.testBit j = true ∧ ¬ d 6 j = -1)), (ta, sl, ss, be, ch, (nI 0), M, rq, cq, pv, so, st, gs, gm, gu, gl, aw), rfl, ⟨hR, rfl, by
      show (bI _).toInt = _
      unfold rs_brakesOnly
      rw [hm1, hg1]
      by_cases q : ∃ k, k < m1 ∧ ge.testBit k = true ∧ ¬ d 6 k = -1
      · rw [cI_t q, ← bI_f (fun z => by obtain ⟨k, z1, z2⟩ := q; exact z k (by omega) z2)]; decide
      · rw [cI_f q, ← bI_t (fun j hj z => q ⟨j, by omega, z⟩)]; decide⟩, by rw [ht9]; exact hP, va_K.moved hW.alike hK, hD⟩, hS.F ht9⟩) hS.2.2 dX7_brakesOnly_64
      refine lv_iload_n hx hb dX7_brakesOnly_20 rfl (lv_at hl 1 rfl) ?_
      by_cases hall : (∀ j, j < o → ¬ (ge.testBit j = true ∧ ¬ d 6 j = -1))
      rotate_left
      · refine t_i (bI_f hall).symm ?_
        refine b_if_eq hx hb (nI_toIntI (by omega)) dX7_brakesOnly_21 (tgt := 55) (by decide) (fun c21 => ?_) (fun c21 => absurd c21 (by omega))
        refine lv_iconst (v := nI 0) hx hb dX7_brakesOnly_55 (by decide) ?_
        refine lv_istore_n (lv' := [(1, .int (nI 0)), (2, .int (nI o)), (0, .ref (mm 0))]) hx hb dX7_brakesOnly_56 rfl hl (by decide) rfl (fun ls hl => ?_)
        refine lv_iinc (v := nI (o + 1)) (lv' := [(2, .int (nI (o + 1))), (1, .int (nI 0)), (0, .ref (mm 0))]) hx hb dX7_brakesOnly_57 hl (k := 1) rfl (nI_add o 1) (by decide) rfl (fun ls hl => ?_)
        refine lv_goto (tgt := 9) hx hb dX7_brakesOnly_60 (by decide) ?_
        have e9 : nI 0 = bI (∀ j, j < (o + 1) → ¬ (ge.testBit j = true ∧ ¬ d 6 j = -1)) := bI_f (fun z => by
      first
      | exact hall (fun j hj => z j (by omega))
      | exact z o (Nat.lt_succ_self o) ⟨hen, fun e => by rw [ht6, e] at c48; exact absurd (show (-1 : Int32).toInt = -1 by decide) (by omega)⟩)
        have hl : lv_has ls 3 [(2, .int (nI (o + 1))), (1, .int (bI (∀ j, j < (o + 1) → ¬ (ge.testBit j = true ∧ ¬ d 6 j = -1)))), (0, .ref (mm 0))] := by rw [← e9]; exact hl
        exact ih9 (o + 1) _ _ _ (by omega) (by omega) hP hD hS (lv_sub hl [0, 1, 2] rfl)
      refine t_i (bI_t hall).symm ?_
      refine b_if_eq hx hb (nI_toIntI (by omega)) dX7_brakesOnly_21 (tgt := 55) (by decide) (fun c21 => absurd c21 (by omega)) (fun c21 => ?_)
      refine lv_aload_n hx hb dX7_brakesOnly_24 rfl (lv_at hl 2 rfl) ?_
      refine va_get (D := D) (ci := 7) (C := RX7) (T := TX7) (N := 17) hx hb hts iX7 hown hK hP 0 rfl rfl 0 (by decide) (hts _ k_f_X7_7) (fun _ h9 => h9) rfl dX7_brakesOnly_25 ?_
      refine lv_bipush (v := nI 35) hx hb dX7_brakesOnly_28 (by decide) ?_
      refine n_iald hx hb hK hP 1 0 rfl rfl (i := 35) (n := 36) (by omega) (by decide) dX7_brakesOnly_30 ?_
      refine t_i (show _ = nI ge from h35) ?_
      refine lv_iload_n hx hb dX7_brakesOnly_31 rfl (lv_at hl 0 rfl) ?_
      have ht6 := (ha2 o (by omega)).2.1
      refine va_calli (va_runS (As := [.int (nI ge), .int (nI o)]) (rest := []) ⟨hx, hb, hml, hown, hts⟩ (c_X7_has l o ge (by omega) (by omega)) (va_cwS 2 hts (TB_S k_m_X7_73 k_st_X7_has k_in_X7 k_co_X7_has (fun _ h => h)) rfl rfl rfl (by decide +kernel) ⟨Nat.le_of_ble_eq_true rfl, Nat.le_of_ble_eq_true rfl⟩) ⟨tP_blind, tP_of⟩ rfl rfl hl.1 rfl (lv_room (Nat.le_of_ble_eq_true rfl)) dX7_brakesOnly_32 ⟨Nat.le_of_ble_eq_true rfl, Nat.le_of_ble_eq_true rfl⟩) hS (fun q _ h => absurd h id) (fun q h => absurd h id) (fun hz9 u9 t9 H locs ht9 hvm hw hB hz1 hk1 hS => ?_)
      have hP := P_same hP hk1
      by_cases hen : ge.testBit o = true
      rotate_left
      · refine t_i (hw.trans (bI_f hen).symm) ?_
        refine b_if_eq hx hb (nI_toIntI (by omega)) dX7_brakesOnly_35 (tgt := 51) (by decide) (fun c35 => ?_) (fun c35 => absurd c35 (by omega))
        refine lv_iconst (v := nI 1) hx hb dX7_brakesOnly_51 (by decide) ?_
        refine lv_goto (tgt := 56) hx hb dX7_brakesOnly_52 (by decide) ?_
        refine lv_istore_n (lv' := [(1, .int (nI 1)), (2, .int (nI o)), (0, .ref (mm 0))]) hx hb dX7_brakesOnly_56 rfl hl (by decide) rfl (fun ls hl => ?_)
        refine lv_iinc (v := nI (o + 1)) (lv' := [(2, .int (nI (o + 1))), (1, .int (nI 1)), (0, .ref (mm 0))]) hx hb dX7_brakesOnly_57 hl (k := 1) rfl (nI_add o 1) (by decide) rfl (fun ls hl => ?_)
        refine lv_goto (tgt := 9) hx hb dX7_brakesOnly_60 (by decide) ?_
        have e9 : nI 1 = bI (∀ j, j < (o + 1) → ¬ (ge.testBit j = true ∧ ¬ d 6 j = -1)) := bI_t (fun j hj z => by
      by_cases q : j = o
      · subst q; first | exact hen z.1 | exact z.2 ((i32_eq _ _).mpr (by rw [← ht6, show (-1 : Int32).toInt = -1 by decide]; omega))
      · exact hall j (by omega) z)
        have hl : lv_has ls 3 [(2, .int (nI (o + 1))), (1, .int (bI (∀ j, j < (o + 1) → ¬ (ge.testBit j = true ∧ ¬ d 6 j = -1)))), (0, .ref (mm 0))] := by rw [← e9]; exact hl
        exact ih9 (o + 1) _ _ _ (by omega) (by omega) hP hD hS (lv_sub hl [0, 1, 2] rfl)
      refine t_i (hw.trans (bI_t hen).symm) ?_
      refine b_if_eq hx hb (nI_toIntI (by omega)) dX7_brakesOnly_35 (tgt := 51) (by decide) (fun c35 => absurd c35 (by omega)) (fun c35 => ?_)
      refine lv_aload_n hx hb dX7_brakesOnly_38 rfl (lv_at hl 2 rfl) ?_
      refine va_get (D := D) (ci := 7) (C := RX7) (T := TX7) (N := 17) hx hb hts iX7 hown hK hP 0 rfl rfl 0 (by decide) (hts _ k_f_X7_7) (fun _ h9 => h9) rfl dX7_brakesOnly_39 ?_
      refine lv_bipush (v := nI 21) hx hb dX7_brakesOnly_42 (by decide) ?_
      refine lv_iload_n hx hb dX7_brakesOnly_44 rfl (lv_at hl 0 rfl) ?_
      refine lv_iadd hx hb dX7_brakesOnly_45 ?_
      refine t_i (nI_add _ _) ?_
      refine n_iald hx hb hK hP 1 0 rfl rfl (i := 21 + o) (n := 36) (by omega) (by decide) dX7_brakesOnly_46 ?_
      refine lv_iconst (v := (-1)) hx hb dX7_brakesOnly_47 (by decide) ?_
      refine b_icmp_ne hx hb rfl (show (-1 : Int32).toInt = -1 by decide) dX7_brakesOnly_48 (tgt := 55) (by decide) (fun c48 => ?_) (fun c48 => ?_)
      · refine lv_iconst (v := nI 0) hx hb dX7_brakesOnly_55 (by decide) ?_
        refine lv_istore_n (lv' := [(1, .int (nI 0)), (2, .int (nI o)), (0, .ref (mm 0))]) hx hb dX7_brakesOnly_56 rfl hl (by decide) rfl (fun ls hl => ?_)
        refine lv_iinc (v := nI (o + 1)) (lv' := [(2, .int (nI (o + 1))), (1, .int (nI 0)), (0, .ref (mm 0))]) hx hb dX7_brakesOnly_57 hl (k := 1) rfl (nI_add o 1) (by decide) rfl (fun ls hl => ?_)
        refine lv_goto (tgt := 9) hx hb dX7_brakesOnly_60 (by decide) ?_
        have e9 : nI 0 = bI (∀ j, j < (o + 1) → ¬ (ge.testBit j = true ∧ ¬ d 6 j = -1)) := bI_f (fun z => by
      first
      | exact hall (fun j hj => z j (by omega))
      | exact z o (Nat.lt_succ_self o) ⟨hen, fun e => by rw [ht6, e] at c48; exact absurd (show (-1 : Int32).toInt = -1 by decide) (by omega)⟩)
        have hl : lv_has ls 3 [(2, .int (nI (o + 1))), (1, .int (bI (∀ j, j < (o + 1) → ¬ (ge.testBit j = true ∧ ¬ d 6 j = -1)))), (0, .ref (mm 0))] := by rw [← e9]; exact hl
        exact ih9 (o + 1) _ _ _ (by omega) (by omega) hP hD hS (lv_sub hl [0, 1, 2] rfl)
      refine lv_iconst (v := nI 1) hx hb dX7_brakesOnly_51 (by decide) ?_
      refine lv_goto (tgt := 56) hx hb dX7_brakesOnly_52 (by decide) ?_
      refine lv_istore_n (lv' := [(1, .int (nI 1)), (2, .int (nI o)), (0, .ref (mm 0))]) hx hb dX7_brakesOnly_56 rfl hl (by decide) rfl (fun ls hl => ?_)
      refine lv_iinc (v := nI (o + 1)) (lv' := [(2, .int (nI (o + 1))), (1, .int (nI 1)), (0, .ref (mm 0))]) hx hb dX7_brakesOnly_57 hl (k := 1) rfl (nI_add o 1) (by decide) rfl (fun ls hl => ?_)
      refine lv_goto (tgt := 9) hx hb dX7_brakesOnly_60 (by decide) ?_
      have e9 : nI 1 = bI (∀ j, j < (o + 1) → ¬ (ge.testBit j = true ∧ ¬ d 6 j = -1)) := bI_t (fun j hj z => by
      by_cases q : j = o
      · subst q; first | exact hen z.1 | exact z.2 ((i32_eq _ _).mpr (by rw [← ht6, show (-1 : Int32).toInt = -1 by decide]; omega))
      · exact hall j (by omega) z)
      have hl : lv_has ls 3 [(2, .int (nI (o + 1))), (1, .int (bI (∀ j, j < (o + 1) → ¬ (ge.testBit j = true ∧ ¬ d 6 j = -1)))), (0, .ref (mm 0))] := by rw [← e9]; exact hl
      exact ih9 (o + 1) _ _ _ (by omega) (by omega) hP hD hS (lv_sub hl [0, 1, 2] rfl)
  exact L9 _ 0 _ _ _ (Nat.lt_succ_self _) (by omega) hP hD hS (lv_sub hl [0, 1, 2] rfl)
