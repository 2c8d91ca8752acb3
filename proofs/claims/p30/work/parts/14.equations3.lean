/-! Equations: the value of an unknown, a step of the elimination, the elimination -/
theorem L_divg {x : Int64} {g : Nat} (hg : (g : Int) ∣ x.toInt) (h0 : 0 < g) (hb : g < 9223372036854775808) : (x / lN g).toInt = x.toInt / (g : Int) := by
  rw [Int64.toInt_div_of_ne_right _ _ (fun q => by
    have h1 := congrArg Int64.toInt q
    rw [lN_toI hb] at h1
    have h2 : (-1 : Int64).toInt = -1 := by decide
    omega), lN_toI hb, Int.tdiv_eq_ediv_of_dvd hg]
theorem dvd_natAbs {g : Nat} {z : Int} (h : g ∣ z.natAbs) : (g : Int) ∣ z := Int.ofNat_dvd_left.mpr h
theorem ediv_abs {z : Int} {g : Nat} (h : (g : Int) ∣ z) : (z / (g : Int)).natAbs ≤ z.natAbs := by
  obtain ⟨k, rfl⟩ := h
  rcases Nat.eq_zero_or_pos g with q | q
  · subst q; simp
  · rw [Int.mul_ediv_cancel_left _ (by omega), Int.natAbs_mul]
    exact Nat.le_mul_of_pos_left _ (by omega)
theorem gcd_bound {a b N : Nat} (ha : a ≤ N) (hb : b ≤ N) : Nat.gcd a b ≤ N := by
  rcases Nat.eq_zero_or_pos a with q | q
  · subst q; rw [Nat.gcd_zero_left]; exact hb
  · exact Nat.le_trans (Nat.gcd_le_left b q) ha
theorem bI_01 (P : Prop) : bI P = nI 0 ∨ bI P = nI 1 := by
  by_cases h : P
  · exact Or.inr (bI_t h).symm
  · exact Or.inl (bI_f h).symm
theorem bI_iff {P Q : Prop} (h : P ↔ Q) : bI P = bI Q := by rw [propext h]
/-- the numbers that a step of the elimination makes of a row -/
def eE (M : Nat → Nat → Int64) (i k t : Nat) : Nat → Int := fun b => (M i b).toInt * (M k t).toInt - (M k b).toInt * (M i t).toInt
theorem elim_fin {M u : Nat → Nat → Int64} {i k t G : Nat} (ht : t < 11) (hG : 0 < G) (h : ∀ b, b < 11 → (G : Int) * (u i b).toInt = eE M i k t b) (hg : gU (tI u i) 11 ≤ 1) : Elim (tI M i) (tI M k) (tI u i) t := by
  refine ⟨(G : Int), by omega, fun j => ?_, hg⟩
  by_cases hj : j < 11
  · rw [tI_at hj, tI_at hj, tI_at hj, tI_at ht, tI_at ht]
    exact h j hj
  · rw [tI_out hj, tI_out hj, tI_out hj]
    simp
theorem elim_one {M u : Nat → Nat → Int64} {i k t : Nat} (ht : t < 11) (h : ∀ b, b < 11 → (u i b).toInt = eE M i k t b) (hg : gU (eE M i k t) 11 ≤ 1) : Elim (tI M i) (tI M k) (tI u i) t :=
  elim_fin (G := 1) ht (by decide) (fun b hb => by rw [h b hb]; simp) (by
    rw [gU_congr (f := eE M i k t) (fun j hj => by rw [tI_at hj]; exact h j hj)]
    exact hg)
theorem elim_more {M u : Nat → Nat → Int64} {i k t G : Nat} (ht : t < 11) (hG : gU (eE M i k t) 11 = G) (h0 : 0 < G) (h : ∀ b, b < 11 → (G : Int) * (u i b).toInt = eE M i k t b) : Elim (tI M i) (tI M k) (tI u i) t :=
  elim_fin ht h0 h (by
    have e1 : gU (fun j => (G : Int) * tI u i j) 11 = G := by
      rw [gU_congr (f := eE M i k t) (fun j hj => by rw [tI_at hj]; exact h j hj)]
      exact hG
    rw [gU_mul] at e1
    have e2 : (G : Int).natAbs = G := by omega
    rw [e2] at e1
    have e3 : G * gU (tI u i) 11 = G * 1 := by rw [Nat.mul_one]; exact e1
    exact Nat.le_of_eq (Nat.eq_of_mul_eq_mul_left h0 e3))
set_option maxHeartbeats 4000000 in
set_option maxRecDepth 100000 in
theorem c_X1_valuePart (l : Launch) (D : va_G) (K : Nat → ClassId) (a ao ap ab : Nat) (r : Nat → Nat) (M : Nat → Nat → Int64) (pv ip : Nat → Int32) (sv : Int32) (k t pt : Nat) (sz : Nat) (ht : t < 10) (hk : k < 10) (hpt : pt ≤ 1) (hpv : pv t = nI k) (hne : (M k t).toInt ≠ 0) (hb1 : (M k t).toInt.natAbs ≤ BB) (hb2 : (M k 10).toInt.natAbs ≤ BB) : Met l yX1_valuePart (.code yX1_valuePart cX1_valuePart 12 (some .long) :: TB) ({ frames := 1, cells := 0, slots := 0, locals := 30 } : Room) (va_Pc [.ref a, .int (nI t), .int (nI pt)] (cP D K (WE K a ao ap ab r M pv ip sv) sz)) (va_Ql (fun (q : Int64) (_ : Unit) => q.toInt = if pt = 0 then Lnum (M k 10).toInt (M k t).toInt else Lden (M k 10).toInt (M k t).toInt) (fun _ _ => True) (fun _ => False)) 0 0 (fun _ => False) := by
  refine Met.ofW (cc := cX1_valuePart) (maxL := 12) (ret := (some .long)) (by decide) rfl ?_
  intro p e s m args below meth c s₁ B hml hv
  obtain ⟨rfl, hsz, hP, hK, hD0⟩ := hv
  have hx := B.exec
  have hb := B.bytes
  have hr := B.returns
  have hts := hts_tl (atoms_spec (ws := (.code yX1_valuePart cX1_valuePart 12 (some .long) :: TB)) B.pre)
  have hown : s.vm.findClass RX1 = some m.cls := findClass_of_methodNamed B.named
  have hlocks := B.notSynchronized
  subst hsz
  have hA : ∀ q : Nat, q < s.heap.size → (fun _ : Nat => False) q → False := fun _ _ h => h
  have hS : va_S (fun _ => False) s.heap s.heap [] := va_S.rf
  have hl := lv_entry ([.ref a, .int (nI t), .int (nI pt)]) (n := 12) (Nat.le_of_ble_eq_true rfl)
  rw [lg_entry_eq]
  generalize (lg_sl ([.ref a, .int (nI t), .int (nI pt)]) ++ List.replicate (12 - (lg_sl ([.ref a, .int (nI t), .int (nI pt)])).length) Slot.unset).toArray = ls at hl ⊢
  have hl : lv_has ls 12 [(0, .ref a), (1, .int (nI t)), (2, .int (nI pt))] := hl
  refine lv_iload_n hx hb dX1_valuePart_0 rfl (lv_at hl 1 rfl) ?_
  refine b_if_lt hx hb (nI_toIntI (by omega)) dX1_valuePart_1 (tgt := 10) (by decide) (fun c1 => absurd c1 (by omega)) (fun c1 => ?_)
  refine lv_iload_n hx hb dX1_valuePart_4 rfl (lv_at hl 1 rfl) ?_
  refine lv_bipush (v := nI 10) hx hb dX1_valuePart_5 (by decide) ?_
  refine b_icmp_lt hx hb (nI_toIntI (by omega)) (nI_toIntI (by omega)) dX1_valuePart_7 (tgt := 12) (by decide) (fun c7 => ?_) (fun c7 => absurd c7 (by omega))
  refine lv_aload_n hx hb dX1_valuePart_12 rfl (lv_at hl 0 rfl) ?_
  refine va_get (D := D) (ci := 1) (C := RX1) (T := TX1) (N := 4) hx hb hts iX1 hown hK hP 0 rfl rfl 1 (by decide) (hts _ k_f_X1_16) (fun _ h9 => h9) rfl dX1_valuePart_13 ?_
  refine lv_iload_n hx hb dX1_valuePart_16 rfl (lv_at hl 1 rfl) ?_
  refine n_iald hx hb hK hP 2 0 rfl rfl (i := t) (by omega) (by decide) dX1_valuePart_17 ?_
  refine lv_istore_n (lv' := [(3, .int (pv t)), (0, .ref a), (1, .int (nI t)), (2, .int (nI pt))]) hx hb dX1_valuePart_18 rfl hl (by decide) rfl (fun ls hl => ?_)
  rw [hpv] at hl
  refine lv_iload_n hx hb dX1_valuePart_19 rfl (lv_at hl 0 rfl) ?_
  refine b_if_lt hx hb (nI_toIntI (by omega)) dX1_valuePart_20 (tgt := 29) (by decide) (fun c20 => absurd c20 (by omega)) (fun c20 => ?_)
  refine lv_iload_n hx hb dX1_valuePart_23 rfl (lv_at hl 0 rfl) ?_
  refine lv_bipush (v := nI 10) hx hb dX1_valuePart_24 (by decide) ?_
  refine b_icmp_lt hx hb (nI_toIntI (by omega)) (nI_toIntI (by omega)) dX1_valuePart_26 (tgt := 31) (by decide) (fun c26 => ?_) (fun c26 => absurd c26 (by omega))
  refine lv_aload_n hx hb dX1_valuePart_31 rfl (lv_at hl 1 rfl) ?_
  refine va_get (D := D) (ci := 1) (C := RX1) (T := TX1) (N := 4) hx hb hts iX1 hown hK hP 0 rfl rfl 0 (by decide) (hts _ k_f_X1_13) (fun _ h9 => h9) rfl dX1_valuePart_32 ?_
  refine lv_iload_n hx hb dX1_valuePart_35 rfl (lv_at hl 0 rfl) ?_
  refine n_aald hx hb hK hP 1 3 rfl rfl (i := k) (by omega) (by decide) (if_pos (by omega)) dX1_valuePart_36 ?_
  refine lv_iload_n hx hb dX1_valuePart_37 rfl (lv_at hl 2 rfl) ?_
  refine n_lald hx hb hK hP (4 + k) 1 (WE_at (by omega)) rfl (i := t) (by omega) (by decide) dX1_valuePart_38 ?_
  refine lv_lstore (lv' := [(4, .long (M k t)), (3, .int (nI k)), (0, .ref a), (1, .int (nI t)), (2, .int (nI pt))]) hx hb dX1_valuePart_39 hl (by decide) rfl (fun ls hl => ?_)
  refine lv_aload_n hx hb dX1_valuePart_41 rfl (lv_at hl 2 rfl) ?_
  refine va_get (D := D) (ci := 1) (C := RX1) (T := TX1) (N := 4) hx hb hts iX1 hown hK hP 0 rfl rfl 0 (by decide) (hts _ k_f_X1_13) (fun _ h9 => h9) rfl dX1_valuePart_42 ?_
  refine lv_iload_n hx hb dX1_valuePart_45 rfl (lv_at hl 1 rfl) ?_
  refine n_aald hx hb hK hP 1 3 rfl rfl (i := k) (by omega) (by decide) (if_pos (by omega)) dX1_valuePart_46 ?_
  refine lv_bipush (v := nI 10) hx hb dX1_valuePart_47 (by decide) ?_
  refine n_lald hx hb hK hP (4 + k) 1 (WE_at (by omega)) rfl (i := 10) (by omega) (by decide) dX1_valuePart_49 ?_
  refine lv_lstore (lv' := [(6, .long (M k 10)), (4, .long (M k t)), (3, .int (nI k)), (0, .ref a), (1, .int (nI t)), (2, .int (nI pt))]) hx hb dX1_valuePart_50 hl (by decide) rfl (fun ls hl => ?_)
  refine lv_lload hx hb dX1_valuePart_52 (lv_at hl 1 rfl) ?_
  refine lv_lload hx hb dX1_valuePart_54 (lv_at hl 0 rfl) ?_
  have hBB : BB = 351232000 := rfl
  refine va_calll (va_runS (As := [.long (M k t), .long (M k 10)]) (rest := []) ⟨hx, hb, hml, hown, hts⟩ (c_X1_commonFactor l (M k t) (M k 10) (by omega) (by omega)) (va_cwS 2 hts (TB_S k_m_X1_40 k_st_X1_commonFactor k_in_X1 k_co_X1_commonFactor (fun _ h => h)) rfl rfl rfl (by decide +kernel) ⟨Nat.le_of_ble_eq_true rfl, Nat.le_of_ble_eq_true rfl⟩) ⟨tP_blind, tP_of⟩ rfl rfl hl.1 rfl (lv_room (Nat.le_of_ble_eq_true rfl)) dX1_valuePart_56 ⟨Nat.le_of_ble_eq_true rfl, Nat.le_of_ble_eq_true rfl⟩) hS (fun q _ h => absurd h id) (fun q h => absurd h id) (fun g u9 t9 H locs ht9 hvm hw hB hz1 hk1 hS => ?_)
  have hP := P_same hP hk1
  subst hw
  have hg0 : 0 < Nat.gcd (M k t).toInt.natAbs (M k 10).toInt.natAbs := Nat.gcd_pos_of_pos_left _ (Int.natAbs_pos.mpr hne)
  have hgb : Nat.gcd (M k t).toInt.natAbs (M k 10).toInt.natAbs ≤ BB := gcd_bound hb1 hb2
  have hd1 : ((Nat.gcd (M k t).toInt.natAbs (M k 10).toInt.natAbs : Nat) : Int) ∣ (M k t).toInt := dvd_natAbs (Nat.gcd_dvd_left _ _)
  have hd2 : ((Nat.gcd (M k t).toInt.natAbs (M k 10).toInt.natAbs : Nat) : Int) ∣ (M k 10).toInt := dvd_natAbs (Nat.gcd_dvd_right _ _)
  have hq1 := ediv_abs hd1
  have hq2 := ediv_abs hd2
  generalize hG : Nat.gcd (M k t).toInt.natAbs (M k 10).toInt.natAbs = G at hg0 hgb hd1 hd2 hq1 hq2 ⊢
  refine lv_lstore (lv' := [(8, .long (lN G)), (6, .long (M k 10)), (4, .long (M k t)), (3, .int (nI k)), (0, .ref a), (1, .int (nI t)), (2, .int (nI pt))]) hx hb dX1_valuePart_59 hl (by decide) rfl (fun ls hl => ?_)
  refine lv_lload hx hb dX1_valuePart_61 (lv_at hl 0 rfl) ?_
  refine lv_lconst (v := 0) hx hb dX1_valuePart_63 (by decide) ?_
  refine b_lcmp_ne hx hb rfl (show (0 : Int64).toInt = 0 by decide) dX1_valuePart_64 dX1_valuePart_65 (tgt := 70) (by decide) (fun c64 => ?_) (fun c64 => absurd c64 (by rw [lN_toI (by omega)]; omega))
  refine lv_iload_n hx hb dX1_valuePart_70 rfl (lv_at hl 6 rfl) ?_
  refine b_if_ne hx hb (nI_toIntI (by omega)) dX1_valuePart_71 (tgt := 79) (by decide) (fun c71 => ?_) (fun c71 => ?_)
  · refine lv_lload hx hb dX1_valuePart_79 (lv_at hl 2 rfl) ?_
    refine lv_lload hx hb dX1_valuePart_81 (lv_at hl 0 rfl) ?_
    refine lv_ldiv hx hb dX1_valuePart_83 (fun q => absurd (congrArg Int64.toInt q) (by rw [lN_toI (by omega), show (0 : Int64).toInt = 0 by decide]; omega)) ?_
    refine lv_lstore (lv' := [(10, .long ((M k t) / (lN G))), (8, .long (lN G)), (6, .long (M k 10)), (4, .long (M k t)), (3, .int (nI k)), (0, .ref a), (1, .int (nI t)), (2, .int (nI pt))]) hx hb dX1_valuePart_84 hl (by decide) rfl (fun ls hl => ?_)
    refine lv_lload hx hb dX1_valuePart_86 (lv_at hl 3 rfl) ?_
    refine lv_lconst (v := 0) hx hb dX1_valuePart_88 (by decide) ?_
    refine b_lcmp_ge hx hb rfl (show (0 : Int64).toInt = 0 by decide) dX1_valuePart_89 dX1_valuePart_90 (tgt := 99) (by decide) (fun c89 => ?_) (fun c89 => ?_)
    · refine lv_lload hx hb dX1_valuePart_99 (lv_at hl 0 rfl) ?_
      exact W.lret (v := (M k t) / (lN G)) hx hb hr (fun t9 ht9 hW => ⟨⟨(M k t) / (lN G), (), rfl, by show _ = _; rw [if_neg (show ¬ pt = 0 by omega)]; unfold Lden; rw [hG, if_neg (show ¬ (M k t).toInt < 0 by omega), L_divg hd1 hg0 (by omega)], trivial⟩, hS.F ht9⟩) hS.2.2 dX1_valuePart_101
    refine lv_lload hx hb dX1_valuePart_93 (lv_at hl 0 rfl) ?_
    refine lv_lneg hx hb dX1_valuePart_95 ?_
    refine lv_goto (tgt := 101) hx hb dX1_valuePart_96 (by decide) ?_
    exact W.lret (v := -((M k t) / (lN G))) hx hb hr (fun t9 ht9 hW => ⟨⟨-((M k t) / (lN G)), (), rfl, by show _ = _; rw [if_neg (show ¬ pt = 0 by omega)]; unfold Lden; rw [hG, if_pos (show (M k t).toInt < 0 from c89), L_neg (by rw [L_divg hd1 hg0 (by omega)]; omega), L_divg hd1 hg0 (by omega)], trivial⟩, hS.F ht9⟩) hS.2.2 dX1_valuePart_101
  refine lv_lload hx hb dX1_valuePart_74 (lv_at hl 1 rfl) ?_
  refine lv_goto (tgt := 81) hx hb dX1_valuePart_76 (by decide) ?_
  refine lv_lload hx hb dX1_valuePart_81 (lv_at hl 0 rfl) ?_
  refine lv_ldiv hx hb dX1_valuePart_83 (fun q => absurd (congrArg Int64.toInt q) (by rw [lN_toI (by omega), show (0 : Int64).toInt = 0 by decide]; omega)) ?_
  refine lv_lstore (lv' := [(10, .long ((M k 10) / (lN G))), (8, .long (lN G)), (6, .long (M k 10)), (4, .long (M k t)), (3, .int (nI k)), (0, .ref a), (1, .int (nI t)), (2, .int (nI pt))]) hx hb dX1_valuePart_84 hl (by decide) rfl (fun ls hl => ?_)
  refine lv_lload hx hb dX1_valuePart_86 (lv_at hl 3 rfl) ?_
  refine lv_lconst (v := 0) hx hb dX1_valuePart_88 (by decide) ?_
  refine b_lcmp_ge hx hb rfl (show (0 : Int64).toInt = 0 by decide) dX1_valuePart_89 dX1_valuePart_90 (tgt := 99) (by decide) (fun c89 => ?_) (fun c89 => ?_)
  · refine lv_lload hx hb dX1_valuePart_99 (lv_at hl 0 rfl) ?_
    exact W.lret (v := (M k 10) / (lN G)) hx hb hr (fun t9 ht9 hW => ⟨⟨(M k 10) / (lN G), (), rfl, by show _ = _; rw [if_pos (show pt = 0 by omega)]; unfold Lnum; rw [hG, if_neg (show ¬ (M k t).toInt < 0 by omega), L_divg hd2 hg0 (by omega)], trivial⟩, hS.F ht9⟩) hS.2.2 dX1_valuePart_101
  refine lv_lload hx hb dX1_valuePart_93 (lv_at hl 0 rfl) ?_
  refine lv_lneg hx hb dX1_valuePart_95 ?_
  refine lv_goto (tgt := 101) hx hb dX1_valuePart_96 (by decide) ?_
  exact W.lret (v := -((M k 10) / (lN G))) hx hb hr (fun t9 ht9 hW => ⟨⟨-((M k 10) / (lN G)), (), rfl, by show _ = _; rw [if_pos (show pt = 0 by omega)]; unfold Lnum; rw [hG, if_pos (show (M k t).toInt < 0 from c89), L_neg (by rw [L_divg hd2 hg0 (by omega)]; omega), L_divg hd2 hg0 (by omega)], trivial⟩, hS.F ht9⟩) hS.2.2 dX1_valuePart_101
set_option maxHeartbeats 4000000 in
set_option maxRecDepth 100000 in
theorem c_X1_eliminate (l : Launch) (D : va_G) (K : Nat → ClassId) (a ao ap ab : Nat) (r : Nat → Nat) (M : Nat → Nat → Int64) (pv ip : Nat → Int32) (sv : Int32) (i k t : Nat) (sz : Nat) (hi : i < 10) (hk : k < 10) (ht : t < 10) (hik : i ≠ k) (hb1 : ∀ x, x < 11 → (M i x).toInt.natAbs ≤ BB) (hb2 : ∀ x, x < 11 → (M k x).toInt.natAbs ≤ BB) : Met l yX1_eliminate (.code yX1_eliminate cX1_eliminate 11 none :: TB) ({ frames := 1, cells := 0, slots := 0, locals := 30 } : Room) (va_Pc [.ref a, .int (nI i), .int (nI k), .int (nI t)] (cP D K (WE K a ao ap ab r M pv ip sv) sz)) (va_Qv (fun (u : Nat → Nat → Int64) => (∀ x, x ≠ i → u x = M x) ∧ Elim (tI M i) (tI M k) (tI u i) t) (fun (u : Nat → Nat → Int64) t => cB D K (va_A (WE K a ao ap ab r M pv ip sv) sz) (WE K a ao ap ab r u pv ip sv) t) (va_A (WE K a ao ap ab r M pv ip sv) sz)) 0 0 (va_A (WE K a ao ap ab r M pv ip sv) sz) := by
  refine Met.ofW (cc := cX1_eliminate) (maxL := 11) (ret := none) (by decide) rfl ?_
  intro p e s m args below meth c s₁ B hml hv
  obtain ⟨rfl, hsz, hP, hK, hD0⟩ := hv
  have hx := B.exec
  have hb := B.bytes
  have hr := B.returns
  have hts := hts_tl (atoms_spec (ws := (.code yX1_eliminate cX1_eliminate 11 none :: TB)) B.pre)
  have hown : s.vm.findClass RX1 = some m.cls := findClass_of_methodNamed B.named
  have hlocks := B.notSynchronized
  subst hsz
  have hD := hD0.self (sz := s.heap.size)
  generalize hAe : (va_A (WE K a ao ap ab r M pv ip sv) s.heap.size) = A at hD ⊢
  have hA : ∀ q : Nat, s.heap.size ≤ q → A q := fun q h => by rw [← hAe]; exact Or.inr h
  have hS : va_S A s.heap s.heap [] := va_S.rf
  have hl := lv_entry ([.ref a, .int (nI i), .int (nI k), .int (nI t)]) (n := 11) (Nat.le_of_ble_eq_true rfl)
  rw [lg_entry_eq]
  generalize (lg_sl ([.ref a, .int (nI i), .int (nI k), .int (nI t)]) ++ List.replicate (11 - (lg_sl ([.ref a, .int (nI i), .int (nI k), .int (nI t)])).length) Slot.unset).toArray = ls at hl ⊢
  have hl : lv_has ls 11 [(0, .ref a), (1, .int (nI i)), (2, .int (nI k)), (3, .int (nI t))] := hl
  have hBB : BB = 351232000 := rfl
  have hB2 : BB * BB = 123363917824000000 := by decide
  refine lv_aload_n hx hb dX1_eliminate_0 rfl (lv_at hl 0 rfl) ?_
  refine va_get (D := D) (ci := 1) (C := RX1) (T := TX1) (N := 4) hx hb hts iX1 hown hK hP 0 rfl rfl 0 (by decide) (hts _ k_f_X1_13) (fun _ h9 => h9) rfl dX1_eliminate_1 ?_
  refine lv_iload_n hx hb dX1_eliminate_4 rfl (lv_at hl 1 rfl) ?_
  refine n_aald hx hb hK hP 1 3 rfl rfl (i := i) (by omega) (by decide) (if_pos (by omega)) dX1_eliminate_5 ?_
  refine lv_iload_n hx hb dX1_eliminate_6 rfl (lv_at hl 3 rfl) ?_
  refine n_lald hx hb hK hP (4 + i) 1 (WE_at (by omega)) rfl (i := t) (by omega) (by decide) dX1_eliminate_7 ?_
  refine lv_lstore (lv' := [(4, .long (M i t)), (0, .ref a), (1, .int (nI i)), (2, .int (nI k)), (3, .int (nI t))]) hx hb dX1_eliminate_8 hl (by decide) rfl (fun ls hl => ?_)
  refine lv_aload_n hx hb dX1_eliminate_10 rfl (lv_at hl 1 rfl) ?_
  refine va_get (D := D) (ci := 1) (C := RX1) (T := TX1) (N := 4) hx hb hts iX1 hown hK hP 0 rfl rfl 0 (by decide) (hts _ k_f_X1_13) (fun _ h9 => h9) rfl dX1_eliminate_11 ?_
  refine lv_iload_n hx hb dX1_eliminate_14 rfl (lv_at hl 3 rfl) ?_
  refine n_aald hx hb hK hP 1 3 rfl rfl (i := k) (by omega) (by decide) (if_pos (by omega)) dX1_eliminate_15 ?_
  refine lv_iload_n hx hb dX1_eliminate_16 rfl (lv_at hl 4 rfl) ?_
  refine n_lald hx hb hK hP (4 + k) 1 (WE_at (by omega)) rfl (i := t) (by omega) (by decide) dX1_eliminate_17 ?_
  refine lv_lstore (lv' := [(6, .long (M k t)), (4, .long (M i t)), (0, .ref a), (1, .int (nI i)), (2, .int (nI k)), (3, .int (nI t))]) hx hb dX1_eliminate_18 hl (by decide) rfl (fun ls hl => ?_)
  refine lv_lconst (v := 0) hx hb dX1_eliminate_20 (by decide) ?_
  refine t_l (show (0 : Int64) = lN 0 by decide) ?_
  refine lv_lstore (lv' := [(8, .long (lN (gU (eE M i k t) 0))), (6, .long (M k t)), (4, .long (M i t)), (0, .ref a), (1, .int (nI i)), (2, .int (nI k)), (3, .int (nI t))]) hx hb dX1_eliminate_21 hl (by decide) rfl (fun ls hl => ?_)
  refine lv_iconst (v := nI 0) hx hb dX1_eliminate_23 (by decide) ?_
  refine lv_istore (lv' := [(10, .int (nI 0)), (8, .long (lN (gU (eE M i k t) 0))), (6, .long (M k t)), (4, .long (M i t)), (0, .ref a), (1, .int (nI i)), (2, .int (nI k)), (3, .int (nI t))]) hx hb dX1_eliminate_24 hl (by decide) rfl (fun ls hl => ?_)
  have L26 : ∀ (fuel : Nat) (j : Nat) (M' : Nat → Nat → Int64) (H : Heap) (locs : List Loc) (ls : Array Slot), 11 - j < fuel → (j ≤ 11) → (∀ x, x ≠ i → M' x = M x) → (∀ b, b < j → (M' i b).toInt = eE M i k t b) → (∀ b, j ≤ b → M' i b = M i b) → (gU (eE M i k t) j ≤ 2 * (BB * BB)) → va_P D vwCl (WE K a ao ap ab r M' pv ip sv) H → va_D A (WE K a ao ap ab r M' pv ip sv) → va_S A s.heap H locs → lv_has ls 11 [(10, .int (nI j)), (8, .long (lN (gU (eE M i k t) j))), (6, .long (M k t)), (4, .long (M i t)), (0, .ref a), (1, .int (nI i)), (2, .int (nI k)), (3, .int (nI t))] → W p l e ({ frames := 1, cells := 0, slots := 0, locals := 30 } : Room) s m [.ref a, .int (nI i), .int (nI k), .int (nI t)].toArray below meth c H locs 0 0 (MQ below (va_Qv (fun (u : Nat → Nat → Int64) => (∀ x, x ≠ i → u x = M x) ∧ Elim (tI M i) (tI M k) (tI u i) t) (fun (u : Nat → Nat → Int64) t => cB D K A (WE K a ao ap ab r u pv ip sv) t) A) [.ref a, .int (nI i), .int (nI k), .int (nI t)].toArray s 0 0 A) (F0 m 26 ls []) := by
    intro fuel
    induction fuel with
    | zero =>
      intro j M' H locs ls hfu
      exact absurd hfu (Nat.not_lt_zero _)
    | succ fuel ih26 =>
      intro j M' H locs ls hfu hj hoth hlo hhi hgb hP hD hS hl
      refine lv_iload hx hb dX1_eliminate_26 (lv_at hl 0 rfl) ?_
      refine lv_bipush (v := nI 11) hx hb dX1_eliminate_28 (by decide) ?_
      refine b_icmp_ge hx hb (nI_toIntI (by omega)) (nI_toIntI (by omega)) dX1_eliminate_30 (tgt := 89) (by decide) (fun c30 => ?_) (fun c30 => ?_)
      · obtain rfl : j = 11 := by omega
        have hG9 : gU (eE M i k t) 11 = gU (eE M i k t) 11 := rfl
        generalize hGe : gU (eE M i k t) 11 = G at hl hgb
        refine lv_lload hx hb dX1_eliminate_89 (lv_at hl 1 rfl) ?_
        refine lv_lconst (v := 1) hx hb dX1_eliminate_91 (by decide) ?_
        refine b_lcmp_le hx hb rfl (show (1 : Int64).toInt = 1 by decide) dX1_eliminate_92 dX1_eliminate_93 (tgt := 126) (by decide) (fun c92 => ?_) (fun c92 => ?_)
        · exact W.vret hx hb hr (fun t9 ht9 hW => ⟨⟨M', rfl, ⟨hoth, elim_one (by omega) hlo (by rw [hGe]; have c92 : (lN G).toInt ≤ (1 : Int) := c92; rw [lN_toI (by omega)] at c92; omega)⟩, by rw [ht9]; exact hP, va_K.moved hW.alike hK, hD⟩, hS.F ht9⟩) hS.2.2 dX1_eliminate_126
        refine lv_iconst (v := nI 0) hx hb dX1_eliminate_96 (by decide) ?_
        refine lv_istore (lv' := [(10, .int (nI 0)), (8, .long (lN G)), (6, .long (M k t)), (4, .long (M i t)), (0, .ref a), (1, .int (nI i)), (2, .int (nI k)), (3, .int (nI t))]) hx hb dX1_eliminate_97 hl (by decide) rfl (fun ls hl => ?_)
        have hG1 : 1 < G := by
          have c92 : (1 : Int) < (lN G).toInt := c92
          rw [lN_toI (by omega)] at c92; omega
        have L99 : ∀ (fuel : Nat) (z : Nat) (M2 : Nat → Nat → Int64) (H : Heap) (locs : List Loc) (ls : Array Slot), 11 - z < fuel → (z ≤ 11) → (∀ x, x ≠ i → M2 x = M x) → (∀ b, b < z → (G : Int) * (M2 i b).toInt = eE M i k t b) → (∀ b, z ≤ b → b < 11 → (M2 i b).toInt = eE M i k t b) → va_P D vwCl (WE K a ao ap ab r M2 pv ip sv) H → va_D A (WE K a ao ap ab r M2 pv ip sv) → va_S A s.heap H locs → lv_has ls 11 [(10, .int (nI z)), (8, .long (lN G)), (6, .long (M k t)), (4, .long (M i t)), (0, .ref a), (1, .int (nI i)), (2, .int (nI k)), (3, .int (nI t))] → W p l e ({ frames := 1, cells := 0, slots := 0, locals := 30 } : Room) s m [.ref a, .int (nI i), .int (nI k), .int (nI t)].toArray below meth c H locs 0 0 (MQ below (va_Qv (fun (u : Nat → Nat → Int64) => (∀ x, x ≠ i → u x = M x) ∧ Elim (tI M i) (tI M k) (tI u i) t) (fun (u : Nat → Nat → Int64) t => cB D K A (WE K a ao ap ab r u pv ip sv) t) A) [.ref a, .int (nI i), .int (nI k), .int (nI t)].toArray s 0 0 A) (F0 m 99 ls []) := by
          intro fuel
          induction fuel with
          | zero =>
            intro z M2 H locs ls hfu
            exact absurd hfu (Nat.not_lt_zero _)
          | succ fuel ih99 =>
            intro z M2 H locs ls hfu hz hoth9 hdone hmid hP hD hS hl
            refine lv_iload hx hb dX1_eliminate_99 (lv_at hl 0 rfl) ?_
            refine lv_bipush (v := nI 11) hx hb dX1_eliminate_101 (by decide) ?_
            refine b_icmp_ge hx hb (nI_toIntI (by omega)) (nI_toIntI (by omega)) dX1_eliminate_103 (tgt := 126) (by decide) (fun c103 => ?_) (fun c103 => ?_)
            · exact W.vret hx hb hr (fun t9 ht9 hW => ⟨⟨M2, rfl, ⟨hoth9, elim_more (by omega) hGe (by omega) (fun b hb9 => hdone b (by omega))⟩, by rw [ht9]; exact hP, va_K.moved hW.alike hK, hD⟩, hS.F ht9⟩) hS.2.2 dX1_eliminate_126
            refine lv_aload_n hx hb dX1_eliminate_106 rfl (lv_at hl 4 rfl) ?_
            refine va_get (D := D) (ci := 1) (C := RX1) (T := TX1) (N := 4) hx hb hts iX1 hown hK hP 0 rfl rfl 0 (by decide) (hts _ k_f_X1_13) (fun _ h9 => h9) rfl dX1_eliminate_107 ?_
            refine lv_iload_n hx hb dX1_eliminate_110 rfl (lv_at hl 5 rfl) ?_
            refine n_aald hx hb hK hP 1 3 rfl rfl (i := i) (by omega) (by decide) (if_pos (by omega)) dX1_eliminate_111 ?_
            refine lv_iload hx hb dX1_eliminate_112 (lv_at hl 0 rfl) ?_
            refine lv_dup2_11 hx hb dX1_eliminate_114 rfl rfl ?_
            refine n_lald hx hb hK hP (4 + i) 1 (WE_at (by omega)) rfl (i := z) (by omega) (by decide) dX1_eliminate_115 ?_
            refine lv_lload hx hb dX1_eliminate_116 (lv_at hl 1 rfl) ?_
            refine lv_ldiv hx hb dX1_eliminate_118 (fun q => absurd (congrArg Int64.toInt q) (by rw [lN_toI (by omega), show (0 : Int64).toInt = 0 by decide]; omega)) ?_
            have hdv : ((G : Nat) : Int) ∣ eE M i k t z := dvd_natAbs (by rw [← hGe]; exact gU_dvd (by omega))
            have hz9 := hmid z (Nat.le_refl _) (by omega)
            have hq9 : (M2 i z / lN G).toInt = eE M i k t z / (G : Int) := by rw [L_divg (by rw [hz9]; exact hdv) (by omega) (by omega), hz9]
            refine n_last hx hb hK hP hD hS (4 + i) 1 (WE_at (by omega)) rfl (i := z) (by omega) (by decide) dX1_eliminate_119 (fun H locs hP hD hS => ?_)
            rw [WE_set (by omega)] at hP hD
            have hP : va_P D vwCl (WE K a ao ap ab r (setM M2 i z ((M2 i z) / (lN G))) pv ip sv) H := hP
            have hD : va_D A (WE K a ao ap ab r (setM M2 i z ((M2 i z) / (lN G))) pv ip sv) := hD
            refine lv_iinc (v := nI (z + 1)) (lv' := [(10, .int (nI (z + 1))), (8, .long (lN G)), (6, .long (M k t)), (4, .long (M i t)), (0, .ref a), (1, .int (nI i)), (2, .int (nI k)), (3, .int (nI t))]) hx hb dX1_eliminate_120 hl (k := 0) rfl (nI_add z 1) (by decide) rfl (fun ls hl => ?_)
            refine lv_goto (tgt := 99) hx hb dX1_eliminate_123 (by decide) ?_
            have hoth2 : ∀ x, x ≠ i → (setM M2 i z ((M2 i z) / (lN G))) x = M x := fun x hx9 => by rw [setM_row hx9]; exact hoth9 x hx9
            have hlo2 : ∀ b, b < z + 1 → (G : Int) * ((setM M2 i z ((M2 i z) / (lN G))) i b).toInt = eE M i k t b := fun b hb9 => by
              by_cases q : b = z
              · subst q; rw [setM_same, hq9]; exact Int.mul_ediv_cancel' hdv
              · rw [setM_col q]; exact hdone b (by omega)
            have hmid2 : ∀ b, z + 1 ≤ b → b < 11 → ((setM M2 i z ((M2 i z) / (lN G))) i b).toInt = eE M i k t b := fun b hb9 hb8 => by rw [setM_col (by omega)]; exact hmid b (by omega) hb8
            exact ih99 (z + 1) (setM M2 i z ((M2 i z) / (lN G))) _ _ _ (by omega) (by omega) hoth2 hlo2 hmid2 hP hD hS (lv_sub hl [0, 1, 2, 3, 4, 5, 6, 7] rfl)
        exact L99 _ 0 M' _ _ _ (Nat.lt_succ_self _) (by omega) hoth (fun b hb9 => absurd hb9 (Nat.not_lt_zero _)) (fun b _ hb9 => hlo b hb9) hP hD hS (lv_sub hl [0, 1, 2, 3, 4, 5, 6, 7] rfl)
      refine lv_aload_n hx hb dX1_eliminate_33 rfl (lv_at hl 4 rfl) ?_
      refine va_get (D := D) (ci := 1) (C := RX1) (T := TX1) (N := 4) hx hb hts iX1 hown hK hP 0 rfl rfl 0 (by decide) (hts _ k_f_X1_13) (fun _ h9 => h9) rfl dX1_eliminate_34 ?_
      refine lv_iload_n hx hb dX1_eliminate_37 rfl (lv_at hl 5 rfl) ?_
      refine n_aald hx hb hK hP 1 3 rfl rfl (i := i) (by omega) (by decide) (if_pos (by omega)) dX1_eliminate_38 ?_
      refine lv_iload hx hb dX1_eliminate_39 (lv_at hl 0 rfl) ?_
      refine lv_aload_n hx hb dX1_eliminate_41 rfl (lv_at hl 4 rfl) ?_
      refine va_get (D := D) (ci := 1) (C := RX1) (T := TX1) (N := 4) hx hb hts iX1 hown hK hP 0 rfl rfl 0 (by decide) (hts _ k_f_X1_13) (fun _ h9 => h9) rfl dX1_eliminate_42 ?_
      refine lv_iload_n hx hb dX1_eliminate_45 rfl (lv_at hl 5 rfl) ?_
      refine n_aald hx hb hK hP 1 3 rfl rfl (i := i) (by omega) (by decide) (if_pos (by omega)) dX1_eliminate_46 ?_
      refine lv_iload hx hb dX1_eliminate_47 (lv_at hl 0 rfl) ?_
      refine n_lald hx hb hK hP (4 + i) 1 (WE_at (by omega)) rfl (i := j) (by omega) (by decide) dX1_eliminate_49 ?_
      refine lv_lload hx hb dX1_eliminate_50 (lv_at hl 2 rfl) ?_
      refine lv_lmul hx hb dX1_eliminate_52 ?_
      refine lv_aload_n hx hb dX1_eliminate_53 rfl (lv_at hl 4 rfl) ?_
      refine va_get (D := D) (ci := 1) (C := RX1) (T := TX1) (N := 4) hx hb hts iX1 hown hK hP 0 rfl rfl 0 (by decide) (hts _ k_f_X1_13) (fun _ h9 => h9) rfl dX1_eliminate_54 ?_
      refine lv_iload_n hx hb dX1_eliminate_57 rfl (lv_at hl 6 rfl) ?_
      refine n_aald hx hb hK hP 1 3 rfl rfl (i := k) (by omega) (by decide) (if_pos (by omega)) dX1_eliminate_58 ?_
      refine lv_iload hx hb dX1_eliminate_59 (lv_at hl 0 rfl) ?_
      refine n_lald hx hb hK hP (4 + k) 1 (WE_at (by omega)) rfl (i := j) (by omega) (by decide) dX1_eliminate_61 ?_
      refine lv_lload hx hb dX1_eliminate_62 (lv_at hl 3 rfl) ?_
      refine lv_lmul hx hb dX1_eliminate_64 ?_
      refine lv_lsub hx hb dX1_eliminate_65 ?_
      refine t_l (show _ = M i j * M k t - M k j * M i t by rw [hhi j (Nat.le_refl _), hoth k (fun q => hik q.symm)]) ?_
      obtain ⟨hE, hEb⟩ := L_elim (hb1 j (by omega)) (hb2 t (by omega)) (hb2 j (by omega)) (hb1 t (by omega))
      generalize hX : M i j * M k t - M k j * M i t = X at hE hEb ⊢
      refine n_last hx hb hK hP hD hS (4 + i) 1 (WE_at (by omega)) rfl (i := j) (by omega) (by decide) dX1_eliminate_66 (fun H locs hP hD hS => ?_)
      rw [WE_set (by omega)] at hP hD
      have hP : va_P D vwCl (WE K a ao ap ab r (setM M' i j X) pv ip sv) H := hP
      have hD : va_D A (WE K a ao ap ab r (setM M' i j X) pv ip sv) := hD
      refine lv_lload hx hb dX1_eliminate_67 (lv_at hl 1 rfl) ?_
      refine lv_aload_n hx hb dX1_eliminate_69 rfl (lv_at hl 4 rfl) ?_
      refine va_get (D := D) (ci := 1) (C := RX1) (T := TX1) (N := 4) hx hb hts iX1 hown hK hP 0 rfl rfl 0 (by decide) (hts _ k_f_X1_13) (fun _ h9 => h9) rfl dX1_eliminate_70 ?_
      refine lv_iload_n hx hb dX1_eliminate_73 rfl (lv_at hl 5 rfl) ?_
      refine n_aald hx hb hK hP 1 3 rfl rfl (i := i) (by omega) (by decide) (if_pos (by omega)) dX1_eliminate_74 ?_
      refine lv_iload hx hb dX1_eliminate_75 (lv_at hl 0 rfl) ?_
      refine n_lald hx hb hK hP (4 + i) 1 (WE_at (by omega)) rfl (i := j) (by omega) (by decide) dX1_eliminate_77 ?_
      refine t_l (setM_same _ _ _ _) ?_
      refine va_calll (va_runS (As := [.long (lN (gU (eE M i k t) j)), .long X]) (rest := []) ⟨hx, hb, hml, hown, hts⟩ (c_X1_commonFactor l (lN (gU (eE M i k t) j)) X (by rw [lN_toI (by omega)]; omega) (by omega)) (va_cwS 2 hts (TB_S k_m_X1_40 k_st_X1_commonFactor k_in_X1 k_co_X1_commonFactor (fun _ h => h)) rfl rfl rfl (by decide +kernel) ⟨Nat.le_of_ble_eq_true rfl, Nat.le_of_ble_eq_true rfl⟩) ⟨tP_blind, tP_of⟩ rfl rfl hl.1 rfl (lv_room (Nat.le_of_ble_eq_true rfl)) dX1_eliminate_78 ⟨Nat.le_of_ble_eq_true rfl, Nat.le_of_ble_eq_true rfl⟩) hS (fun q _ h => absurd h id) (fun q h => absurd h id) (fun g u9 t9 H locs ht9 hvm hw hB hz1 hk1 hS => ?_)
      have hP := P_same hP hk1
      have hg2 : g = lN (gU (eE M i k t) (j + 1)) := by
        rw [hw, lN_toI (by omega), hE]; rfl
      subst hg2
      refine lv_lstore (lv' := [(8, .long (lN (gU (eE M i k t) (j + 1)))), (10, .int (nI j)), (6, .long (M k t)), (4, .long (M i t)), (0, .ref a), (1, .int (nI i)), (2, .int (nI k)), (3, .int (nI t))]) hx hb dX1_eliminate_81 hl (by decide) rfl (fun ls hl => ?_)
      refine lv_iinc (v := nI (j + 1)) (lv' := [(10, .int (nI (j + 1))), (8, .long (lN (gU (eE M i k t) (j + 1)))), (6, .long (M k t)), (4, .long (M i t)), (0, .ref a), (1, .int (nI i)), (2, .int (nI k)), (3, .int (nI t))]) hx hb dX1_eliminate_83 hl (k := 1) rfl (nI_add j 1) (by decide) rfl (fun ls hl => ?_)
      refine lv_goto (tgt := 26) hx hb dX1_eliminate_86 (by decide) ?_
      have hoth2 : ∀ x, x ≠ i → (setM M' i j X) x = M x := fun x hx9 => by rw [setM_row hx9]; exact hoth x hx9
      have hlo2 : ∀ b, b < j + 1 → ((setM M' i j X) i b).toInt = eE M i k t b := fun b hb9 => by
        by_cases q : b = j
        · subst q; rw [setM_same]; exact hE
        · rw [setM_col q]; exact hlo b (by omega)
      have hhi2 : ∀ b, j + 1 ≤ b → (setM M' i j X) i b = M i b := fun b hb9 => by rw [setM_col (by omega)]; exact hhi b (by omega)
      have hgb2 : gU (eE M i k t) (j + 1) ≤ 2 * (BB * BB) := gcd_bound hgb (by have e9 : eE M i k t j = X.toInt := hE.symm; rw [e9]; exact hEb)
      exact ih26 (j + 1) (setM M' i j X) _ _ _ (by omega) (by omega) hoth2 hlo2 hhi2 hgb2 hP hD hS (lv_sub hl [0, 1, 2, 3, 4, 5, 6, 7] rfl)
  exact L26 _ 0 M _ _ _ (Nat.lt_succ_self _) (by omega) (fun x _ => rfl) (fun b hb9 => absurd hb9 (Nat.not_lt_zero _)) (fun b _ => rfl) (Nat.zero_le _) hP hD hS (lv_sub hl [0, 1, 2, 3, 4, 5, 6, 7] rfl)
